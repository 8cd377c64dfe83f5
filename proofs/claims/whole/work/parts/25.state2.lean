/-! ===== the class: what its calls do to its state ===== -/
def ordr (L M : List Nat) : Int32 := ordT L (tk L) M (tk M)
def tellr (L M : List Nat) : Int32 := tellT L (tk L) M (tk M)
def up (txt : Nat → List Nat) (i : Nat) (P : List Nat) : Nat → List Nat := fun j => if j = i then P else txt j
def Jn (L : List Nat) (how k n : Nat) : Prop := 0 < L.length ∧ ¬ (how = 110 ∧ kd (cg L (L.length - 1)) = k) ∧ ¬ (how = 43 ∧ 45 ∉ L) ∧ L.length + (if how = 110 then n else 1 + n) ≤ 60
section GQ
variable {p : Program} {l : Launch} {e : Env} {R : Room} {s : State} {m : MethodId} {args : Array Value} {below : List Frame} {meth : Method} {c : Code} {H : Heap} {locs : List Loc} {cells slots : Nat} {Q : State → Prop}
variable {cc : ByteArray} {pc : Nat} {ls : Array Slot} {rest : List Value} {H0 : Heap} {G : gG}
/-- an object into an array of versions -/
theorem x_aast {A : Nat → Prop} {a n i v : Nat} {f : Nat → Option Nat} {fs : List Value} (hx : p.tables.exec = Jvm.exec) (hb : c.code = cc) (hK : gK G s) (hC : gQ G a 2 n f H) (hv : gO G v 1 fs H) (hi : i < n) (hn : n < 2147483648) (hS0 : va_S A H0 H locs) (hA : A a) (hdg : decode cc pc = .ok (.aastore, 1))
    (kk : ∀ (H1 : Heap) (locs1 : List Loc), gQ G a 2 n (va_up f i (some v)) H1 → gF a (a + 1) H H1 → H1.size = H.size → va_S A H0 H1 locs1 → W p l e R s m args below meth c H1 locs1 cells slots Q (F0 m (pc + 1) ls rest)) : W p l e R s m args below meth c H locs cells slots Q (F0 m pc ls (.ref v :: .int (nI i) :: .ref a :: rest)) := by
  have hlt : (nI i).toNatClampNeg < n := by rw [nI_clamp (by omega)]; exact hi
  obtain ⟨r', hr', cellV, g1, g2, g3, -⟩ := hv
  have hr2 : r' = (RX1, TX1, 4) := Option.some.inj (hr'.symm.trans rfl)
  subst hr2
  have hcls := (hK.1 1 (RX1, TX1, 4) rfl).2
  obtain ⟨kA, comp, k1, k2, k3, -⟩ := (hK.2 2 _ (gTys_at (by decide))).2
  have hcomp : comp = G.1.1 1 := Option.some.inj (k3.symm.trans hcls.1)
  subst hcomp
  obtain ⟨kC, hkC, -⟩ := hcls.2
  refine W.aast hx hb hC (fun q h => by cases h) (fun h => by cases h) k1 k2 rfl hkC ⟨nI_pos (by omega), by show _ < (arrV _ _ _).slots.size; rw [arrV_size]; exact hlt⟩ g1 (fun q h => by rw [g3] at h; cases h) (by rw [g2]; exact hkC) (by rw [g2]; exact va_assign hcls) rfl rfl hdg fun H1 e z oq => ?_
  refine kk H1 _ ?_ ⟨by rw [z]; exact Nat.le_refl _, fun q _ hq => oq q (show @Ne Nat q a by omega)⟩ z (hS0.put z oq hA)
  show H1[a]? = some (vp_cell _ _)
  rw [e, nI_clamp (by omega)]
  show some ((vp_cell _ _).setSlot _ _) = _
  rw [vp_cell_q, vp_cell_q, arrV_store]
  congr 2
  funext q
  by_cases hq : q = i
  · subst hq
    simp [updV, va_up, va_rf]
  · simp [updV, va_up, hq]
end GQ
theorem XB.dis {G : gG} {b sp i : Nat} {L : List Nat} {txt : Nat → List Nat} {sl : Nat → Nat} {H : Heap} (h : XB G b L txt sl sp H) (hi : i < 8) : vk b (sl i) + 12 ≤ vk b sp ∨ vk b sp + 12 ≤ vk b (sl i) := by
  have := h.n.2.1 i hi
  unfold vk
  omega
theorem XB.rng {G : gG} {b sp : Nat} {L : List Nat} {txt : Nat → List Nat} {sl : Nat → Nat} {H : Heap} (h : XB G b L txt sl sp H) : b + 7 ≤ vk b sp ∧ vk b sp + 12 ≤ b + 115 := by
  have := h.n.1
  unfold vk
  omega
theorem XB.rngi {G : gG} {b sp i : Nat} {L : List Nat} {txt : Nat → List Nat} {sl : Nat → Nat} {H : Heap} (h : XB G b L txt sl sp H) (hi : i < 8) : b + 7 ≤ vk b (sl i) ∧ vk b (sl i) + 12 ≤ b + 115 := by
  have := h.n.2.1 i hi
  unfold vk
  omega
/-- the spare version and the one of a slot change places -/
theorem XB.exch {G : gG} {b sp i : Nat} {L P : List Nat} {txt : Nat → List Nat} {sl : Nat → Nat} {H H1 H2 : Heap} {f3 : Nat → Option Nat} (h : XB G b L txt sl sp H) (hP : VR G (vk b sp) P (tk P) H) (gP : Gt P) (hi : i < 8) (f1 : gF (b + 3) (b + 3 + 1) H H1) (f2 : gF b (b + 1) H1 H2)
    (hO : gO G b 2 [.ref (b + 1), .ref (b + 3), .ref (b + 4), .ref (b + 5), .ref (b + 6), .ref (vk b (sl i))] H2) (hSl : gQ G (b + 3) 2 8 (va_up f3 i (some (vk b sp))) H2) (hsl : ∀ i, i < 8 → f3 i = some (vk b (sl i))) : XW G b L (up txt i P) H2 := by
  have hr := h.rng
  have hri := h.rngi hi
  obtain ⟨h1, h2, ⟨f3', h3, h3b⟩, ⟨f4, h4⟩, ⟨f5, h5⟩, ⟨f6, h6⟩, h7, h8, h9, h10⟩ := h
  refine ⟨fun j => if j = i then sp else sl j, sl i, txt i, ⟨hO, (h2.fr f1 (by omega)).fr f2 (by omega), ⟨_, hSl, fun j hj => ?_⟩, ⟨f4, (h4.fr f1 (by omega)).fr f2 (by omega)⟩, ⟨f5, (h5.fr f1 (by omega)).fr f2 (by omega)⟩, ⟨f6, (h6.fr f1 (by omega)).fr f2 (by omega)⟩, fun j hj => ?_, ⟨(h8.2.1 i hi).1, fun j hj => ?_, fun j k hj hk e => ?_⟩, fun j hj => ?_, h10⟩, (((h7 i hi).fr f1 (by omega)).fr f2 (by omega)).vo⟩
  · by_cases e : j = i
    · subst e; simp [va_up]
    · simp [va_up, e, hsl j hj]
  · by_cases e : j = i
    · subst e
      simp only [if_pos, up]
      exact (hP.fr f1 (by omega)).fr f2 (by omega)
    · have hrj : b + 7 ≤ vk b (sl j) := by unfold vk; omega
      simp only [if_neg e, up]
      exact ((h7 j hj).fr f1 (by omega)).fr f2 (by omega)
  · by_cases e : j = i
    · subst e
      simp only [if_pos]
      exact ⟨h8.1, fun g => (h8.2.1 j hj).2 g.symm⟩
    · simp only [if_neg e]
      exact ⟨(h8.2.1 j hj).1, fun g => e (h8.2.2 j i hj hi g)⟩
  · by_cases e1 : j = i <;> by_cases e2 : k = i
    · rw [e1, e2]
    · simp only [if_pos e1, if_neg e2] at e
      exact absurd e.symm (h8.2.1 k hk).2
    · simp only [if_neg e1, if_pos e2] at e
      exact absurd e (h8.2.1 j hj).2
    · simp only [if_neg e1, if_neg e2] at e
      exact h8.2.2 j k hj hk e
  · by_cases e : j = i
    · subst e; simp only [up, if_pos]; exact gP
    · simp only [up, if_neg e]; exact h9 j hj
theorem XW.fr {G : gG} {b lo hi : Nat} {L : List Nat} {txt : Nat → List Nat} {H H1 : Heap} (h : XW G b L txt H) (f : gF lo hi H H1) (hd : b + 115 ≤ lo ∨ hi ≤ b ∨ hi ≤ lo) : XW G b L txt H1 := by
  obtain ⟨sl, sp, P, hB, hV⟩ := h
  have hr := hB.rng
  refine ⟨sl, sp, P, hB.fr f (by omega), ?_⟩
  rcases hd with hd | hd | hd
  · exact hV.fr f (by omega)
  · exact hV.fr f (by omega)
  · exact hV.fr (gF.widen (lo := 0) (hi := 0) f (by omega)) (by omega)
theorem XW.recv {G : gG} {b : Nat} {L : List Nat} {txt : Nat → List Nat} {H : Heap} {s : State} (hK : gK G s) (h : XW G b L txt H) : ∃ cell : Cell, H[b]? = some cell ∧ cell.vm.isStatics = false ∧ s.vm.findClass RX2 = some cell.cls := by
  obtain ⟨sl, sp, P, hB, hV⟩ := h
  exact hB.recv hK
theorem XW.mk' {G : gG} {b sp : Nat} {L P : List Nat} {txt : Nat → List Nat} {sl : Nat → Nat} {H : Heap} (hB : XB G b L txt sl sp H) (hV : Vo G (vk b sp) P H) : XW G b L txt H := ⟨sl, sp, P, hB, hV⟩
theorem okNum {x : Int32} {n : Nat} (hn : n < 2147483647) : nI 0 ≤ x ∧ x ≤ nI n ↔ okN (n + 1) x := by
  rw [okN_le hn, nI_0, Int32.not_lt]
theorem okNum1 {x : Int32} {n : Nat} (hn : n < 2147483647) : nI 1 ≤ x ∧ x ≤ nI n ↔ ∃ i : Nat, 1 ≤ i ∧ i ≤ n ∧ x = nI i := by
  constructor
  · rintro ⟨h1, h2⟩
    have h0 : ¬ x < 0 := by
      rw [Int32.lt_iff_toInt_lt] 
      rw [Int32.le_iff_toInt_le] at h1
      have e1 : (nI 1).toInt = 1 := by decide
      have e0 : (0 : Int32).toInt = 0 := by decide
      rw [e1] at h1
      rw [e0]
      omega
    obtain ⟨j, hj, rfl⟩ := nI_of h0
    exact ⟨j, (nI_leI (by decide) hj).mp h1, (nI_leI hj (by omega)).mp h2, rfl⟩
  · rintro ⟨i, h1, h2, rfl⟩
    exact ⟨nI_le h1 (by omega), nI_le h2 (by omega)⟩
/-- texts that are put together stay told ones -/
theorem kd_ltr {r : Nat} (h : r < 52) : kd (ltr r) = 2 := by
  unfold ltr
  split
  · exact kd_letter (by omega) (by omega) (by omega) (by omega)
  · exact kd_letter (by omega) (by omega) (by omega) (by omega)
theorem pf_pre {A B : List Nat} : ∀ q, q ≤ A.length → pf (A ++ B) q = pf A q := by
  intro q
  induction q with
  | zero => intro _; rfl
  | succ q ih =>
    intro hq
    show pstep (A ++ B) q (pf (A ++ B) q) = pstep A q (pf A q)
    rw [ih (by omega)]
    unfold pstep
    rw [cg_app (by omega)]
theorem grow_add {T : Tk} {r a e : Nat} {x : Nat × Nat} (hx : x.1 = a) : growT (addT T r x) r e = addT T r (a, e) := by
  funext j
  by_cases h : j = r
  · subst h
    rw [growT_self, addT_self, addT_self, List.dropLast_concat]
    rw [show (T j ++ [x]).length - 1 = (T j).length by simp, tg_new, hx]
  · rw [growT_ne h, addT_ne h, addT_ne h]
theorem pf_runA {L : List Nat} {q : Nat} (hk : kd (cg L q) ≠ 0) (hb : kd (cg L q) ≠ (pf L q).2.1) : ∀ e, q < e → (∀ j, q ≤ j → j < e → kd (cg L j) = kd (cg L q)) → pf L e = ((pf L q).1, kd (cg L q), addT (pf L q).2.2 (pf L q).1 (q, e)) := by
  intro e
  induction e with
  | zero => intro h; omega
  | succ e ih =>
    intro hqe hs
    show pstep L e (pf L e) = _
    by_cases c : q = e
    · subst c
      rw [pstep_new hk hb, grow_add rfl]
    · have ih := ih (by omega) (fun j h1 h2 => hs j h1 (by omega))
      have he := hs e (by omega) (by omega)
      rw [ih, pstep_old (by rw [he]; exact hk) he]
      rw [he, grow_add rfl]
theorem pf_kd {L : List Nat} (q : Nat) : (pf L (q + 1)).2.1 = kd (cg L q) := by
  show (pstep L q (pf L q)).2.1 = _
  unfold pstep
  split
  · rename_i h; exact h.symm
  · split <;> rfl
theorem nv_pre {A B : List Nat} {s : Nat} : ∀ k, s + k ≤ A.length → nv (A ++ B) s k = nv A s k := by
  intro k
  induction k with
  | zero => intro _; rfl
  | succ k ih =>
    intro h
    show 10 * nv (A ++ B) s k + (cg (A ++ B) (s + k) - 48) = 10 * nv A s k + (cg A (s + k) - 48)
    rw [ih (by omega), cg_app (by omega)]
theorem nv_cat {L : List Nat} {s a : Nat} : ∀ b, nv L s (a + b) = nv L s a * 10 ^ b + nv L (s + a) b := by
  intro b
  induction b with
  | zero => simp [nv]
  | succ b ih =>
    show 10 * nv L s (a + b) + (cg L (s + (a + b)) - 48) = nv L s a * 10 ^ (b + 1) + (10 * nv L (s + a) b + (cg L (s + a + b) - 48))
    rw [ih, Nat.pow_succ, Nat.add_assoc s a b, Nat.mul_add]
    rw [show 10 * (nv L s a * 10 ^ b) = nv L s a * (10 ^ b * 10) by rw [Nat.mul_comm 10, Nat.mul_assoc]]
    omega
theorem nv_zero {L : List Nat} {s : Nat} : ∀ k, (∀ j, j < k → cg L (s + j) = 48) → nv L s k = 0 := by
  intro k
  induction k with
  | zero => intro _; rfl
  | succ k ih =>
    intro h
    show 10 * nv L s k + (cg L (s + k) - 48) = 0
    rw [ih (fun j hj => h j (by omega)), h k (by omega)]
theorem nv_dg (n : Nat) : ∀ C : List Nat, nv (C ++ dg n) C.length (dgs n) = n := by
  induction n using Nat.strongRecOn with
  | _ n ih =>
    intro C
    rcases Nat.lt_or_ge n 10 with h | h
    · rw [dgs_small h, dg_small h]
      show 10 * 0 + (cg (C ++ [48 + n]) (C.length + 0) - 48) = n
      rw [Nat.add_zero, cg_new]
      omega
    · have h2 := ih (n / 10) (by omega) C
      rw [dgs_step h, dg_step h, ← List.append_assoc]
      show 10 * nv (C ++ dg (n / 10) ++ [48 + n % 10]) C.length (dgs (n / 10)) + (cg (C ++ dg (n / 10) ++ [48 + n % 10]) (C.length + dgs (n / 10)) - 48) = n
      have e : (C ++ dg (n / 10)).length = C.length + dgs (n / 10) := by rw [List.length_append]; rfl
      rw [nv_pre _ (by rw [e]; exact Nat.le_refl _), h2, ← e, cg_new]
      omega
theorem cg_rep {A : List Nat} {z j : Nat} (h : j < z) {D : List Nat} : cg (A ++ (List.replicate z 48 ++ D)) (A.length + j) = 48 := by
  rw [cg_app2, cg_app (by rw [List.length_replicate]; exact h)]
  unfold cg
  simp [List.getD, List.getElem?_replicate, h]
theorem nv_num {A : List Nat} {n z : Nat} : nv (A ++ num n z) A.length (num n z).length = n := by
  have hl : (num n z).length = z + dgs n := by unfold num; rw [List.length_append, List.length_replicate]; rfl
  rw [hl]
  unfold num
  rw [nv_cat, nv_zero z (fun j hj => cg_rep hj), Nat.zero_mul, Nat.zero_add]
  have h := nv_dg n (A ++ List.replicate z 48)
  rw [List.length_append, List.length_replicate, List.append_assoc] at h
  exact h
theorem num_dig {n z c : Nat} (h : c ∈ num n z) : 48 ≤ c ∧ c ≤ 57 := by
  unfold num at h
  rcases List.mem_append.mp h with h | h
  · rw [List.eq_of_mem_replicate h]; omega
  · exact dg_lt n c h
theorem wd_mem {r : Nat} : ∀ {k c : Nat}, c ∈ wd r k → ∃ j, j < 52 ∧ c = ltr j := by
  intro k
  induction k with
  | zero => intro c h; cases h
  | succ k ih =>
    intro c h
    rcases List.mem_append.mp h with h | h
    · exact ih h
    · exact ⟨_, Nat.mod_lt _ (by decide), List.mem_singleton.mp h⟩
/-- what is read, when signs of one kind stand behind -/
theorem pf_blk {A B : List Nat} {k : Nat} (hB : 0 < B.length) (hk0 : k ≠ 0) (hBk : ∀ c ∈ B, kd c = k) (hb : (pf A A.length).2.1 ≠ k) : pf (A ++ B) (A ++ B).length = ((pf A A.length).1, k, addT (pf A A.length).2.2 (pf A A.length).1 (A.length, A.length + B.length)) := by
  have hpre := pf_pre (A := A) (B := B) A.length (Nat.le_refl _)
  have hc : ∀ j, j < B.length → kd (cg (A ++ B) (A.length + j)) = k := fun j hj => by rw [cg_app2]; exact hBk _ (cg_mem hj)
  have h0 : kd (cg (A ++ B) A.length) = k := hc 0 hB
  have h := pf_runA (L := A ++ B) (q := A.length) (by rw [h0]; exact hk0) (by rw [h0, hpre]; exact fun g => hb g.symm) (A.length + B.length) (by omega) (fun j h1 h2 => by
    obtain ⟨i, rfl⟩ : ∃ i, j = A.length + i := ⟨j - A.length, by omega⟩
    rw [h0]; exact hc i (by omega))
  rw [List.length_append, h, hpre, h0]
theorem Gt_app {A B : List Nat} {k : Nat} (hB : 0 < B.length) (hk0 : k ≠ 0) (hBk : ∀ c ∈ B, kd c = k) (hb : (pf A A.length).2.1 ≠ k) (hJ : ∀ r, r < 3 → ∀ i, i < ((pf A A.length).2.2 r).length → kd (cg A (tg ((pf A A.length).2.2 r) i).1) = 1 → nv A (tg ((pf A A.length).2.2 r) i).1 ((tg ((pf A A.length).2.2 r) i).2 - (tg ((pf A A.length).2.2 r) i).1) < 2147483648) (h2 : (pf A A.length).1 = 2 → 0 < ((pf A A.length).2.2 1).length) (hnum : k = 1 → nv (A ++ B) A.length B.length < 2147483648) (hlen : (A ++ B).length ≤ 60) (hch : ∀ c ∈ A ++ B, c < 65536) : Gt (A ++ B) := by
  have hp := pf_blk hB hk0 hBk hb
  have hi := pf_inv A A.length
  generalize hz : pf A A.length = z at hp hi hJ h2
  obtain ⟨r, kk, T⟩ := z
  have hlenA : (A ++ B).length = A.length + B.length := List.length_append
  have htk : tk (A ++ B) = addT T r (A.length, A.length + B.length) := by unfold tk; rw [hp]
  have hr : r < 3 := hi.1
  have hT : ∀ r i, i < (T r).length → (tg (T r) i).1 < (tg (T r) i).2 ∧ (tg (T r) i).2 ≤ A.length := fun r i h => ⟨(hi.2.2.2.1 r i h).1, (hi.2.2.2.1 r i h).2.1⟩
  unfold Gt
  rw [hp, htk]
  refine ⟨hk0, fun r1 hr1 i hi1 => ?_, fun h => ?_, fun h => ?_, hlen, hch⟩
  · by_cases e : r1 = r
    · subst e
      rw [addT_self] at hi1 ⊢
      rw [List.length_append, List.length_singleton] at hi1
      by_cases c : i = (T r1).length
      · subst c
        rw [tg_new]
        refine ⟨by show A.length < A.length + B.length; omega, by show A.length + B.length ≤ _; omega, by show A.length + B.length - A.length < _; omega, fun hk => ?_⟩
        show nv (A ++ B) A.length (A.length + B.length - A.length) < _
        rw [Nat.add_sub_cancel_left]
        refine hnum ?_
        have h0 : kd (cg (A ++ B) (A.length + 0)) = k := by rw [cg_app2]; exact hBk _ (cg_mem hB)
        exact h0.symm.trans hk
      · rw [tg_app (by omega)]
        obtain ⟨g1, g2⟩ := hT r1 i (by omega)
        refine ⟨g1, by omega, by omega, fun hk => ?_⟩
        rw [nv_pre _ (by omega)]
        rw [cg_app (by omega)] at hk
        exact hJ r1 hr1 i (show i < (T r1).length by omega) hk
    · rw [addT_ne e] at hi1 ⊢
      obtain ⟨g1, g2⟩ := hT r1 i hi1
      refine ⟨g1, by omega, by omega, fun hk => ?_⟩
      rw [nv_pre _ (by omega)]
      rw [cg_app (by omega)] at hk
      exact hJ r1 hr1 i hi1 hk
  · have h : 1 ≤ r := h
    by_cases e : r = 1
    · subst e; rw [addT_self]; simp
    · rw [addT_ne (by omega)]
      exact h2 (by show r = 2; omega)
  · have h : r = 2 := h
    subst h
    rw [addT_self]; simp
/-- behind a told text, with a joint or not -/
theorem Gt_jn {L B : List Nat} {k how : Nat} (hL : Gt L) (hw : isWay how) (hk : ¬ (how = 110 ∧ kd (cg L (L.length - 1)) = k)) (hB : 0 < B.length) (hk0 : k ≠ 0) (hBk : ∀ c ∈ B, kd c = k) (hnum : k = 1 → nv (jn L how ++ B) (jn L how).length B.length < 2147483648) (hlen : (jn L how ++ B).length ≤ 60) (hch : ∀ c ∈ B, c < 65536) : Gt (jn L how ++ B) := by
  have hpos : 0 < L.length := by
    cases L with
    | nil => exact absurd rfl hL.1
    | cons a l => exact Nat.succ_pos _
  have hlast : (pf L L.length).2.1 = kd (cg L (L.length - 1)) := by
    have h := pf_kd (L := L) (L.length - 1)
    rw [show L.length - 1 + 1 = L.length by omega] at h
    exact h
  have hJ : ∀ r, r < 3 → ∀ i, i < ((pf L L.length).2.2 r).length → kd (cg L (tg ((pf L L.length).2.2 r) i).1) = 1 → nv L (tg ((pf L L.length).2.2 r) i).1 ((tg ((pf L L.length).2.2 r) i).2 - (tg ((pf L L.length).2.2 r) i).1) < 2147483648 := fun r hr i hi => (hL.2.1 r hr i hi).2.2.2
  have h1 : 1 ≤ (pf L L.length).1 → 0 < ((pf L L.length).2.2 1).length := hL.2.2.1
  by_cases e : how = 110
  · have ej : jn L how = L := if_pos e
    rw [ej] at hnum hlen ⊢
    refine Gt_app hB hk0 hBk (by rw [hlast]; exact fun g => hk ⟨e, g⟩) hJ (fun g => h1 (by rw [g]; decide)) hnum hlen (fun c hc => ?_)
    rcases List.mem_append.mp hc with h | h
    · exact hL.2.2.2.2.2 c h
    · exact hch c h
  · have ej : jn L how = L ++ [how] := if_neg e
    have hkh : kd how = 0 := kd_joint (by unfold isWay at hw; omega)
    rw [ej] at hnum hlen ⊢
    have hpre := pf_pre (A := L) (B := [how]) L.length (Nat.le_refl _)
    have hp : pf (L ++ [how]) (L ++ [how]).length = (rowB (pf L L.length).1 how, 0, (pf L L.length).2.2) := by
      rw [List.length_append, List.length_singleton]
      show pstep (L ++ [how]) L.length (pf (L ++ [how]) L.length) = _
      rw [hpre, pstep_joint (by rw [cg_new]; exact hkh), cg_new]
    have hTb : ∀ r i, i < ((pf L L.length).2.2 r).length → (tg ((pf L L.length).2.2 r) i).1 < (tg ((pf L L.length).2.2 r) i).2 ∧ (tg ((pf L L.length).2.2 r) i).2 ≤ L.length := fun r i h => ⟨((pf_inv L L.length).2.2.2.1 r i h).1, ((pf_inv L L.length).2.2.2.1 r i h).2.1⟩
    refine Gt_app hB hk0 hBk (by rw [hp]; exact fun g => hk0 g.symm) ?_ ?_ hnum hlen (fun c hc => ?_)
    · rw [hp]
      intro r hr i hi hkk
      have hi : i < ((pf L L.length).2.2 r).length := hi
      have hkk : kd (cg (L ++ [how]) (tg ((pf L L.length).2.2 r) i).1) = 1 := hkk
      show nv (L ++ [how]) (tg ((pf L L.length).2.2 r) i).1 ((tg ((pf L L.length).2.2 r) i).2 - (tg ((pf L L.length).2.2 r) i).1) < 2147483648
      obtain ⟨g1, g2⟩ := hTb r i hi
      rw [cg_app (by omega)] at hkk
      rw [nv_pre _ (by omega)]
      exact hJ r hr i hi hkk
    · rw [hp]
      intro g
      refine h1 ?_
      have g : rowB (pf L L.length).1 how = 2 := g
      unfold rowB at g
      split at g
      · omega
      · split at g
        · rename_i q; omega
        · omega
    · rcases List.mem_append.mp hc with h | h
      · rcases List.mem_append.mp h with h | h
        · exact hL.2.2.2.2.2 c h
        · rw [List.mem_singleton.mp h]; unfold isWay at hw; omega
      · exact hch c h
theorem num_pos {n z : Nat} : 0 < (num n z).length := by
  unfold num
  rw [List.length_append]
  have := dgs_pos n
  unfold dgs at this
  omega
theorem Gt_begin {n z : Nat} (hn : n < 1000000000) (hz : z ≤ 3) : Gt (num n z) := by
  have h9 := dgs_le 8 n hn
  have hl : (num n z).length = z + dgs n := by unfold num; rw [List.length_append, List.length_replicate]; rfl
  refine Gt_app (A := []) (B := num n z) (k := 1) num_pos (by decide) (fun c hc => kd_digit (num_dig hc).1 (num_dig hc).2) (by decide) (fun r _ i hi => absurd hi (Nat.not_lt_zero _)) (fun h => absurd h (by decide)) (fun _ => ?_) (by show (num n z).length ≤ 60; omega) (fun c hc => by have := num_dig hc; omega)
  rw [nv_num]
  omega
theorem Gt_num {L : List Nat} {n z how : Nat} (hL : Gt L) (hw : isWay how) (hk : ¬ (how = 110 ∧ kd (cg L (L.length - 1)) = 1)) (hn : n < 1000000000) (hz : z ≤ 3) (hlen : (jn L how ++ num n z).length ≤ 60) : Gt (jn L how ++ num n z) :=
  Gt_jn hL hw hk num_pos (by decide) (fun c hc => kd_digit (num_dig hc).1 (num_dig hc).2) (fun _ => by rw [nv_num]; omega) hlen (fun c hc => by have := num_dig hc; omega)
theorem Gt_word {L : List Nat} {r k how : Nat} (hL : Gt L) (hw : isWay how) (hk : ¬ (how = 110 ∧ kd (cg L (L.length - 1)) = 2)) (hk1 : 1 ≤ k) (hk5 : k ≤ 5) (hlen : (jn L how ++ wd r k).length ≤ 60) : Gt (jn L how ++ wd r k) :=
  Gt_jn hL hw hk (by rw [wd_len]; omega) (by decide) (fun c hc => by obtain ⟨j, hj, rfl⟩ := wd_mem hc; exact kd_ltr hj) (fun h => absurd h (by decide)) hlen (fun c hc => by obtain ⟨j, hj, rfl⟩ := wd_mem hc; have := ltr_lt hj; omega)
theorem Gt_let {L : List Nat} {x : Nat} (hL : Gt L) (h1 : 97 ≤ x) (h2 : x ≤ 122) (hlen : L.length + 2 ≤ 60) : Gt (L ++ [45] ++ [x]) := by
  have e : jn L 45 = L ++ [45] := if_neg (by decide)
  rw [← e]
  refine Gt_jn (k := 2) hL (Or.inr (Or.inr (Or.inl rfl))) (fun g => absurd g.1 (by decide)) Nat.zero_lt_one (by decide) (fun c hc => by rw [List.mem_singleton.mp hc]; exact kd_letter (by omega) (by omega) (by omega) (by omega)) (fun h => absurd h (by decide)) (by rw [e]; simp; omega) (fun c hc => by rw [List.mem_singleton.mp hc]; omega)
theorem dgs_lo {n : Nat} (h : n < 1000000000) : dgs n ≤ 9 := dgs_le 8 n h
theorem num_len (n z : Nat) : (num n z).length = z + dgs n := by unfold num dgs; simp
theorem jn_len {L : List Nat} {how n : Nat} : (jn L how).length + n = L.length + (if how = 110 then n else 1 + n) := by
  unfold jn
  split
  · rfl
  · simp; omega
/-- an int is one of 1 .. n -/
def okP (n : Nat) (x : Int32) : Prop := ∃ i : Nat, 1 ≤ i ∧ i ≤ n ∧ x = nI i
theorem okP_iff {x : Int32} {n : Nat} (hn : n < 2147483647) : okP n x ↔ nI 1 ≤ x ∧ x ≤ nI n := (okNum1 hn).symm
theorem okNum1b {x : Int32} {n : Nat} (h : nI 1 ≤ x ∧ x ≤ nI n) (hn : n < 2147483647 := by decide) : ∃ i : Nat, (1 ≤ i ∧ i ≤ n) ∧ x = nI i := by
  obtain ⟨i, h1, h2, h3⟩ := (okNum1 hn).mp h
  exact ⟨i, ⟨h1, h2⟩, h3⟩
theorem okP_of {k n : Nat} (h : 1 ≤ k ∧ k ≤ n) : okP n (nI k) := ⟨k, h.1, h.2, rfl⟩
def cntB (f : Nat → Bool) : Nat → Nat
  | 0 => 0
  | n + 1 => cntB f n + (if f n = true then 1 else 0)
theorem cntB_t {f : Nat → Bool} {n : Nat} (h : f n = true) : cntB f (n + 1) = cntB f n + 1 := by
  show cntB f n + (if f n = true then 1 else 0) = _
  rw [if_pos h]
theorem cntB_f {f : Nat → Bool} {n : Nat} (h : f n = false) : cntB f (n + 1) = cntB f n := by
  show cntB f n + (if f n = true then 1 else 0) = _
  rw [if_neg (by rw [h]; decide)]
  rfl
theorem Gt_dot {L : List Nat} {n : Nat} (hL : Gt L) (hn : n < 1000000000) (hlen : L.length + (1 + dgs n) ≤ 60) : Gt (L ++ [46] ++ dg n) := by
  have := Gt_num (L := L) (n := n) (z := 0) (how := 46) hL (Or.inr (Or.inl rfl)) (fun h => absurd h.1 (by decide)) hn (by decide) (by rw [List.length_append, num_len, jn_len]; exact (by simpa using hlen))
  exact this
theorem Gt_plus {L : List Nat} {n : Nat} (hL : Gt L) (hn : n < 1000000000) (hlen : L.length + (1 + dgs n) ≤ 60) : Gt (L ++ [43] ++ dg n) := by
  have := Gt_num (L := L) (n := n) (z := 0) (how := 43) hL (Or.inr (Or.inr (Or.inr rfl))) (fun h => absurd h.1 (by decide)) hn (by decide) (by rw [List.length_append, num_len, jn_len]; exact (by simpa using hlen))
  exact this
def chs (txt : Nat → List Nat) (t : Int64) : Nat → Int64
  | 0 => t
  | n + 1 => adl (txt n) (chs txt t n) (txt n).length
