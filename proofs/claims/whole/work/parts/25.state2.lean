/-! ===== the class: what its calls do to its state ===== -/
def ordr (L M : List Nat) : Int32 := ordT L (tk L) M (tk M)
def tellr (L M : List Nat) : Int32 := tellT L (tk L) M (tk M)
def up (txt : Nat → List Nat) (i : Nat) (P : List Nat) : Nat → List Nat := fun j => if j = i then P else txt j
def Jn (L : List Nat) (how k n : Nat) : Prop := 0 < L.length ∧ ¬ (how = 110 ∧ kd (cg L (L.length - 1)) = k) ∧ ¬ (how = 43 ∧ 45 ∉ L) ∧ L.length + (if how = 110 then n else 1 + n) ≤ 60
section GQ
variable {p : Program} {l : Launch} {e : Env} {R : Room} {s : State} {m : MethodId} {args : Array Value} {below : List Frame} {meth : Method} {c : Code} {H : Heap} {locs : List Loc} {cells slots : Nat} {Q : State → Prop}
variable {cc : ByteArray} {pc : Nat} {ls : Array Slot} {rest : List Value} {H0 : Heap} {G : gG}
/-- an object into an array of versions -/
theorem x_aast {A : Nat → Prop} {a n i v : Nat} {f : Nat → Option Nat} {fs : List Value} (hx : p.tables.exec = Jvm.exec) (hb : c.code = cc) (hK : gK G s) (hC : gQ G a 2 n f H) (hv : gO G v 1 fs H) (hi : i < n) (hn : n < 2147483648) (hS0 : va_S A H0 H locs) (hA : A a) (hdg : decode cc pc = .ok (.aastore, 1))
    (kk : ∀ (H1 : Heap) (locs1 : List Loc), gQ G a 2 n (va_up f i (some v)) H1 → gF a (a + 1) H H1 → H1.size = H.size → va_S A H0 H1 locs1 → W p l e R s m args below meth c H1 locs1 cells slots Q (F0 m (pc + 1) ls rest)) : W p l e R s m args below meth c H locs cells slots Q (F0 m pc ls (.ref v :: .int (nI i) :: .ref a :: rest)) := by
  have hlt : (nI i).toNatClampNeg < n := by rw [nI_clamp (by omega)]; exact hi
  obtain ⟨r', hr', cellV, g1, g2, g3, -⟩ := hv
  have hr2 : r' = (RX1, TX1, 4) := Option.some.inj (hr'.symm.trans rfl)
  subst hr2
  have hcls := (hK.1 1 (RX1, TX1, 4) rfl).2
  obtain ⟨kA, comp, k1, k2, k3, -⟩ := (hK.2 2 _ (gTys_at (by decide))).2
  have hcomp : comp = G.1.1 1 := Option.some.inj (k3.symm.trans hcls.1)
  subst hcomp
  obtain ⟨kC, hkC, -⟩ := hcls.2
  refine W.aast hx hb hC (fun q h => by cases h) (fun h => by cases h) k1 k2 rfl hkC ⟨nI_pos (by omega), by show _ < (arrV _ _ _).slots.size; rw [arrV_size]; exact hlt⟩ g1 (fun q h => by rw [g3] at h; cases h) (by rw [g2]; exact hkC) (by rw [g2]; exact va_assign hcls) rfl rfl hdg fun H1 e z oq => ?_
  refine kk H1 _ ?_ ⟨by rw [z]; exact Nat.le_refl _, fun q _ hq => oq q (show @Ne Nat q a by omega)⟩ z (hS0.put z oq hA)
  show H1[a]? = some (vp_cell _ _)
  rw [e, nI_clamp (by omega)]
  show some ((vp_cell _ _).setSlot _ _) = _
  rw [vp_cell_q, vp_cell_q, arrV_store]
  congr 2
  funext q
  by_cases hq : q = i
  · subst hq
    simp [updV, va_up, va_rf]
  · simp [updV, va_up, hq]
end GQ
theorem XB.dis {G : gG} {b sp i : Nat} {L : List Nat} {txt : Nat → List Nat} {sl : Nat → Nat} {H : Heap} (h : XB G b L txt sl sp H) (hi : i < 8) : vk b (sl i) + 12 ≤ vk b sp ∨ vk b sp + 12 ≤ vk b (sl i) := by
  have := h.n.2.1 i hi
  unfold vk
  omega
theorem XB.rng {G : gG} {b sp : Nat} {L : List Nat} {txt : Nat → List Nat} {sl : Nat → Nat} {H : Heap} (h : XB G b L txt sl sp H) : b + 7 ≤ vk b sp ∧ vk b sp + 12 ≤ b + 115 := by
  have := h.n.1
  unfold vk
  omega
theorem XB.rngi {G : gG} {b sp i : Nat} {L : List Nat} {txt : Nat → List Nat} {sl : Nat → Nat} {H : Heap} (h : XB G b L txt sl sp H) (hi : i < 8) : b + 7 ≤ vk b (sl i) ∧ vk b (sl i) + 12 ≤ b + 115 := by
  have := h.n.2.1 i hi
  unfold vk
  omega
/-- the spare version and the one of a slot change places -/
theorem XB.exch {G : gG} {b sp i : Nat} {L P : List Nat} {txt : Nat → List Nat} {sl : Nat → Nat} {H H1 H2 : Heap} {f3 : Nat → Option Nat} (h : XB G b L txt sl sp H) (hP : VR G (vk b sp) P (tk P) H) (gP : Gt P) (hi : i < 8) (f1 : gF (b + 3) (b + 3 + 1) H H1) (f2 : gF b (b + 1) H1 H2)
    (hO : gO G b 2 [.ref (b + 1), .ref (b + 3), .ref (b + 4), .ref (b + 5), .ref (b + 6), .ref (vk b (sl i))] H2) (hSl : gQ G (b + 3) 2 8 (va_up f3 i (some (vk b sp))) H2) (hsl : ∀ i, i < 8 → f3 i = some (vk b (sl i))) : XW G b L (up txt i P) H2 := by
  have hr := h.rng
  have hri := h.rngi hi
  obtain ⟨h1, h2, ⟨f3', h3, h3b⟩, ⟨f4, h4⟩, ⟨f5, h5⟩, ⟨f6, h6⟩, h7, h8, h9, h10⟩ := h
  refine ⟨fun j => if j = i then sp else sl j, sl i, txt i, ⟨hO, (h2.fr f1 (by omega)).fr f2 (by omega), ⟨_, hSl, fun j hj => ?_⟩, ⟨f4, (h4.fr f1 (by omega)).fr f2 (by omega)⟩, ⟨f5, (h5.fr f1 (by omega)).fr f2 (by omega)⟩, ⟨f6, (h6.fr f1 (by omega)).fr f2 (by omega)⟩, fun j hj => ?_, ⟨(h8.2.1 i hi).1, fun j hj => ?_, fun j k hj hk e => ?_⟩, fun j hj => ?_, h10⟩, (((h7 i hi).fr f1 (by omega)).fr f2 (by omega)).vo⟩
  · by_cases e : j = i
    · subst e; simp [va_up]
    · simp [va_up, e, hsl j hj]
  · by_cases e : j = i
    · subst e
      simp only [if_pos, up]
      exact (hP.fr f1 (by omega)).fr f2 (by omega)
    · have hrj : b + 7 ≤ vk b (sl j) := by unfold vk; omega
      simp only [if_neg e, up]
      exact ((h7 j hj).fr f1 (by omega)).fr f2 (by omega)
  · by_cases e : j = i
    · subst e
      simp only [if_pos]
      exact ⟨h8.1, fun g => (h8.2.1 j hj).2 g.symm⟩
    · simp only [if_neg e]
      exact ⟨(h8.2.1 j hj).1, fun g => e (h8.2.2 j i hj hi g)⟩
  · by_cases e1 : j = i <;> by_cases e2 : k = i
    · rw [e1, e2]
    · simp only [if_pos e1, if_neg e2] at e
      exact absurd e.symm (h8.2.1 k hk).2
    · simp only [if_neg e1, if_pos e2] at e
      exact absurd e (h8.2.1 j hj).2
    · simp only [if_neg e1, if_neg e2] at e
      exact h8.2.2 j k hj hk e
  · by_cases e : j = i
    · subst e; simp only [up, if_pos]; exact gP
    · simp only [up, if_neg e]; exact h9 j hj
theorem XW.fr {G : gG} {b lo hi : Nat} {L : List Nat} {txt : Nat → List Nat} {H H1 : Heap} (h : XW G b L txt H) (f : gF lo hi H H1) (hd : b + 115 ≤ lo ∨ hi ≤ b ∨ hi ≤ lo) : XW G b L txt H1 := by
  obtain ⟨sl, sp, P, hB, hV⟩ := h
  have hr := hB.rng
  refine ⟨sl, sp, P, hB.fr f (by omega), ?_⟩
  rcases hd with hd | hd | hd
  · exact hV.fr f (by omega)
  · exact hV.fr f (by omega)
  · exact hV.fr (gF.widen (lo := 0) (hi := 0) f (by omega)) (by omega)
theorem XW.recv {G : gG} {b : Nat} {L : List Nat} {txt : Nat → List Nat} {H : Heap} {s : State} (hK : gK G s) (h : XW G b L txt H) : ∃ cell : Cell, H[b]? = some cell ∧ cell.vm.isStatics = false ∧ s.vm.findClass RX2 = some cell.cls := by
  obtain ⟨sl, sp, P, hB, hV⟩ := h
  exact hB.recv hK
theorem XW.mk' {G : gG} {b sp : Nat} {L P : List Nat} {txt : Nat → List Nat} {sl : Nat → Nat} {H : Heap} (hB : XB G b L txt sl sp H) (hV : Vo G (vk b sp) P H) : XW G b L txt H := ⟨sl, sp, P, hB, hV⟩
theorem okNum {x : Int32} {n : Nat} (hn : n < 2147483647) : nI 0 ≤ x ∧ x ≤ nI n ↔ okN (n + 1) x := by
  rw [okN_le hn, nI_0, Int32.not_lt]
theorem okNum1 {x : Int32} {n : Nat} (hn : n < 2147483647) : nI 1 ≤ x ∧ x ≤ nI n ↔ ∃ i : Nat, 1 ≤ i ∧ i ≤ n ∧ x = nI i := by
  constructor
  · rintro ⟨h1, h2⟩
    have h0 : ¬ x < 0 := by
      rw [Int32.lt_iff_toInt_lt] 
      rw [Int32.le_iff_toInt_le] at h1
      have e1 : (nI 1).toInt = 1 := by decide
      have e0 : (0 : Int32).toInt = 0 := by decide
      rw [e1] at h1
      rw [e0]
      omega
    obtain ⟨j, hj, rfl⟩ := nI_of h0
    exact ⟨j, (nI_leI (by decide) hj).mp h1, (nI_leI hj (by omega)).mp h2, rfl⟩
  · rintro ⟨i, h1, h2, rfl⟩
    exact ⟨nI_le h1 (by omega), nI_le h2 (by omega)⟩
/-- texts that are put together stay told ones -/
theorem Gt_begin {n z : Nat} (hn : n < 1000000000) (hz : z ≤ 3) : Gt (num n z) := by sorry
theorem Gt_num {L : List Nat} {n z how : Nat} (hL : Gt L) (hw : isWay how) (hk : ¬ (how = 110 ∧ kd (cg L (L.length - 1)) = 1)) (hn : n < 1000000000) (hz : z ≤ 3) (hlen : (jn L how ++ num n z).length ≤ 60) : Gt (jn L how ++ num n z) := by sorry
theorem Gt_word {L : List Nat} {r k how : Nat} (hL : Gt L) (hw : isWay how) (hk : ¬ (how = 110 ∧ kd (cg L (L.length - 1)) = 2)) (hk1 : 1 ≤ k) (hk5 : k ≤ 5) (hlen : (jn L how ++ wd r k).length ≤ 60) : Gt (jn L how ++ wd r k) := by sorry
theorem Gt_let {L : List Nat} {x : Nat} (hL : Gt L) (h1 : 97 ≤ x) (h2 : x ≤ 122) (hlen : L.length + 2 ≤ 60) : Gt (L ++ [45] ++ [x]) := by sorry
theorem dgs_lo {n : Nat} (h : n < 1000000000) : dgs n ≤ 9 := dgs_le 8 n h
theorem num_len (n z : Nat) : (num n z).length = z + dgs n := by unfold num dgs; simp
theorem jn_len {L : List Nat} {how n : Nat} : (jn L how).length + n = L.length + (if how = 110 then n else 1 + n) := by
  unfold jn
  split
  · rfl
  · simp; omega
/-- an int is one of 1 .. n -/
def okP (n : Nat) (x : Int32) : Prop := ∃ i : Nat, 1 ≤ i ∧ i ≤ n ∧ x = nI i
theorem okP_iff {x : Int32} {n : Nat} (hn : n < 2147483647) : okP n x ↔ nI 1 ≤ x ∧ x ≤ nI n := (okNum1 hn).symm
theorem okNum1b {x : Int32} {n : Nat} (h : nI 1 ≤ x ∧ x ≤ nI n) (hn : n < 2147483647 := by decide) : ∃ i : Nat, (1 ≤ i ∧ i ≤ n) ∧ x = nI i := by
  obtain ⟨i, h1, h2, h3⟩ := (okNum1 hn).mp h
  exact ⟨i, ⟨h1, h2⟩, h3⟩
theorem okP_of {k n : Nat} (h : 1 ≤ k ∧ k ≤ n) : okP n (nI k) := ⟨k, h.1, h.2, rfl⟩
def cntB (f : Nat → Bool) : Nat → Nat
  | 0 => 0
  | n + 1 => cntB f n + (if f n = true then 1 else 0)
theorem cntB_t {f : Nat → Bool} {n : Nat} (h : f n = true) : cntB f (n + 1) = cntB f n + 1 := by
  show cntB f n + (if f n = true then 1 else 0) = _
  rw [if_pos h]
theorem cntB_f {f : Nat → Bool} {n : Nat} (h : f n = false) : cntB f (n + 1) = cntB f n := by
  show cntB f n + (if f n = true then 1 else 0) = _
  rw [if_neg (by rw [h]; decide)]
  rfl
theorem Gt_dot {L : List Nat} {n : Nat} (hL : Gt L) (hn : n < 1000000000) (hlen : L.length + (1 + dgs n) ≤ 60) : Gt (L ++ [46] ++ dg n) := by
  have := Gt_num (L := L) (n := n) (z := 0) (how := 46) hL (Or.inr (Or.inl rfl)) (fun h => absurd h.1 (by decide)) hn (by decide) (by rw [List.length_append, num_len, jn_len]; exact (by simpa using hlen))
  exact this
theorem Gt_plus {L : List Nat} {n : Nat} (hL : Gt L) (hn : n < 1000000000) (hlen : L.length + (1 + dgs n) ≤ 60) : Gt (L ++ [43] ++ dg n) := by
  have := Gt_num (L := L) (n := n) (z := 0) (how := 43) hL (Or.inr (Or.inr (Or.inr rfl))) (fun h => absurd h.1 (by decide)) hn (by decide) (by rw [List.length_append, num_len, jn_len]; exact (by simpa using hlen))
  exact this
def chs (txt : Nat → List Nat) (t : Int64) : Nat → Int64
  | 0 => t
  | n + 1 => adl (txt n) (chs txt t n) (txt n).length
