/-! ===== what the methods answer: signs, digits, letters, texts ===== -/
def kd (c : Nat) : Nat := if 48 ≤ c ∧ c ≤ 57 then 1 else if c = 46 ∨ c = 45 ∨ c = 43 then 0 else 2
theorem kd_digit {c : Nat} (h1 : 48 ≤ c) (h2 : c ≤ 57) : kd c = 1 := by unfold kd; rw [if_pos ⟨h1, h2⟩]
theorem kd_joint {c : Nat} (h : c = 46 ∨ c = 45 ∨ c = 43) : kd c = 0 := by unfold kd; rw [if_neg (by omega), if_pos h]
theorem kd_letter {c : Nat} (h0 : c < 48 ∨ 57 < c) (h : c ≠ 46) (h1 : c ≠ 45) (h2 : c ≠ 43) : kd c = 2 := by unfold kd; rw [if_neg (by omega), if_neg (by omega)]
theorem kd_lt (c : Nat) : kd c < 3 := by unfold kd; split <;> (try split) <;> omega
def ltr (r : Nat) : Nat := if r < 26 then 97 + r else 65 + r - 26
theorem ltr_lo {r : Nat} (h : r < 26) : ltr r = 97 + r := if_pos h
theorem ltr_hi {r : Nat} (h : 26 ≤ r) : ltr r = 65 + r - 26 := if_neg (by omega)
theorem ltr_lt {r : Nat} (h : r < 52) : ltr r < 128 := by unfold ltr; split <;> omega
/-- the order of two numbers, as an int -/
def oN (x y : Nat) : Int32 := if x = y then 0 else if x < y then -1 else 1
theorem oN_eq {x y : Nat} (h : x = y) : oN x y = 0 := if_pos h
theorem oN_lt {x y : Nat} (h : x < y) : oN x y = -1 := by unfold oN; rw [if_neg (by omega), if_pos h]
theorem oN_gt {x y : Nat} (h : y < x) : oN x y = 1 := by unfold oN; rw [if_neg (by omega), if_neg (by omega)]
/-- the digits of a number -/
def dg (n : Nat) : List Nat := if n < 10 then [48 + n] else dg (n / 10) ++ [48 + n % 10]
termination_by n
decreasing_by omega
def dgs (n : Nat) : Nat := (dg n).length
theorem dg_small {n : Nat} (h : n < 10) : dg n = [48 + n] := by rw [dg, if_pos h]
theorem dg_step {n : Nat} (h : 10 ≤ n) : dg n = dg (n / 10) ++ [48 + n % 10] := by rw [dg, if_neg (by omega)]
theorem dgs_small {n : Nat} (h : n < 10) : dgs n = 1 := by unfold dgs; rw [dg_small h]; rfl
theorem dgs_step {n : Nat} (h : 10 ≤ n) : dgs n = dgs (n / 10) + 1 := by unfold dgs; rw [dg_step h]; simp
theorem dgs_pos (n : Nat) : 0 < dgs n := by
  rcases Nat.lt_or_ge n 10 with h | h
  · rw [dgs_small h]; decide
  · rw [dgs_step h]; omega
theorem dgs_le : ∀ (k n : Nat), n < 10 ^ (k + 1) → dgs n ≤ k + 1 := by
  intro k
  induction k with
  | zero => intro n h; rw [dgs_small (by omega)]; omega
  | succ k ih =>
    intro n h
    rcases Nat.lt_or_ge n 10 with h1 | h1
    · rw [dgs_small h1]; omega
    · rw [dgs_step h1]
      have : n / 10 < 10 ^ (k + 1) := by
        rw [Nat.div_lt_iff_lt_mul (by decide)]
        rw [Nat.pow_succ] at h
        exact h
      have := ih _ this
      omega
theorem dg_lt (n : Nat) : ∀ c ∈ dg n, 48 ≤ c ∧ c ≤ 57 := by
  induction n using Nat.strongRecOn with
  | _ n ih =>
    intro c hc
    rcases Nat.lt_or_ge n 10 with h | h
    · rw [dg_small h] at hc
      rw [List.mem_singleton.mp hc]
      omega
    · rw [dg_step h] at hc
      rcases List.mem_append.mp hc with h1 | h1
      · exact ih _ (by omega) c h1
      · rw [List.mem_singleton.mp h1]
        omega
/-- the digits of n / t, none if that is 0 -/
def pfx (n t : Nat) : List Nat := if n / t = 0 then [] else dg (n / t)
theorem pfx_none {n t : Nat} (h : n < t) : pfx n t = [] := by unfold pfx; rw [if_pos (Nat.div_eq_of_lt h)]
theorem pfx_put {n s : Nat} (hs : 0 < s) (h : s ≤ n ∨ s = 1) : (if n / s = 0 then dg 0 else dg (n / s)) = pfx n (10 * s) ++ [48 + n / s % 10] := by
  have hd : n / (10 * s) = n / s / 10 := by rw [Nat.mul_comm, Nat.div_div_eq_div_mul]
  unfold pfx
  rw [hd]
  by_cases h0 : n / s = 0
  · rw [if_pos h0, h0]; simp [dg_small]
  · rw [if_neg h0]
    rcases Nat.lt_or_ge (n / s) 10 with h1 | h1
    · rw [dg_small h1, if_pos (Nat.div_eq_of_lt h1), Nat.mod_eq_of_lt h1]; rfl
    · rw [dg_step h1, if_neg (by omega)]
theorem pfx_put1 {n s : Nat} (hs : 0 < s) (h : s ≤ n) : pfx n s = pfx n (10 * s) ++ [48 + n / s % 10] := by
  have h0 : n / s ≠ 0 := by
    have := Nat.div_pos h hs
    omega
  have := pfx_put hs (Or.inl h)
  rw [if_neg h0] at this
  rw [← this]
  unfold pfx
  rw [if_neg h0]
theorem pfx_end (n : Nat) : dg n = pfx n (10 * 1) ++ [48 + n / 1 % 10] := by
  have := pfx_put (n := n) (s := 1) (by decide) (Or.inr rfl)
  rw [Nat.div_one] at this
  rw [Nat.div_one, ← this]
  by_cases h : n = 0
  · rw [if_pos h, h]
  · rw [if_neg h]
theorem dgs_mono {a b : Nat} (h : a ≤ b) : dgs a ≤ dgs b := by
  induction b using Nat.strongRecOn generalizing a with
  | _ b ih =>
    rcases Nat.lt_or_ge a 10 with h1 | h1
    · rw [dgs_small h1]; exact dgs_pos b
    · rw [dgs_step h1, dgs_step (by omega : 10 ≤ b)]
      have := ih (b / 10) (by omega) (a := a / 10) (Nat.div_le_div_right h)
      omega
theorem pfx_len {n s : Nat} (hs : 0 < s) : (pfx n (10 * s)).length < dgs n := by
  unfold pfx
  split
  · exact dgs_pos n
  · rename_i h
    have h10 : 10 ≤ n := by
      rcases Nat.lt_or_ge n 10 with h1 | h1
      · exact absurd (Nat.div_eq_of_lt (by omega)) h
      · exact h1
    rw [dgs_step h10]
    have : n / (10 * s) ≤ n / 10 := by
      rw [← Nat.div_div_eq_div_mul]
      exact Nat.div_le_self _ _
    have := dgs_mono this
    unfold dgs at this ⊢
    omega
/-- a sign of a text -/
def cg (L : List Nat) (i : Nat) : Nat := L.getD i 0
theorem cg_app {L M : List Nat} {i : Nat} (h : i < L.length) : cg (L ++ M) i = cg L i := by unfold cg; simp [List.getD, List.getElem?_append_left h]
theorem cg_app2 {L M : List Nat} {i : Nat} : cg (L ++ M) (L.length + i) = cg M i := by unfold cg; simp only [List.getD]; rw [List.getElem?_append_right (by omega), Nat.add_sub_cancel_left]
theorem cg_new {L : List Nat} {x : Nat} : cg (L ++ [x]) L.length = x := by unfold cg; simp [List.getD]
theorem cg_mem {L : List Nat} {i : Nat} (h : i < L.length) : cg L i ∈ L := by
  unfold cg
  simp [List.getD, List.getElem?_eq_getElem h]
theorem take_succ_cg {M : List Nat} {i : Nat} (h : i < M.length) : M.take (i + 1) = M.take i ++ [cg M i] := by
  rw [List.take_succ_eq_append_getElem h]
  unfold cg
  simp [List.getD, List.getElem?_eq_getElem h]
theorem cg_ext {L M : List Nat} (hl : L.length = M.length) (h : ∀ i, i < L.length → cg L i = cg M i) : L = M := by
  apply List.ext_getElem hl
  intro i h1 h2
  have := h i h1
  unfold cg at this
  simpa [List.getD, List.getElem?_eq_getElem h1, List.getElem?_eq_getElem h2] using this
/-- a text at a: its object, its signs behind it -/
def Tx (G : gG) (a : Nat) (L : List Nat) (H : Heap) : Prop := ∃ f : Nat → Int32, gO G a 0 [.ref (a + 1), .int (nI L.length)] H ∧ gI G (a + 1) 0 60 f H ∧ (∀ i, i < L.length → f i = nI (cg L i)) ∧ L.length ≤ 60 ∧ ∀ c ∈ L, c < 65536
theorem Tx.fr {G : gG} {a lo hi : Nat} {L : List Nat} {H H1 : Heap} (h : Tx G a L H) (f : gF lo hi H H1) (hd : a + 2 ≤ lo ∨ hi ≤ a) : Tx G a L H1 := by
  obtain ⟨g, h1, h2, h3⟩ := h
  exact ⟨g, h1.fr f (by omega), h2.fr f (by omega), h3⟩
theorem Tx.recv {G : gG} {a : Nat} {L : List Nat} {H : Heap} {s : State} (hK : gK G s) (h : Tx G a L H) : ∃ cell : Cell, H[a]? = some cell ∧ cell.vm.isStatics = false ∧ s.vm.findClass RX0 = some cell.cls := by
  obtain ⟨g, h1, -⟩ := h
  exact gO.recv (C := RX0) hK h1 rfl
theorem Tx.le {G : gG} {a : Nat} {L : List Nat} {H : Heap} (h : Tx G a L H) : L.length ≤ 60 := by
  obtain ⟨g, h1, h2, h3, h4, h5⟩ := h
  exact h4
theorem Tx.cg_lt {G : gG} {a i : Nat} {L : List Nat} {H : Heap} (h : Tx G a L H) (hi : i < L.length) : cg L i < 65536 := by
  obtain ⟨g, h1, h2, h3, h4, h5⟩ := h
  exact h5 _ (cg_mem hi)
theorem Tx.lt {G : gG} {a : Nat} {L : List Nat} {H : Heap} (h : Tx G a L H) : a + 2 ≤ H.size := by
  obtain ⟨g, h1, h2, -⟩ := h
  exact h2.lt
theorem Tx.put {G : gG} {a ch : Nat} {L : List Nat} {H : Heap} {f : Nat → Int32} (hO : gO G a 0 [.ref (a + 1), .int (nI (L.length + 1))] H) (hA : gI G (a + 1) 0 60 (upd f L.length (nI ch)) H) (hf : ∀ i, i < L.length → f i = nI (cg L i)) (hn : L.length < 60) (hch : ∀ c ∈ L, c < 65536) (hc : ch < 65536) : Tx G a (L ++ [ch]) H := by
  refine ⟨_, by rw [List.length_append]; exact hO, hA, fun i hi => ?_, by simp; omega, fun c h => ?_⟩
  · by_cases h : i = L.length
    · subst h
      rw [cg_new]
      simp [upd]
    · have h2 : i < L.length := by
        simp at hi
        omega
      rw [cg_app h2, ← hf i h2]
      simp [upd, h]
  · rcases List.mem_append.mp h with h | h
    · exact hch c h
    · rw [List.mem_singleton.mp h]; exact hc
/-- a word's letters -/
def wd (r : Nat) : Nat → List Nat
  | 0 => []
  | k + 1 => wd r k ++ [ltr (r / 52 ^ k % 52)]
theorem wd_len (r k : Nat) : (wd r k).length = k := by
  induction k with
  | zero => rfl
  | succ k ih => simp [wd, ih]
def cd (x : Int32) : Nat := x.toBitVec.toNat % 2 ^ 31
def hsh (L : List Nat) : Nat → Int32
  | 0 => nI 0
  | i + 1 => nI 31 * hsh L i + nI (cg L i)
def adl (L : List Nat) (t : Int64) : Nat → Int64
  | 0 => 31 * t + lN L.length
  | i + 1 => 31 * adl L t i + lN (cg L i)
theorem x_nz {a : Nat} (h : 0 < a) (h2 : a < 2147483648) : ¬ nI a = 0 := fun q => by have := (z_eq h2).mp q; omega
section GN
variable {p : Program} {l : Launch} {e : Env} {R : Room} {s : State} {m : MethodId} {args : Array Value} {below : List Frame} {meth : Method} {c : Code} {H : Heap} {locs : List Loc} {cells slots : Nat} {Q : State → Prop}
variable {cc : ByteArray} {pc : Nat} {ls : Array Slot} {rest : List Value} {H0 : Heap} {lo hi lo1 hi1 mc ms mc1 ms1 : Nat} {Q1 : Option Value → Heap → Prop} {X1 : String → Heap → Prop} {G : gG}
variable {y : MethodName} {bytes : ByteArray} {maxL nL n index : Nat} {ret : Option FieldType} {ws : List Cond} {rm : Room} {Ts : List Cond} {own C host : String} {b : Addr} {As : List Value} {g : JFrame}
theorem x_nest (hE : gE l G lo hi s) {w : Cond} (h : w ∈ gB) : va_Nw w s := hE.2.1.2.2.2.2.1 w h
theorem x_runSN (S : CallFix p m c cc nL s args Ts own) (hE : gE l G lo hi s) (h0 : s.heap = H0) (hS : va_S (gA lo hi H0.size) H0 H locs) (hM : XM l y ws rm G As H lo1 hi1 mc1 ms1 Q1 X1) (cw : va_CN R s args own index y host bytes maxL ret ws rm mc1 ms1 n ∧ (Cond.static y).before args s = true ∧ True) (hsub : (lo ≤ lo1 ∧ hi1 ≤ hi) ∨ hi1 ≤ lo1 ∨ H0.size ≤ lo1)
    (hg : g.method = m) (hn : As.length = n) (hsize : g.locals.size = nL) (hstack : g.stack = As.reverse ++ rest) (hW : 2 * g.monitorRoom + (rest.map fun v => v.category).sum ≤ 8) (hdg : decode cc g.pc = .ok (.invokestatic index, 3)) (hf : cells + mc1 ≤ R.cells ∧ slots + ms1 ≤ R.slots) :
    XRun p l e R s m args below meth c H locs cells slots mc1 ms1 g rest lo1 hi1 Q1 X1 :=
  vx_runSN S hM cw ⟨x_blind, fun U hU hW => ⟨rfl, hU, x_pre hE h0 hS hsub U hU hW⟩⟩ hg hn hsize hstack hW hdg hf
theorem x_runIN (S : CallFix p m c cc nL s args Ts own) (hE : gE l G lo hi s) (h0 : s.heap = H0) (hS : va_S (gA lo hi H0.size) H0 H locs) (hM : XM l y ws rm G (.ref b :: As) H lo1 hi1 mc1 ms1 Q1 X1) (cw : va_CN R s args own index y host bytes maxL none ws rm mc1 ms1 n ∧ y.name = "<init>" ∧ (Cond.instanceMethod y).before args s = true) (hsub : (lo ≤ lo1 ∧ hi1 ≤ hi) ∨ hi1 ≤ lo1 ∨ H0.size ≤ lo1)
    (hg : g.method = m) (hn : As.length = n) (hsize : g.locals.size = nL) (hstack : g.stack = As.reverse ++ .ref b :: rest) (hW : 2 * g.monitorRoom + (rest.map fun v => v.category).sum ≤ 8) (hdg : decode cc g.pc = .ok (.invokespecial index, 3)) (hf : cells + mc1 ≤ R.cells ∧ slots + ms1 ≤ R.slots) :
    XRun p l e R s m args below meth c H locs cells slots mc1 ms1 g rest lo1 hi1 Q1 X1 :=
  vx_runIN S hM cw ⟨x_blind, fun U hU hW => ⟨rfl, hU, x_pre hE h0 hS hsub U hU hW⟩⟩ hg hn hsize hstack hW hdg hf
theorem x_runI (S : CallFix p m c cc nL s args Ts own) (hE : gE l G lo hi s) (h0 : s.heap = H0) (hS : va_S (gA lo hi H0.size) H0 H locs) (hM : XM l y ws rm G (.ref b :: As) H lo1 hi1 mc1 ms1 Q1 X1) (cw : CallB R s args own index y bytes maxL none ws rm mc1 ms1 n ∧ y.name = "<init>" ∧ (Cond.instanceMethod y).before args s = true) (hsub : (lo ≤ lo1 ∧ hi1 ≤ hi) ∨ hi1 ≤ lo1 ∨ H0.size ≤ lo1)
    (hg : g.method = m) (hn : As.length = n) (hsize : g.locals.size = nL) (hstack : g.stack = As.reverse ++ .ref b :: rest) (hW : 2 * g.monitorRoom + (rest.map fun v => v.category).sum ≤ 8) (hdg : decode cc g.pc = .ok (.invokespecial index, 3)) (hf : cells + mc1 ≤ R.cells ∧ slots + ms1 ≤ R.slots) :
    XRun p l e R s m args below meth c H locs cells slots mc1 ms1 g rest lo1 hi1 Q1 X1 :=
  vx_runI S hM cw ⟨x_blind, fun U hU hW => ⟨rfl, hU, x_pre hE h0 hS hsub U hU hW⟩⟩ hg hn hsize hstack hW hdg hf
end GN
theorem pw_step {sc : Nat} (h : ∃ k, k ≤ 8 ∧ sc = 10 ^ k) : sc = 1 ∨ (10 ≤ sc ∧ 10 * (sc / 10) = sc ∧ ∃ k, k ≤ 8 ∧ sc / 10 = 10 ^ k) := by
  obtain ⟨k, hk, rfl⟩ := h
  cases k with
  | zero => exact Or.inl rfl
  | succ k =>
    right
    have h1 : 0 < 10 ^ k := Nat.pow_pos (by decide)
    rw [Nat.pow_succ]
    exact ⟨by omega, by omega, k, by omega, by omega⟩
theorem pw_le {sc : Nat} (h : (∃ k, k ≤ 8 ∧ sc = 10 ^ k) ∨ sc = 0) : sc ≤ 100000000 := by
  rcases h with ⟨k, hk, rfl⟩ | rfl
  · exact Nat.pow_le_pow_right (n := 10) (by decide) hk
  · decide
theorem cd_lt (x : Int32) : cd x < 2147483648 := Nat.mod_lt _ (by decide)
theorem cd_and (x : Int32) : x &&& nI 2147483647 = nI (cd x) := pk_and x 31 rfl
theorem has_t {L : List Nat} {ch i : Nat} (h : i < L.length) (e : cg L i = ch) : bI (decide (ch ∈ L)) = nI 1 := by
  rw [decide_eq_true (by rw [← e]; exact cg_mem h)]
  rfl
theorem has_f {L : List Nat} {ch : Nat} (h : ∀ j, j < L.length → cg L j ≠ ch) : bI (decide (ch ∈ L)) = nI 0 := by
  rw [decide_eq_false]
  · rfl
  · intro hm
    obtain ⟨j, hj, e⟩ := List.getElem_of_mem hm
    refine h j hj ?_
    unfold cg
    simp [List.getD, List.getElem?_eq_getElem hj, e]
