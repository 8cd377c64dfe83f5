/-! ===== the share of words: how many, of how many; no division of it is a NaN ===== -/
def shW (txt : Nat → List Nat) : Nat → Nat
  | 0 => 0
  | n + 1 => shW txt n + wct (txt n) (tk (txt n)) 3
def shA (txt : Nat → List Nat) : Nat → Nat
  | 0 => 0
  | n + 1 => shA txt n + cntT (tk (txt n)) 3
theorem wcr_le (L : List Nat) (l : List (Nat × Nat)) (i : Nat) : wcr L l i ≤ i := by
  induction i with
  | zero => exact Nat.le_refl _
  | succ i ih =>
    show wcr L l i + (if _ then 0 else 1) ≤ _
    split <;> omega
theorem wct_le (L : List Nat) (T : Tk) (r : Nat) : wct L T r ≤ cntT T r := by
  induction r with
  | zero => exact Nat.le_refl _
  | succ r ih =>
    show wct L T r + wcr L (T r) (T r).length ≤ cntT T r + (T r).length
    have := wcr_le L (T r) (T r).length
    omega
theorem cnt3 (T : Tk) : cntT T 3 = (T 0).length + (T 1).length + (T 2).length := by
  show 0 + (T 0).length + (T 1).length + (T 2).length = _
  omega
theorem cnt_pos {L : List Nat} (h : Gt L) : 1 ≤ cntT (tk L) 3 := by
  have hp := pf_inv L L.length
  have h3 := hp.1
  have h4 := (hp.2.2.1 h.1).1
  rw [cnt3]
  show 1 ≤ ((pf L L.length).2.2 0).length + ((pf L L.length).2.2 1).length + ((pf L L.length).2.2 2).length
  generalize (pf L L.length).1 = r at h3 h4
  rcases (show r = 0 ∨ r = 1 ∨ r = 2 by omega) with rfl | rfl | rfl <;> omega
theorem shA_lo {txt : Nat → List Nat} (hg : ∀ i, i < 8 → Gt (txt i)) : ∀ n, n ≤ 8 → n ≤ shA txt n := by
  intro n
  induction n with
  | zero => exact fun _ => Nat.le_refl _
  | succ n ih =>
    intro hn
    have h1 := ih (by omega)
    have h2 := cnt_pos (hg n (by omega))
    show n + 1 ≤ shA txt n + cntT (tk (txt n)) 3
    omega
theorem shA_hi {txt : Nat → List Nat} (hg : ∀ i, i < 8 → Gt (txt i)) : ∀ n, n ≤ 8 → shA txt n ≤ 180 * n := by
  intro n
  induction n with
  | zero => exact fun _ => Nat.le_refl _
  | succ n ih =>
    intro hn
    have h1 := ih (by omega)
    have h2 := (hg n (by omega)).le
    have a0 := tk_le (txt n) 0
    have a1 := tk_le (txt n) 1
    have a2 := tk_le (txt n) 2
    have h3 := cnt3 (tk (txt n))
    show shA txt n + cntT (tk (txt n)) 3 ≤ _
    omega
theorem shW_le (txt : Nat → List Nat) : ∀ n, shW txt n ≤ shA txt n := by
  intro n
  induction n with
  | zero => exact Nat.le_refl _
  | succ n ih =>
    have := wct_le (txt n) (tk (txt n)) 3
    show shW txt n + _ ≤ shA txt n + _
    omega
def shr (txt : Nat → List Nat) : UInt32 := FP.fdiv (FP.i2f (nI (shW txt 8))) (FP.i2f (nI (shA txt 8)))
theorem i2f_hi {w : Nat} (hw : w < 1048576) : (FP.Core.i2f (nI w)).toNat % 2 ^ 31 ≤ 147 * 2 ^ 23 := by
  refine FP.Core.fromInt_mag32 (FP.Core.toNat_i2f _) (j := 20) (K := 147) ?_ (by decide) (by decide)
  rw [nI_toInt (by omega)]
  show w ≤ _
  omega
theorem i2f_lo {w : Nat} (h0 : 0 < w) (hw : w < 1048576) : 127 * 2 ^ 23 ≤ (FP.Core.i2f (nI w)).toNat % 2 ^ 31 := by
  refine FP.Core.fromInt_ge32 (FP.Core.toNat_i2f _) ?_
  rw [nI_toInt (by omega)]
  omega
theorem fdiv_small {w a : Nat} (hw : w < 1048576) (h0 : 0 < a) (ha : a < 1048576) : (FP.fdiv (FP.i2f (nI w)) (FP.i2f (nI a))).toNat % 2 ^ 31 < 149 * 2 ^ 23 := by
  have h1 := i2f_hi hw
  have h2 := i2f_hi ha
  have h3 := i2f_lo h0 ha
  exact FP.Core.fdiv_mag (K := 148) (L := 127) (Nat.lt_of_le_of_lt h1 (by decide)) h3 (Nat.lt_of_le_of_lt h2 (by decide)) (by decide) (by decide)
theorem n32_of {r : UInt32} (h : r.toNat % 2 ^ 31 < 149 * 2 ^ 23) : vf_n32 r := by
  unfold vf_n32
  rw [UInt32.le_iff_toNat_le, UInt32.toNat_and]
  show r.toNat &&& (2 ^ 31 - 1) ≤ 2139095040
  rw [Nat.and_two_pow_sub_one_eq_mod]
  omega
theorem n64_of {r : UInt32} (h : r.toNat % 2 ^ 31 < 149 * 2 ^ 23) : vf_n64 (FP.f2d r) := by
  have h1 : FP.fIsNaN r = false := by
    cases e : FP.fIsNaN r with
    | false => rfl
    | true => have := (FP.Core.isNaN_bits32 r).mp e; omega
  have h2 := (FP.f2d_nan r).trans h1
  unfold vf_n64
  rw [UInt64.le_iff_toNat_le, UInt64.toNat_and]
  show (FP.f2d r).toNat &&& (2 ^ 63 - 1) ≤ 9218868437227405312
  rw [Nat.and_two_pow_sub_one_eq_mod]
  by_cases g : 9218868437227405312 < (FP.f2d r).toNat % 2 ^ 63
  · have := (FP.Core.isNaN_bits (FP.f2d r)).mpr g
    have h3 : FP.Core.dIsNaN (FP.f2d r) = false := h2
    rw [h3] at this
    cases this
  · omega
theorem shr_ok {txt : Nat → List Nat} (hg : ∀ i, i < 8 → Gt (txt i)) : vf_n32 (shr txt) ∧ vf_n64 (FP.f2d (shr txt)) := by
  have h1 := shA_lo hg 8 (Nat.le_refl _)
  have h2 := shA_hi hg 8 (Nat.le_refl _)
  have h3 := shW_le txt 8
  have h := fdiv_small (w := shW txt 8) (a := shA txt 8) (by omega) (by omega) (by omega)
  exact ⟨n32_of h, n64_of h⟩
