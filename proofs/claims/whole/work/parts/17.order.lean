/-! ===== the order, as the loops find it ===== -/
theorem Jt.lt {L : List Nat} {T : Tk} {r i : Nat} (h : Jt L T) (hr : r < 3) (hi : i < (T r).length) : (tg (T r) i).1 < (tg (T r) i).2 ∧ (tg (T r) i).2 ≤ L.length ∧ (tg (T r) i).2 - (tg (T r) i).1 < 2147483648 := ⟨(h r hr i hi).1, (h r hr i hi).2.1, (h r hr i hi).2.2.1⟩
theorem tsz_neg {L : List Nat} {T : Tk} {r i : Nat} (hJ : Jt L T) (hr : r < 3) (h : tsz L T r i < 0) : i < (T r).length ∧ kd (cg L (tg (T r) i).1) ≠ 1 := by
  by_cases hi : i < (T r).length
  · rw [tsz_in hi] at h
    exact ⟨hi, (hJ.neg hr hi).mp h⟩
  · rw [tsz_out hi] at h
    exact absurd h (by decide)
theorem ow_hit {L P : List Nat} {s n t k j : Nat} (hz : ∀ a, a < j → oI (nI (cg L (s + a))) (nI (cg P (t + a))) = 0) (hne : ¬ oI (nI (cg L (s + j))) (nI (cg P (t + j))) = 0) (hj : j < n ∧ j < k) : ow L P s n t k = oI (nI (cg L (s + j))) (nI (cg P (t + j))) := by
  unfold ow
  have := fz_hit (f := fun j => oI (nI (cg L (s + j))) (nI (cg P (t + j)))) hz hne (n := min n k) (by omega)
  rw [this, if_neg hne]
theorem ow_end {L P : List Nat} {s n t k j : Nat} (hz : ∀ a, a < j → oI (nI (cg L (s + a))) (nI (cg P (t + a))) = 0) (hj : n ≤ j ∨ k ≤ j) : ow L P s n t k = oI (nI n) (nI k) := by
  unfold ow
  rw [fz_none (fun a ha => hz a (by omega)), if_pos rfl]
theorem rcmp_lo {L P : List Nat} {T S : Tk} {r : Nat} (h : r = 1) (hne : ¬ bI (decide (0 < (T r).length)) = bI (decide (0 < (S r).length))) (h0 : decide (0 < (T r).length) = true) : rcmp L T P S r = -1 := by
  subst h
  unfold rcmp
  rw [if_pos ⟨rfl, fun e => hne (congrArg bI e)⟩, if_pos (of_decide_eq_true h0)]
theorem rcmp_hi {L P : List Nat} {T S : Tk} {r : Nat} (h : r = 1) (hne : ¬ bI (decide (0 < (T r).length)) = bI (decide (0 < (S r).length))) (h0 : decide (0 < (T r).length) = false) : rcmp L T P S r = nI 1 := by
  subst h
  unfold rcmp
  rw [if_pos ⟨rfl, fun e => hne (congrArg bI e)⟩, if_neg (of_decide_eq_false h0)]
  rfl
theorem bI_inj {a b : Bool} (h : bI a = bI b) : a = b := by cases a <;> cases b <;> first | rfl | exact absurd h (by decide)
theorem rcmp_row {L P : List Nat} {T S : Tk} {r : Nat} (h : r ≠ 1 ∨ bI (decide (0 < (T r).length)) = bI (decide (0 < (S r).length))) : rcmp L T P S r = fz (fun i => tcmp L T P S r i) (max (T r).length (S r).length) := by
  unfold rcmp
  refine if_neg (fun q => ?_)
  rcases h with h | h
  · exact h q.1
  · obtain ⟨rfl, q2⟩ := q
    exact q2 (bI_inj h)
def ordT (L : List Nat) (T : Tk) (P : List Nat) (S : Tk) : Int32 := fz (fun r => rcmp L T P S r) 3
def tellT (L : List Nat) (T : Tk) (P : List Nat) (S : Tk) : Int32 := if rcmp L T P S 0 ≠ 0 then nI 0 else if rcmp L T P S 1 ≠ 0 then nI 1 else if rcmp L T P S 2 ≠ 0 then nI 2 else -1
theorem tellT_hit {L P : List Nat} {T S : Tk} {r : Nat} (hr : r < 3) (hz : ∀ a, a < r → rcmp L T P S a = 0) (hne : ¬ rcmp L T P S r = 0) : tellT L T P S = nI r := by
  unfold tellT
  rcases (show r = 0 ∨ r = 1 ∨ r = 2 by omega) with rfl | rfl | rfl
  · rw [if_pos hne]
  · rw [if_neg (fun h => h (hz 0 (by decide))), if_pos hne]
  · rw [if_neg (fun h => h (hz 0 (by decide))), if_neg (fun h => h (hz 1 (by decide))), if_pos hne]
theorem tellT_none {L P : List Nat} {T S : Tk} (hz : ∀ a, a < 3 → rcmp L T P S a = 0) : tellT L T P S = -1 := by
  unfold tellT
  rw [if_neg (fun h => h (hz 0 (by decide))), if_neg (fun h => h (hz 1 (by decide))), if_neg (fun h => h (hz 2 (by decide)))]
theorem max_N {a b : Nat} (ha : a < 2147483648) (hb : b < 2147483648) : (if nI a < nI b then nI b else nI a) = nI (max a b) := by
  by_cases h : a < b
  · rw [if_pos ((nI_ltI ha hb).mpr h), Nat.max_eq_right (by omega)]
  · rw [if_neg (fun g => h ((nI_ltI ha hb).mp g)), Nat.max_eq_left (by omega)]
