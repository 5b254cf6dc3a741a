theorem mF1_congr {r : Nat → Int32} {N : Nat} {ou : Int32} {st k : Nat} {g g' : Nat → Int32} (h5 : N ≤ 5) (hk : k < 64) (h : ∀ j, j < 64 → g j = g' j) : ∀ s, s ≤ N → ∀ j, j < 64 → mF1 r N ou st k g s j = mF1 r N ou st k g' s j
  | 0, _ => h
  | s + 1, hs => by
    have ih := mF1_congr (r := r) (ou := ou) (st := st) h5 hk h s (by omega)
    have ht : (if mCounts r ou s k then mBeh r N s k else k) < 64 := by
      split
      · exact mBeh_64 hk (by omega) h5
      · exact hk
    intro j hj
    rw [mF1, mF1]
    generalize (if mCounts r ou s k = true then mBeh r N s k else k) = tt at ht ⊢
    rw [ih k hk, ih tt ht]
    by_cases e1 : mF1 r N ou st k g' s k = nI st
    · rw [if_pos e1, if_pos e1]
      by_cases e2 : j = tt
      · simp only [upd, if_pos e2]
      · simp only [upd, if_neg e2]
        exact ih j hj
    · rw [if_neg e1, if_neg e1]
      exact ih j hj
theorem mF2_congr {r : Nat → Int32} {N : Nat} {ou : Int32} {st : Nat} {g g' : Nat → Int32} (h5 : N ≤ 5) (h : ∀ j, j < 64 → g j = g' j) : ∀ k, k ≤ 64 → ∀ j, j < 64 → mF2 r N ou st g k j = mF2 r N ou st g' k j
  | 0, _ => h
  | k + 1, hk => by
    rw [mF2, mF2]
    exact mF1_congr h5 (by omega) (mF2_congr h5 h k (by omega)) N (Nat.le_refl N)
theorem mF1_end {r : Nat → Int32} {N : Nat} {ou : Int32} {st k : Nat} {g : Nat → Int32} {s : Nat} (h : ¬ mF1 r N ou st k g s k = nI st) (hs : s ≤ N) : mF1 r N ou st k g s = mF1 r N ou st k g N := by
  have := mF1_stop h (N - s)
  rw [show s + (N - s) = N from by omega] at this
  exact this.symm
