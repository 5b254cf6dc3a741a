/-! sessions -/
theorem i64_and (v : Int64) (h : 0 ≤ v.toInt) : (v &&& 2147483647).toInt = v.toInt % 2147483648 := by
  have e0 : v.toInt = v.toBitVec.toInt := rfl
  have e1 := BitVec.toInt_eq_toNat_cond v.toBitVec
  have lt := v.toBitVec.isLt
  have e2 : v.toInt = (v.toBitVec.toNat : Int) := by
    rw [e0, e1] at h ⊢
    split at h
    · rw [if_pos (by assumption)]
    · omega
  have e3 : (v &&& 2147483647).toBitVec.toNat = v.toBitVec.toNat % 2147483648 := by
    rw [Int64.toBitVec_and, BitVec.toNat_and]
    exact Nat.and_two_pow_sub_one_eq_mod v.toBitVec.toNat 31
  have e4 : (v &&& 2147483647).toInt = (v &&& 2147483647).toBitVec.toInt := rfl
  rw [e4, BitVec.toInt_eq_toNat_of_lt (by rw [e3]; omega), e3, e2]
  omega
theorem zV {sd : Int32} (h : 0 ≤ sd.toInt) : (1103515245 * Int32.toInt64 sd + 12345 : Int64).toInt = 1103515245 * sd.toInt + 12345 := by
  have b := Int32.toInt_lt sd
  have e1 : (1103515245 : Int64).toInt = 1103515245 := by decide
  have e2 : (12345 : Int64).toInt = 12345 := by decide
  rw [Int64.toInt_add, Int64.toInt_mul, Int32.toInt_toInt64, e1, e2, Int.bmod_eq_of_le (n := 1103515245 * sd.toInt) (by omega) (by omega), Int.bmod_eq_of_le (by omega) (by omega)]
theorem mNext_i {sd : Int32} (h : 0 ≤ sd.toInt) : (mNext sd).toInt = (1103515245 * sd.toInt + 12345) % 2147483648 := by
  unfold mNext
  have e := zV h
  rw [Int64.toInt_toInt32, i64_and _ (by rw [e]; omega), e, Int.bmod_eq_of_le (by omega) (by omega)]
theorem jNext_i {sd : Int32} (h : 0 ≤ sd.toInt) : (jNext (Int32.toInt64 sd)).toInt = (1103515245 * sd.toInt + 12345) % 2147483648 := by
  unfold jNext
  have b := Int32.toInt_lt sd
  have e := zV h
  have e1 : (2147483648 : Int64).toInt = 2147483648 := by decide
  have q : ((1103515245 * Int32.toInt64 sd + 12345 : Int64) / 2147483648).toInt = (1103515245 * sd.toInt + 12345) / 2147483648 := by
    rw [Int64.toInt_div, e, e1, Int.tdiv_eq_ediv_of_nonneg (by omega), Int.bmod_eq_of_le (by omega) (by omega)]
  rw [Int64.toInt_sub, Int64.toInt_mul, q, e, e1, Int.bmod_eq_of_le (n := (1103515245 * sd.toInt + 12345) / 2147483648 * 2147483648) (by omega) (by omega), Int.bmod_eq_of_le (by omega) (by omega)]
  omega
theorem jNext_m {sd : Int32} (h : 0 ≤ sd.toInt) : jNext (Int32.toInt64 sd) = Int32.toInt64 (mNext sd) ∧ 0 ≤ (mNext sd).toInt := by
  refine ⟨Int64.toInt_inj.mp ?_, ?_⟩
  · rw [jNext_i h, Int32.toInt_toInt64, mNext_i h]
  · rw [mNext_i h]; omega
theorem mRem_i {x : Int32} (h : 0 ≤ x.toInt) : (mRem x).toInt = x.toInt / 65536 % 3 := by
  unfold mRem
  have b := Int32.toInt_lt x
  have e1 : (65536 : Int32).toInt = 65536 := by decide
  have e3 : (3 : Int32).toInt = 3 := by decide
  have q : (x / 65536).toInt = x.toInt / 65536 := by
    rw [Int32.toInt_div, e1, Int.tdiv_eq_ediv_of_nonneg h, Int.bmod_eq_of_le (by omega) (by omega)]
  have q3 : (x / 65536 / 3).toInt = x.toInt / 65536 / 3 := by
    rw [Int32.toInt_div, q, e3, Int.tdiv_eq_ediv_of_nonneg (by omega), Int.bmod_eq_of_le (by omega) (by omega)]
  rw [Int32.toInt_sub, Int32.toInt_mul, q3, q, e3, Int.bmod_eq_of_le (n := x.toInt / 65536 / 3 * 3) (by omega) (by omega), Int.bmod_eq_of_le (by omega) (by omega)]
  omega
theorem jRem_i {x : Int32} (h : 0 ≤ x.toInt) : (Int32.toInt64 x / 65536 - Int32.toInt64 x / 65536 / 3 * 3 : Int64).toInt = x.toInt / 65536 % 3 := by
  have b := Int32.toInt_lt x
  have e1 : (65536 : Int64).toInt = 65536 := by decide
  have e3 : (3 : Int64).toInt = 3 := by decide
  have q : (Int32.toInt64 x / 65536).toInt = x.toInt / 65536 := by
    rw [Int64.toInt_div, e1, Int32.toInt_toInt64, Int.tdiv_eq_ediv_of_nonneg h, Int.bmod_eq_of_le (by omega) (by omega)]
  have q3 : (Int32.toInt64 x / 65536 / 3).toInt = x.toInt / 65536 / 3 := by
    rw [Int64.toInt_div, q, e3, Int.tdiv_eq_ediv_of_nonneg (by omega), Int.bmod_eq_of_le (by omega) (by omega)]
  rw [Int64.toInt_sub, Int64.toInt_mul, q3, q, e3, Int.bmod_eq_of_le (n := x.toInt / 65536 / 3 * 3) (by omega) (by omega), Int.bmod_eq_of_le (by omega) (by omega)]
  omega
theorem eRem {x : Int32} (h : 0 ≤ x.toInt) : (lg_cmp (Int32.toInt64 x / 65536 - Int32.toInt64 x / 65536 / 3 * 3) 0 = 0) ↔ mRem x = 0 := by
  rw [lg_cmp_eq, ← Int64.toInt_inj, ← Int32.toInt_inj, jRem_i h, mRem_i h]
  exact Iff.rfl
theorem eDraw {sd : Int32} (h : 0 ≤ sd.toInt) : ∀ s, jDraw (Int32.toInt64 sd) s = (Int32.toInt64 (mDraw sd s).1, (mDraw sd s).2) ∧ 0 ≤ (mDraw sd s).1.toInt
  | 0 => ⟨rfl, h⟩
  | s + 1 => by
    obtain ⟨i1, i2⟩ := eDraw h s
    obtain ⟨n1, n2⟩ := jNext_m i2
    rw [jDraw, mDraw, i1]
    dsimp only
    rw [n1]
    refine ⟨?_, n2⟩
    by_cases c : mRem (mNext (mDraw sd s).1) = 0
    · rw [if_pos ((eRem n2).mpr c), if_pos c]
    · rw [if_neg (fun z => c ((eRem n2).mp z)), if_neg c, Int32.or_zero]
theorem eRun {N : Nat} {kf sf : Nat → Int32} {p : Nat} {g : jT} {g' : mT} {sd : Int32} (hp : p ≤ 9) (hs : 0 ≤ sd.toInt) (h : eT N kf sf p g g') : ∀ k, (jRun N kf sf (nI p) (Int32.toInt64 sd) g k).1 = Int32.toInt64 (mRun N (nI p) sd g' k).1 ∧ 0 ≤ (mRun N (nI p) sd g' k).1.toInt ∧ eT N kf sf p (jRun N kf sf (nI p) (Int32.toInt64 sd) g k).2 (mRun N (nI p) sd g' k).2
  | 0 => ⟨rfl, hs, h⟩
  | k + 1 => by
    obtain ⟨i1, i2, i3⟩ := eRun hp hs h k
    obtain ⟨d1, d2⟩ := eDraw i2 N
    rw [jRun, mRun, i1, d1]
    exact ⟨rfl, d2, (eBreath hp _ i3).1⟩
theorem eSess {N : Nat} {kf sf : Nat → Int32} {p : Nat} {g : jT} {g' : mT} (hp : p ≤ 9) (h : eT N kf sf p g g') (b sd wh : Int32) : jSess N kf sf (nI p) g b sd wh = mSess N (nI p) g' b sd wh := by
  unfold jSess mSess
  by_cases c : b < 1 ∨ 60 < b ∨ sd < 0 ∨ wh < 0 ∨ 3 ≤ wh
  · rw [if_pos c, if_neg]
    unfold mIn
    simp only [Bool.and_eq_true, decide_eq_true_eq]
    grind
  · rw [if_neg c, if_pos (show mIn b 1 60 = true ∧ ¬ sd < 0 ∧ mIn wh 0 2 = true by
      unfold mIn
      simp only [Bool.and_eq_true, decide_eq_true_eq]
      grind)]
    have hs : 0 ≤ sd.toInt := by
      have : ¬ sd < 0 := fun q => c (Or.inr (Or.inr (Or.inl q)))
      rw [Int32.lt_iff_toInt_lt] at this
      exact Int.not_lt.mp this
    by_cases hN : N = 0
    · rw [if_pos hN, if_pos (by omega)]
    · rw [if_neg hN, if_neg (by omega)]
      obtain ⟨r1, r2, r3⟩ := eRun hp hs h b.toNatClampNeg
      obtain ⟨L, B, a, -, -, -, -, -, -, -, -, -, -, -, e7, e8, -⟩ := r3
      obtain ⟨L', B', a', -, -, -, -, -, -, -, -, -, -, -, f7, f8, -⟩ := h
      rw [e7, e8, f7, f8, r1, Int32.toInt32_toInt64]
