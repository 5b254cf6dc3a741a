-- what is best by turns
def mWE (r : Nat → Int32) (N k : Nat) : Int32 := if mIn (nI (k % 8)) 0 (nI N - 1) then (if r (3 * (k % 8) + 1) = 0 then 2 else 0) else 1
def mVv (r : Nat → Int32) (N : Nat) (ou sd : Int32) (w : Nat → Int32) (k s : Nat) : Int32 := if r (3 * s + 1) = sd ∧ mCounts r ou s k = true then w (mBeh r N s k) else w k
def mP1 (r : Nat → Int32) (N : Nat) (ou sd : Int32) (w : Nat → Int32) (k : Nat) : Nat → Int32 × Int32
  | 0 => (w k, -1)
  | s + 1 => if (if sd = 0 then (mP1 r N ou sd w k s).1 < mVv r N ou sd w k s else mVv r N ou sd w k s < (mP1 r N ou sd w k s).1) then (mVv r N ou sd w k s, nI s) else mP1 r N ou sd w k s
def mPW (r : Nat → Int32) (N : Nat) (ou : Int32) (b : Nat) : Nat → Nat → Int32
  | 0 => fun k => mWE r N k
  | l + 1 => fun k => (mP1 r N ou (nI ((b - (l + 1)) % 2)) (mPW r N ou b l) k N).1
theorem mVv_congr {r : Nat → Int32} {N : Nat} {ou sd : Int32} {w w' : Nat → Int32} {k s : Nat} (h5 : N ≤ 5) (hk : k < 64) (hs : s < N) (h : ∀ j, j < 64 → w j = w' j) : mVv r N ou sd w k s = mVv r N ou sd w' k s := by
  unfold mVv
  rw [h k hk, h _ (mBeh_64 hk hs h5)]
theorem mP1_congr {r : Nat → Int32} {N : Nat} {ou sd : Int32} {w w' : Nat → Int32} {k : Nat} (h5 : N ≤ 5) (hk : k < 64) (h : ∀ j, j < 64 → w j = w' j) : ∀ s, s ≤ N → mP1 r N ou sd w k s = mP1 r N ou sd w' k s
  | 0, _ => by rw [mP1, mP1, h k hk]
  | s + 1, hs => by rw [mP1, mP1, mP1_congr h5 hk h s (by omega), mVv_congr h5 hk (by omega) h]
def mPF (r : Nat → Int32) (N : Nat) (ou : Int32) (b k0 : Nat) : Int32 := (mP1 r N ou (nI ((b - b) % 2)) (mPW r N ou b (b - 1)) k0 N).2
def mPlayV (r : Nat → Int32) (N : Nat) (ou : Int32) (b k0 : Nat) (wh : Int32) : Int32 := if wh = 0 then mPW r N ou b b k0 else mPF r N ou b k0
def mPlay (r : Nat → Int32) (N : Nat) (ou : Int32) (k0 : Nat) (b wh : Int32) : Int32 := if mIn b 1 6 && mIn wh 0 1 then (if N = 0 then -103 else mPlayV r N ou b.toNatClampNeg k0 wh) else -102
-- what was heard
def mHeOk (N t : Nat) (x y : Int32) : Bool := mIn x 0 8 && (decide (y = -1) || mIn y 0 (nI N - 1)) && decide (t < 8)
def mHeNo (N : Nat) (x y : Int32) : Int32 := if mIn x 0 8 then (if ¬ y = -1 ∧ mIn y 0 (nI N - 1) = false then -101 else -104) else -102
def mHeard (he : Nat → Int32) (x : Int32) (k : Nat) : Nat → Bool
  | 0 => true
  | i + 1 => mHeard he x k i && (!decide (he (2 * i) = x) || decide (he (2 * i + 1) = nI (k % 8)))
def mOk (r : Nat → Int32) (N : Nat) (ou : Int32) (he : Nat → Int32) (t n k s : Nat) : Bool := mCounts r ou s k && !decide (k / 8 = s) && mHeard he (nI (n + 1)) (mBeh r N s k) t
def mY1 (r : Nat → Int32) (N : Nat) (ou : Int32) (he : Nat → Int32) (t n k : Nat) (y : Nat → Int32) : Nat → Nat → Int32
  | 0 => y
  | s + 1 => if 0 < mY1 r N ou he t n k y s (64 * n + k) then
      (if mOk r N ou he t n k s then upd (mY1 r N ou he t n k y s) (64 * n + 64 + mBeh r N s k) (mY1 r N ou he t n k y s (64 * n + 64 + mBeh r N s k) + mY1 r N ou he t n k y s (64 * n + k)) else mY1 r N ou he t n k y s)
    else mY1 r N ou he t n k y s
theorem mY1_stop {r : Nat → Int32} {N : Nat} {ou : Int32} {he : Nat → Int32} {t n k : Nat} {y : Nat → Int32} {s : Nat} (h : ¬ 0 < mY1 r N ou he t n k y s (64 * n + k)) : ∀ d, mY1 r N ou he t n k y (s + d) = mY1 r N ou he t n k y s
  | 0 => rfl
  | d + 1 => by rw [← Nat.add_assoc, mY1, mY1_stop h d, if_neg h]
theorem mY1_end {r : Nat → Int32} {N : Nat} {ou : Int32} {he : Nat → Int32} {t n k : Nat} {y : Nat → Int32} {s : Nat} (h : ¬ 0 < mY1 r N ou he t n k y s (64 * n + k)) (hs : s ≤ N) : mY1 r N ou he t n k y s = mY1 r N ou he t n k y N := by
  have := mY1_stop h (N - s)
  rw [show s + (N - s) = N from by omega] at this
  exact this.symm
def mY2 (r : Nat → Int32) (N : Nat) (ou : Int32) (he : Nat → Int32) (t n : Nat) (y : Nat → Int32) : Nat → Nat → Int32
  | 0 => y
  | k + 1 => mY1 r N ou he t n k (mY2 r N ou he t n y k) N
def mY3 (r : Nat → Int32) (N : Nat) (ou : Int32) (he : Nat → Int32) (t k0 : Nat) : Nat → Nat → Int32
  | 0 => upd (fun _ => 0) k0 (bI (mHeard he 0 k0 t))
  | n + 1 => mY2 r N ou he t n (mY3 r N ou he t k0 n) 64
def mO1 (r : Nat → Int32) (N : Nat) (ou : Int32) (he : Nat → Int32) (t n k : Nat) (y : Nat → Int32) : Nat → Nat → Int32
  | 0 => y
  | s + 1 => if mOk r N ou he t n k s then upd (mO1 r N ou he t n k y s) (64 * n + k) (mO1 r N ou he t n k y s (64 * n + k) + mO1 r N ou he t n k y s (64 * n + 64 + mBeh r N s k)) else mO1 r N ou he t n k y s
def mO2 (r : Nat → Int32) (N : Nat) (ou : Int32) (he : Nat → Int32) (t n : Nat) (y : Nat → Int32) : Nat → Nat → Int32
  | 0 => y
  | k + 1 => mO1 r N ou he t n k (mO2 r N ou he t n y k) N
def mO0 (nb : Nat) : Nat → Int32 := fun p => if 64 * nb ≤ p ∧ p < 64 * nb + 64 then 1 else 0
def mO3 (r : Nat → Int32) (N : Nat) (ou : Int32) (he : Nat → Int32) (t nb : Nat) : Nat → Nat → Int32
  | 0 => mO0 nb
  | j + 1 => mO2 r N ou he t (nb - 1 - j) (mO3 r N ou he t nb j) 64
theorem z_64 (n k : Nat) : 64 * nI n + nI k = nI (64 * n + k) := by
  show nI 64 * nI n + nI k = _
  rw [nI_mul, nI_add]
theorem z_6464 (n k : Nat) : 64 * nI n + 64 + nI k = nI (64 * n + 64 + k) := by
  show nI 64 * nI n + nI 64 + nI k = _
  rw [nI_mul, nI_add, nI_add]
def mSum (y : Nat → Int32) (nb : Nat) : Nat → Int32
  | 0 => 0
  | k + 1 => mSum y nb k + y (64 * nb + k)
def mWho (y : Nat → Int32) (nb : Nat) : Nat → Int32
  | 0 => 0
  | k + 1 => mWho y nb k ||| (if 0 < y (64 * nb + k) then 1 <<< ((if k / 8 = 7 then 6 else nI (k / 8)) &&& 31) else 0)
def mRowsV (r : Nat → Int32) (N : Nat) (ou : Int32) (he : Nat → Int32) (t k0 nb : Nat) (wh : Int32) : Int32 := if wh = 0 then mSum (mY3 r N ou he t k0 nb) nb 64 else mWho (mY3 r N ou he t k0 nb) nb 64
def mRowsR (r : Nat → Int32) (N : Nat) (ou : Int32) (he : Nat → Int32) (t k0 : Nat) (b wh : Int32) : Int32 := if mIn b 0 6 && mIn wh 0 1 then (if N = 0 then -103 else mRowsV r N ou he t k0 b.toNatClampNeg wh) else -102
def mParts (y z : Nat → Int32) (n : Nat) : Nat → Nat → Int32
  | 0 => fun _ => 0
  | k + 1 => upd (mParts y z n k) (k % 8) (mParts y z n k (k % 8) + y (64 * n + k) * z (64 * n + k))
def mWorst (p : Nat → Int32) : Nat → Int32
  | 0 => 0
  | v + 1 => if mWorst p v < p v then p v else mWorst p v
def mLook (f : Nat → Int32) : Nat → Int32 × Int32
  | 0 => (-1, -1)
  | n + 1 => if 0 < f (n + 1) ∧ ((mLook f n).1 = -1 ∨ f (n + 1) < (mLook f n).2) then (nI (n + 1), f (n + 1)) else mLook f n
def mWhenV (r : Nat → Int32) (N : Nat) (ou : Int32) (he : Nat → Int32) (t k0 : Nat) : Int32 := (mLook (fun n => mWorst (mParts (mY3 r N ou he t k0 6) (mO3 r N ou he t 6 6) n 64) 8) 6).1
def mWhen (r : Nat → Int32) (N : Nat) (ou : Int32) (he : Nat → Int32) (t k0 : Nat) : Int32 := if N = 0 then -103 else mWhenV r N ou he t k0
theorem mIn_rng1 {b : Int32} (h : mIn b 1 6 = true) : ∃ k : Nat, 1 ≤ k ∧ k ≤ 6 ∧ b = nI k := by
  unfold mIn at h
  simp only [Bool.and_eq_true, decide_eq_true_eq] at h
  exact z_rng1 h.1 h.2
theorem mIn_rng0 {b : Int32} (h : mIn b 0 6 = true) : ∃ k : Nat, 0 ≤ k ∧ k ≤ 6 ∧ b = nI k := by
  unfold mIn at h
  simp only [Bool.and_eq_true, decide_eq_true_eq] at h
  exact z_rng0 h.1 h.2
theorem mIn_rng60 {b : Int32} (h : mIn b 1 60 = true) : ∃ k : Nat, 1 ≤ k ∧ k ≤ 60 ∧ b = nI k := by
  unfold mIn at h
  simp only [Bool.and_eq_true, decide_eq_true_eq] at h
  exact z_rng60 h.1 h.2
