theorem mIn_seat {x : Int32} {N : Nat} (h : mIn x 0 (nI N - 1) = true) (h5 : N ≤ 5) : ∃ s : Nat, s < N ∧ x = nI s := by
  unfold mIn at h
  simp only [Bool.and_eq_true, decide_eq_true_eq] at h
  obtain ⟨h1, h2⟩ := h
  rw [Int32.le_iff_toInt_le] at h1 h2
  have z0 : (0 : Int32).toInt = 0 := rfl
  by_cases e : N = 0
  · subst e
    have : (nI 0 - 1).toInt = -1 := rfl
    omega
  · rw [show nI N - 1 = nI (N - 1) from z_sub (b := 1) (by omega), nI_toInt (by omega)] at h2
    refine ⟨x.toInt.toNat, by omega, ?_⟩
    refine Int32.toInt_inj.mp ?_
    rw [nI_toInt (by omega)]
    omega
theorem mIn_nI {s N : Nat} (hs : s < N) (h5 : N ≤ 5) : mIn (nI s) 0 (nI N - 1) = true := by
  unfold mIn
  rw [show nI N - 1 = nI (N - 1) from z_sub (b := 1) (by omega), decide_eq_true (nI_pos' (by omega)), decide_eq_true (nI_le (by omega) (by omega))]
  rfl
theorem z_p0 (i : Nat) : 3 * nI i + 0 = nI (3 * i) := by rw [nI_3, Int32.add_zero]
-- by how few words
def mF1 (r : Nat → Int32) (N : Nat) (ou : Int32) (st k : Nat) (g : Nat → Int32) : Nat → Nat → Int32
  | 0 => g
  | s + 1 => if mF1 r N ou st k g s k = nI st then
      upd (mF1 r N ou st k g s) (if mCounts r ou s k then mBeh r N s k else k) (if mF1 r N ou st k g s (if mCounts r ou s k then mBeh r N s k else k) = -1 then nI (st + 1) else mF1 r N ou st k g s (if mCounts r ou s k then mBeh r N s k else k))
    else mF1 r N ou st k g s
theorem mF1_stop {r : Nat → Int32} {N : Nat} {ou : Int32} {st k : Nat} {g : Nat → Int32} {s : Nat} (h : ¬ mF1 r N ou st k g s k = nI st) : ∀ d, mF1 r N ou st k g (s + d) = mF1 r N ou st k g s
  | 0 => rfl
  | d + 1 => by
    rw [← Nat.add_assoc, mF1, mF1_stop h d, if_neg h]
def mF2 (r : Nat → Int32) (N : Nat) (ou : Int32) (st : Nat) (g : Nat → Int32) : Nat → Nat → Int32
  | 0 => g
  | k + 1 => mF1 r N ou st k (mF2 r N ou st g k) N
def mF3 (r : Nat → Int32) (N : Nat) (ou : Int32) (k0 : Nat) : Nat → Nat → Int32
  | 0 => upd (fun _ => -1) k0 0
  | st + 1 => mF2 r N ou st (mF3 r N ou k0 st) 64
def mFew (far : Nat → Int32) (x : Int32) : Nat → Int32
  | 0 => -1
  | k + 1 => if nI (k % 8) = x ∧ ¬ far k = -1 ∧ (mFew far x k = -1 ∨ far k < mFew far x k) then far k else mFew far x k
def mFewest (r : Nat → Int32) (N : Nat) (ou : Int32) (k0 : Nat) (x : Int32) : Int32 := mFew (mF3 r N ou k0 64) x 64
def mFirst (r : Nat → Int32) (N : Nat) (ou : Int32) (k0 : Nat) (x : Int32) : Int32 :=
  if 0 < mFewest r N ou k0 x then jFind (fun s => mCounts r ou s k0 && decide (mFewest r N ou (mBeh r N s k0) x = mFewest r N ou k0 x - 1)) N 0 else -1
def mTell (r : Nat → Int32) (N : Nat) (ou : Int32) (k0 sx : Nat) (wh : Int32) : Int32 :=
  if wh = 0 then r (3 * sx) else if wh = 1 then r (3 * sx + 1) else if wh = 2 then (ou >>> (nI sx &&& 31)) &&& 1 else if wh = 3 then bI (mCounts r ou sx k0) else if wh = 4 then r (3 * sx + 2) else if wh = 5 then mFewest r N ou k0 (nI sx) else -102
def mSeat (r : Nat → Int32) (N : Nat) (ou : Int32) (k0 : Nat) (x wh : Int32) : Int32 := if mIn x 0 (nI N - 1) then mTell r N ou k0 x.toNatClampNeg wh else -101
def mAs (r : Nat → Int32) (N : Nat) (x k : Int32) : Int32 :=
  if mIn x 0 (nI N - 1) then (if mIn k 0 4 then (if k = 0 ∨ k = r (3 * x.toNatClampNeg) ∨ (k = 1 ∧ r (3 * x.toNatClampNeg) = 4) then x else -1) else -102) else -101
def mGet (r : Nat → Int32) (N : Nat) (ou : Int32) (k0 : Nat) (x wh : Int32) : Int32 :=
  if mIn x 0 (nI N - 1) then (if mIn wh 0 1 then (if wh = 0 then mFewest r N ou k0 x else mFirst r N ou k0 x) else -102) else -101
theorem jWhole_ff {n : Nat} {f : Nat → Int32} (h : jWhole n f = true) : jFF f n 0 0 0 = n := by
  unfold jWhole at h
  simp only [Bool.and_eq_true, decide_eq_true_eq] at h
  exact h.2
theorem mRows_step {f r g : Nat → Int32} {i : Nat} (h : ∀ p, g p = if p < 3 * i then (if p % 3 = 0 then jKindOf (f p) else if p % 3 = 1 then f p - 48 else 0) else r p) : ∀ p, upd (upd (upd g (3 * i) (jKindOf (f (3 * i)))) (3 * i + 1) (f (3 * i + 1) - 48)) (3 * i + 2) 0 p = if p < 3 * (i + 1) then (if p % 3 = 0 then jKindOf (f p) else if p % 3 = 1 then f p - 48 else 0) else r p := by
  intro p
  unfold upd
  by_cases e2 : p = 3 * i + 2
  · subst e2; rw [if_pos rfl, if_pos (by omega), if_neg (by omega), if_neg (by omega)]
  · rw [if_neg e2]
    by_cases e1 : p = 3 * i + 1
    · subst e1; rw [if_pos rfl, if_pos (by omega), if_neg (by omega), if_pos (by omega)]
    · rw [if_neg e1]
      by_cases e0 : p = 3 * i
      · subst e0; rw [if_pos rfl, if_pos (by omega), if_pos (by omega)]
      · rw [if_neg e0, h p]
        by_cases q : p < 3 * i
        · rw [if_pos q, if_pos (show p < 3 * (i + 1) by omega)]
        · rw [if_neg q, if_neg (show ¬ p < 3 * (i + 1) by omega)]
theorem z_8 (s b : Nat) : 8 * nI s + nI b = nI (8 * s + b) := by
  show nI 8 * nI s + nI b = _
  rw [nI_mul, nI_add]
theorem mJ_V {N : Nat} {who ou : Int32} {k : Nat} {r : Nat → Int32} {k2 : Nat} {r2 : Nat → Int32} (hk : mV k) (h5 : N ≤ 5) (h : (k2, r2) = if mMany N r ou who k = 1 then mStep N (mBits r ou who k N) k r N else (k, r)) : mV k2 := by
  by_cases e : mMany N r ou who k = 1
  · rw [if_pos e] at h
    have := mStep_V (bits := mBits r ou who k N) (r := r) hk h5 N (Nat.le_refl N)
    rw [← h] at this
    exact this
  · rw [if_neg e] at h
    have := congrArg Prod.fst h
    dsimp only at this
    rw [this]
    exact hk
theorem mGoes_eq {N : Nat} {pt who : Int32} {k : Nat} {ou si en w0 w1 br : Int32} {r : Nat → Int32} {k2 : Nat} {r2 : Nat → Int32} {g : mT}
    (h : (k2, r2) = if mMany N r ou who k = 1 then mStep N (mBits r ou who k N) k r N else (k, r))
    (hg : (¬ (if mMany N r ou who k = 0 then si + 1 else 0) = pt ∧ g = (k2, ou ||| (if 1 < mMany N r ou who k then mBits r ou who k N else 0), if mMany N r ou who k = 0 then si + 1 else 0, en, w0, w1, br + 1, r2)) ∨
      ((if mMany N r ou who k = 0 then si + 1 else 0) = pt ∧ g = (63, 0, 0, en + 1, mWon 0 r2 k2 w0, mWon 1 r2 k2 w1, br + 1, r2))) : g = mGoes N pt who k ou si en w0 w1 br r := by
  have e : mMid N who k ou si en w0 w1 br r = (k2, ou ||| (if 1 < mMany N r ou who k then mBits r ou who k N else 0), if mMany N r ou who k = 0 then si + 1 else 0, en, w0, w1, br + 1, r2) := by
    unfold mMid
    by_cases q : mMany N r ou who k = 1
    · rw [if_pos q] at h
      rw [if_pos q, if_pos q, ← h]
    · rw [if_neg q] at h
      have h1 := congrArg Prod.fst h
      have h2 := congrArg Prod.snd h
      dsimp only at h1 h2
      rw [if_neg q, if_neg q, h1, h2]
  unfold mGoes mEnd
  rw [e]
  dsimp only
  rcases hg with ⟨a, b⟩ | ⟨a, b⟩
  · rw [if_neg a]; exact b
  · rw [if_pos a]; exact b
