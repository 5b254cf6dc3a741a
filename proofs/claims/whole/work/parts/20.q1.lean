/-! the reference, level 0 -/
def mIn (x lo hi : Int32) : Bool := decide (lo ≤ x) && decide (x ≤ hi)
theorem z_in64 {x lo hi : Int32} {a b : Int64} (ha : lo.toInt64 = a) (hb : hi.toInt64 = b) : bI (decide (a ≤ x.toInt64) && decide (x.toInt64 ≤ b)) = bI (mIn x lo hi) := by
  subst ha; subst hb
  have e : ∀ y z : Int32, (y.toInt64 ≤ z.toInt64) ↔ y ≤ z := by
    intro y z
    rw [Int64.le_iff_toInt_le, Int32.le_iff_toInt_le, Int32.toInt_toInt64, Int32.toInt_toInt64]
  unfold mIn
  congr 1
  rw [decide_eq_decide.mpr (e lo x), decide_eq_decide.mpr (e x hi)]
theorem z_d8 : ∀ k : Nat, k < 64 → nI k / 8 = nI (k / 8) := by decide +kernel
theorem z_m8 : ∀ k : Nat, k < 64 → nI k - nI k / 8 * 8 = nI (k % 8) := by decide +kernel
theorem nI_2 (i : Nat) : 2 * nI i = nI (2 * i) := nI_mul 2 i
theorem nI_21 (i : Nat) : 2 * nI i + 1 = nI (2 * i + 1) := by rw [nI_2, nI_1]
theorem nI_32 (i : Nat) : 3 * nI i + 2 = nI (3 * i + 2) := by rw [nI_3]; exact nI_add _ 2
def mCounts (r : Nat → Int32) (ou : Int32) (s k : Nat) : Bool :=
  decide ((ou >>> (nI s &&& 31)) &&& 1 = 0) && !decide (r (3 * s) = 4) && (!decide (r (3 * s) = 1) || (decide (nI (k / 8) < 5) && (decide (nI (k / 8) = nI s - 1) || decide (nI (k / 8) = nI s + 1))))
def mBeh (r : Nat → Int32) (N s k : Nat) : Nat :=
  if k / 8 = s then k else if r (3 * s) = 2 then 47 else 8 * s + (if k / 8 = 7 then 7 else if r (3 * s) = 3 then (if s = 0 then N - 1 else s - 1) else s)
def mV (k : Nat) : Prop := k < 64 ∧ (k % 8 < 5 ∨ k % 8 = 7)
theorem mBeh_V {r : Nat → Int32} {N s k : Nat} (hk : mV k) (hs : s < N) (hN : N ≤ 5) : mV (mBeh r N s k) := by
  unfold mBeh mV at *
  repeat' split
  all_goals first | omega | (refine ⟨by omega, ?_⟩; rw [Nat.mul_add_mod]; omega)
theorem mBeh_64 {r : Nat → Int32} {N s k : Nat} (hk : k < 64) (hs : s < N) (hN : N ≤ 5) : mBeh r N s k < 64 := by
  unfold mBeh
  repeat' split
  all_goals omega
def mOnes (x : Int32) : Nat → Int32
  | 0 => 0
  | k + 1 => mOnes x k + ((x >>> (nI k &&& 31)) &&& 1)
def mBits (r : Nat → Int32) (ou who : Int32) (k : Nat) : Nat → Int32
  | 0 => 0
  | s + 1 => mBits r ou who k s ||| (if ((who >>> (nI s &&& 31)) &&& 1 = 1) ∧ mCounts r ou s k = true then 1 <<< (nI s &&& 31) else 0)
def mStep (N : Nat) (bits : Int32) (k : Nat) (r : Nat → Int32) : Nat → Nat × (Nat → Int32)
  | 0 => (k, r)
  | s + 1 => if bits = 1 <<< (nI s &&& 31) then (mBeh (mStep N bits k r s).2 N s (mStep N bits k r s).1, upd (mStep N bits k r s).2 (3 * s + 2) ((mStep N bits k r s).2 (3 * s + 2) + 1)) else mStep N bits k r s
theorem mStep_V {N : Nat} {bits : Int32} {k : Nat} {r : Nat → Int32} (hk : mV k) (hN : N ≤ 5) : ∀ s, s ≤ N → mV (mStep N bits k r s).1
  | 0, _ => hk
  | s + 1, h => by
    unfold mStep
    split
    · exact mBeh_V (mStep_V hk hN s (by omega)) (by omega) hN
    · exact mStep_V hk hN s (by omega)
def mWon (v : Int32) (r : Nat → Int32) (k : Nat) (w : Int32) : Int32 := w + (if ¬ k % 8 = 7 ∧ r (3 * (k % 8) + 1) = v then 1 else 0)
/-- now, out, silence, cases, won by 0, by 1, breaths; rows -/
abbrev mT : Type := Nat × Int32 × Int32 × Int32 × Int32 × Int32 × Int32 × (Nat → Int32)
def mEnd (pt : Int32) (g : mT) : mT :=
  if g.2.2.1 = pt then (63, 0, 0, g.2.2.2.1 + 1, mWon 0 g.2.2.2.2.2.2.2 g.1 g.2.2.2.2.1, mWon 1 g.2.2.2.2.2.2.2 g.1 g.2.2.2.2.2.1, g.2.2.2.2.2.2.1, g.2.2.2.2.2.2.2) else g
def mMany (N : Nat) (r : Nat → Int32) (ou who : Int32) (k : Nat) : Int32 := mOnes (mBits r ou who k N) 8
def mMid (N : Nat) (who : Int32) (k : Nat) (ou si en w0 w1 br : Int32) (r : Nat → Int32) : mT :=
  (if mMany N r ou who k = 1 then (mStep N (mBits r ou who k N) k r N).1 else k, ou ||| (if 1 < mMany N r ou who k then mBits r ou who k N else 0), if mMany N r ou who k = 0 then si + 1 else 0, en, w0, w1, br + 1, if mMany N r ou who k = 1 then (mStep N (mBits r ou who k N) k r N).2 else r)
def mGoes (N : Nat) (pt who : Int32) (k : Nat) (ou si en w0 w1 br : Int32) (r : Nat → Int32) : mT := mEnd pt (mMid N who k ou si en w0 w1 br r)
theorem mMid_V {N : Nat} {who : Int32} {k : Nat} {ou si en w0 w1 br : Int32} {r : Nat → Int32} (hk : mV k) (hN : N ≤ 5) : mV (mMid N who k ou si en w0 w1 br r).1 := by
  unfold mMid
  dsimp only
  split
  · exact mStep_V hk hN N (Nat.le_refl N)
  · exact hk
theorem mGoes_V {N : Nat} {pt who : Int32} {k : Nat} {ou si en w0 w1 br : Int32} {r : Nat → Int32} (hk : mV k) (hN : N ≤ 5) : mV (mGoes N pt who k ou si en w0 w1 br r).1 := by
  unfold mGoes mEnd
  split
  · show mV 63
    unfold mV; decide
  · exact mMid_V hk hN
-- the page, read
def mRead (n : Nat) (f : Nat → Int32) (rm rp st : Int32) (rd : Nat → Int32) : Prop :=
  (jWhole n f = true → st = 4 ∧ rm = nI (jSeats n) ∧ rp = f (n - 1) - 48 ∧ ∀ s, s < jSeats n → rd (2 * s) = jKindOf (f (3 * s)) ∧ rd (2 * s + 1) = f (3 * s + 1) - 48) ∧ (jWhole n f = false → jFF f n 0 0 0 = n → ¬ st = 4)
def mRows (n : Nat) (f ro : Nat → Int32) : Nat → Int32 := fun p => if p < 3 * jSeats n then (if p % 3 = 0 then jKindOf (f p) else if p % 3 = 1 then f p - 48 else 0) else ro p
def mInv (f : Nat → Int32) (n k d r : Nat) (rp : Int32) (g : Nat → Int32) : Prop :=
  d ≤ 4 ∧ r ≤ 5 ∧ (d ≤ 1 → r ≤ 4) ∧ jFF f n 0 0 0 = jFF f (n - k) k (nI d) (nI (if d = 1 then r + 1 else r)) ∧
  (d = 0 → k = 3 * r) ∧ (d = 1 → k = 3 * r + 1) ∧ (d = 2 → k + 1 = 3 * r) ∧ (d = 3 → k = 3 * r ∧ 2 ≤ r) ∧ (d = 4 → k = 3 * r + 1 ∧ 2 ≤ r ∧ f (3 * r - 1) = 59 ∧ rp = f (3 * r) - 48) ∧ (d = 3 → f (3 * r - 1) = 59) ∧
  (∀ s, s < r → g (2 * s) = jKindOf (f (3 * s)) ∧ g (2 * s + 1) = f (3 * s + 1) - 48) ∧ (d = 1 → g (2 * r) = jKindOf (f (3 * r))) ∧
  (1 ≤ k → f (k - 1) = 59 → d = 3) ∧ (2 ≤ k → f (k - 2) = 59 → d = 4)
theorem mInv_0 (f : Nat → Int32) (n : Nat) (rp : Int32) (g : Nat → Int32) : mInv f n 0 0 0 rp g := by
  refine ⟨by omega, by omega, by omega, rfl, by omega, by omega, by omega, by omega, by omega, by omega, ?_, by omega, by omega, by omega⟩
  intro s hs
  omega
theorem jFF_go {f : Nat → Int32} {n k : Nat} {d s : Int32} (h : k < n) : jFF f (n - k) k d s = if jDue d (f k) (if d = 0 then s + 1 else s) = 5 then k else jFF f (n - (k + 1)) (k + 1) (jDue d (f k) (if d = 0 then s + 1 else s)) (if d = 0 then s + 1 else s) := by
  rw [show n - k = (n - (k + 1)) + 1 from by omega]
  rfl
theorem mRej {f : Nat → Int32} {n k d r : Nat} {rp : Int32} {g : Nat → Int32} (h : mInv f n k d r rp g) (hk : k < n) (hd : ∀ s : Int32, (s = nI (if d = 1 then r + 1 else r) ∨ d = 0) → jDue (nI d) (f k) s = 5) : jFF f n 0 0 0 = k := by
  obtain ⟨h1, h2, h3, h4, -⟩ := h
  rw [h4, jFF_go hk]
  rw [if_pos]
  refine hd _ ?_
  by_cases e : d = 0
  · exact Or.inr e
  · left
    rw [if_neg]
    intro q
    exact e ((nI_eq (b := 0) (by omega) (by omega)).mp q)
theorem mAcc0 {f : Nat → Int32} {n k r : Nat} {rp : Int32} {g : Nat → Int32} (h : mInv f n k 0 r rp g) (hk : k < n) (hc : ¬ jKindOf (f k) = -1) : mInv f n (k + 1) 1 r rp (upd g (2 * r) (jKindOf (f k))) := by
  obtain ⟨h1, h2, h3, h4, h5, h6, h7, h8, h9, h10, h11, h12, h13, h14⟩ := h
  have e := h5 rfl
  have h59 : ¬ f k = 59 := fun q => hc (by rw [q]; rfl)
  refine ⟨by omega, by omega, by omega, ?_, by omega, by omega, by omega, by omega, by omega, by omega, ?_, ?_, ?_, ?_⟩
  · rw [h4, jFF_go hk]
    have ed : ∀ s, jDue (nI 0) (f k) s = 1 := fun s => by unfold jDue; rw [if_pos (by rfl), if_neg hc]
    rw [ed, if_neg (by decide), if_pos (by rfl), if_neg (by decide), if_pos rfl, nI_1]
    rfl
  · intro s hs
    obtain ⟨a, b⟩ := h11 s hs
    unfold upd
    rw [if_neg (by omega), if_neg (by omega)]
    exact ⟨a, b⟩
  · intro _
    unfold upd
    rw [if_pos rfl, e]
  · intro _ q
    exact absurd q (by rw [show k + 1 - 1 = k from by omega]; exact h59)
  · intro q1 q2
    have := h13 (by omega) (by rw [show k + 1 - 2 = k - 1 from by omega] at q2; exact q2)
    omega
theorem mAcc1 {f : Nat → Int32} {n k r : Nat} {rp : Int32} {g : Nat → Int32} (h : mInv f n k 1 r rp g) (hk : k < n) (hc : f k = 48 ∨ f k = 49) : mInv f n (k + 1) 2 (r + 1) rp (upd g (2 * r + 1) (f k - 48)) := by
  obtain ⟨h1, h2, h3, h4, h5, h6, h7, h8, h9, h10, h11, h12, h13, h14⟩ := h
  have e := h6 rfl
  have h59 : ¬ f k = 59 := fun q => by rcases hc with c | c <;> rw [c] at q <;> exact absurd q (by decide)
  refine ⟨by omega, by omega, by omega, ?_, by omega, by omega, by omega, by omega, by omega, by omega, ?_, by omega, ?_, ?_⟩
  · rw [h4, jFF_go hk]
    have ed : ∀ s, jDue (nI 1) (f k) s = 2 := fun s => by unfold jDue; rw [if_neg (by decide), if_pos (by rfl), if_pos hc]
    rw [ed, if_neg (by decide), if_neg (by decide), if_pos rfl, if_neg (by decide)]
    rfl
  · intro s hs
    unfold upd
    by_cases q : s = r
    · subst q
      rw [if_neg (by omega), if_pos rfl]
      exact ⟨h12 rfl, by rw [e]⟩
    · obtain ⟨a, b⟩ := h11 s (by omega)
      rw [if_neg (by omega), if_neg (by omega)]
      exact ⟨a, b⟩
  · intro _ q
    exact absurd q (by rw [show k + 1 - 1 = k from by omega]; exact h59)
  · intro q1 q2
    have := h13 (by omega) (by rw [show k + 1 - 2 = k - 1 from by omega] at q2; exact q2)
    omega
theorem mAcc2a {f : Nat → Int32} {n k r : Nat} {rp : Int32} {g : Nat → Int32} (h : mInv f n k 2 r rp g) (hk : k < n) (hc : f k = 44) (hr : r < 5) : mInv f n (k + 1) 0 r rp g := by
  obtain ⟨h1, h2, h3, h4, h5, h6, h7, h8, h9, h10, h11, h12, h13, h14⟩ := h
  have e := h7 rfl
  refine ⟨by omega, by omega, by omega, ?_, by omega, by omega, by omega, by omega, by omega, by omega, h11, by omega, ?_, ?_⟩
  · rw [h4, jFF_go hk]
    have ed : jDue (nI 2) (f k) (nI r) = 0 := by
      unfold jDue jDueM
      rw [if_neg (by decide), if_neg (by decide), if_pos (by rfl), if_pos ⟨hc, nI_lt (b := 5) hr (by decide)⟩]
    rw [if_neg (show ¬ nI 2 = 0 by decide), if_neg (show ¬ 2 = 1 by decide), ed, if_neg (by decide), if_neg (show ¬ 0 = 1 by decide)]
    rfl
  · intro _ q
    rw [show k + 1 - 1 = k from by omega, hc] at q
    exact absurd q (by decide)
  · intro q1 q2
    have := h13 (by omega) (by rw [show k + 1 - 2 = k - 1 from by omega] at q2; exact q2)
    omega
theorem mAcc2b {f : Nat → Int32} {n k r : Nat} {rp : Int32} {g : Nat → Int32} (h : mInv f n k 2 r rp g) (hk : k < n) (hc : f k = 59) (hr : 2 ≤ r) : mInv f n (k + 1) 3 r rp g := by
  obtain ⟨h1, h2, h3, h4, h5, h6, h7, h8, h9, h10, h11, h12, h13, h14⟩ := h
  have e := h7 rfl
  refine ⟨by omega, by omega, by omega, ?_, by omega, by omega, by omega, by omega, by omega, ?_, h11, by omega, ?_, ?_⟩
  · rw [h4, jFF_go hk]
    have ed : jDue (nI 2) (f k) (nI r) = 3 := by
      unfold jDue jDueM
      rw [if_neg (by decide), if_neg (by decide), if_pos (by rfl), if_neg (fun q => absurd (hc.symm.trans q.1) (by decide)), if_pos ⟨hc, nI_le (a := 2) hr (by omega)⟩]
    rw [if_neg (show ¬ nI 2 = 0 by decide), if_neg (show ¬ 2 = 1 by decide), ed, if_neg (by decide), if_neg (show ¬ 3 = 1 by decide)]
    rfl
  · intro _
    rw [← e, show k + 1 - 1 = k from by omega]
    exact hc
  · intro _ _
    rfl
  · intro q1 q2
    have := h13 (by omega) (by rw [show k + 1 - 2 = k - 1 from by omega] at q2; exact q2)
    omega
theorem mAcc3 {f : Nat → Int32} {n k r : Nat} {rp : Int32} {g : Nat → Int32} (h : mInv f n k 3 r rp g) (hk : k < n) (hc : 49 ≤ f k ∧ f k ≤ 57) : mInv f n (k + 1) 4 r (f k - 48) g := by
  obtain ⟨h1, h2, h3, h4, h5, h6, h7, h8, h9, h10, h11, h12, h13, h14⟩ := h
  have e := (h8 rfl).1
  have h59 : ¬ f k = 59 := fun q => absurd hc.2 (by rw [q]; decide)
  refine ⟨by omega, by omega, by omega, ?_, by omega, by omega, by omega, by omega, ?_, by omega, h11, by omega, ?_, ?_⟩
  · rw [h4, jFF_go hk]
    have ed : ∀ s, jDue (nI 3) (f k) s = 4 := fun s => by
      unfold jDue
      rw [if_neg (by decide), if_neg (by decide), if_neg (by decide), if_pos (by rfl), if_pos hc]
    rw [ed, if_neg (by decide), if_neg (by decide), if_neg (by decide), if_neg (by decide)]
    rfl
  · intro _
    exact ⟨by omega, (h8 rfl).2, h10 rfl, by rw [← e]⟩
  · intro _ q
    exact absurd q (by rw [show k + 1 - 1 = k from by omega]; exact h59)
  · intro _ _
    rfl
theorem mDone {f : Nat → Int32} {n d r : Nat} {rp : Int32} {g : Nat → Int32} (h : mInv f n n d r rp g) : mRead n f (nI r) rp (nI d) g := by
  obtain ⟨h1, h2, h3, h4, h5, h6, h7, h8, h9, h10, h11, h12, h13, h14⟩ := h
  constructor
  · intro hw
    have hw2 := hw
    unfold jWhole at hw2
    simp only [Bool.and_eq_true, decide_eq_true_eq] at hw2
    have hd := h14 hw2.1.1 hw2.1.2
    obtain ⟨e1, e2, e3, e4⟩ := h9 hd
    have es : jSeats n = r := by unfold jSeats; omega
    rw [hd, es]
    exact ⟨rfl, rfl, by rw [e4]; congr 2; omega, h11⟩
  · intro hw hf hd
    have hd : d = 4 := (nI_eq (b := 4) (by omega) (by omega)).mp hd
    obtain ⟨e1, e2, e3, e4⟩ := h9 hd
    have : jWhole n f = true := by
      unfold jWhole
      simp only [Bool.and_eq_true, decide_eq_true_eq]
      exact ⟨⟨by omega, by rw [← e3]; congr 1; omega⟩, hf⟩
    rw [this] at hw
    cases hw
theorem mRead_no {f : Nat → Int32} {n k : Nat} {rm rp st : Int32} {g : Nat → Int32} (h : jFF f n 0 0 0 = k) (hk : k < n) : mRead n f rm rp st g := by
  constructor
  · intro hw
    unfold jWhole at hw
    simp only [Bool.and_eq_true, decide_eq_true_eq] at hw
    omega
  · intro _ q
    omega
theorem z_mIn48 {c lo hi lo' hi' : Int32} (h1 : 0 ≤ lo.toInt) (h2 : hi.toInt ≤ 9) (h3 : lo'.toInt = lo.toInt + 48) (h4 : hi'.toInt = hi.toInt + 48) (h5 : lo.toInt ≤ hi.toInt) : mIn (c - 48) lo hi = (decide (lo' ≤ c) && decide (c ≤ hi')) := by
  have e : (lo ≤ c - 48 ∧ c - 48 ≤ hi) ↔ (lo' ≤ c ∧ c ≤ hi') := by
    rw [Int32.le_iff_toInt_le, Int32.le_iff_toInt_le, Int32.le_iff_toInt_le, Int32.le_iff_toInt_le, Int32.toInt_sub, show (48 : Int32).toInt = 48 from rfl, h3, h4]
    have a1 := Int32.le_toInt c
    have a2 := Int32.toInt_lt c
    unfold Int.bmod
    simp only []
    split <;> omega
  unfold mIn
  rw [← Bool.decide_and, ← Bool.decide_and, decide_eq_decide.mpr e]
theorem mIn01 {c : Int32} (h : mIn (c - 48) 0 1 = true) : c = 48 ∨ c = 49 := by
  rw [z_mIn48 (lo' := 48) (hi' := 49) (by decide) (by decide) (by decide) (by decide) (by decide)] at h
  grind
theorem mIn19 {c : Int32} (h : mIn (c - 48) 1 9 = true) : 49 ≤ c ∧ c ≤ 57 := by
  rw [z_mIn48 (lo' := 49) (hi' := 57) (by decide) (by decide) (by decide) (by decide) (by decide)] at h
  grind
theorem mAcc2 {f : Nat → Int32} {n k r : Nat} {rp : Int32} {g : Nat → Int32} (h : mInv f n k 2 r rp g) (hk : k < n) (hc : (if f k = 44 then decide (r < 5) else decide (f k = 59) && decide (1 < r)) = true) : mInv f n (k + 1) (if f k = 44 then 0 else 3) r rp g := by
  by_cases e : f k = 44
  · rw [if_pos e] at hc ⊢
    exact mAcc2a h hk e (of_decide_eq_true hc)
  · rw [if_neg e] at hc ⊢
    simp only [Bool.and_eq_true, decide_eq_true_eq] at hc
    exact mAcc2b h hk hc.1 hc.2
theorem mNo0 {c s : Int32} (h : (!decide (jKindOf c = -1)) = false) : jDue (nI 0) c s = 5 := by
  unfold jDue
  rw [if_pos (by rfl), if_pos (by simpa using h)]
theorem mNo1 {c s : Int32} (h : mIn (c - 48) 0 1 = false) : jDue (nI 1) c s = 5 := by
  rw [z_mIn48 (lo' := 48) (hi' := 49) (by decide) (by decide) (by decide) (by decide) (by decide)] at h
  unfold jDue
  rw [if_neg (by decide), if_pos (by rfl), if_neg]
  rintro (q | q) <;> rw [q] at h <;> exact absurd h (by decide)
theorem mNo2 {c s : Int32} {r : Nat} (hr : r ≤ 5) (hs : s = nI (if 2 = 1 then r + 1 else r)) (h : (if c = 44 then decide (r < 5) else decide (c = 59) && decide (1 < r)) = false) : jDue (nI 2) c s = 5 := by
  rw [if_neg (by decide)] at hs
  subst hs
  unfold jDue jDueM
  rw [if_neg (by decide), if_neg (by decide), if_pos (by rfl)]
  by_cases e : c = 44
  · rw [if_pos e] at h
    have h := of_decide_eq_false h
    rw [if_neg (fun q => h ((nI_ltI (b := 5) (by omega) (by omega)).mp q.2)), if_neg (fun q => absurd (e.symm.trans q.1) (by decide))]
  · rw [if_neg e] at h
    rw [if_neg (fun q => e q.1), if_neg]
    rintro ⟨q1, q2⟩
    have := (nI_leI (a := 2) (by omega) (by omega)).mp q2
    simp [q1] at h
    omega
theorem mNo3 {c s : Int32} (h : mIn (c - 48) 1 9 = false) : jDue (nI 3) c s = 5 := by
  rw [z_mIn48 (lo' := 49) (hi' := 57) (by decide) (by decide) (by decide) (by decide) (by decide)] at h
  unfold jDue
  rw [if_neg (by decide), if_neg (by decide), if_neg (by decide), if_pos (by rfl), if_neg]
  intro q
  rw [← Bool.decide_and, decide_eq_false_iff_not] at h
  exact h q
theorem mNo4 {c s : Int32} : jDue (nI 4) c s = 5 := by
  unfold jDue
  rw [if_neg (by decide), if_neg (by decide), if_neg (by decide), if_neg (by decide)]
