theorem pI_neg : ∀ d : Nat, d < 8 → (pI d < 0 ↔ d = 0) := by decide
theorem z_pdec (d : Nat) : nI d + -1 = pI d := by
  rw [← Int32.sub_eq_add_neg]
  rfl
theorem pI_nI {d : Nat} (h : 0 < d) : pI d = nI (d - 1) := by
  have e : d = (d - 1) + 1 := by omega
  rw [e, ← pI_up]
  rfl
def mAll (f : Nat → Int32) (nw ou si en w0 w1 br : Int32) : Nat → Int32 := upd (upd (upd (upd (upd (upd (upd f 0 nw) 1 ou) 2 si) 3 en) 4 w0) 5 w1) 6 br
def mNext (sd : Int32) : Int32 := Int64.toInt32 ((1103515245 * Int32.toInt64 sd + 12345) &&& 2147483647)
def mRem (x : Int32) : Int32 := x / 65536 - x / 65536 / 3 * 3
def mDraw (sd : Int32) : Nat → Int32 × Int32
  | 0 => (sd, 0)
  | s + 1 => (mNext (mDraw sd s).1, (mDraw sd s).2 ||| (if mRem (mNext (mDraw sd s).1) = 0 then 1 <<< (nI s &&& 31) else 0))
def mGoesT (N : Nat) (pt who : Int32) (g : mT) : mT := mGoes N pt who g.1 g.2.1 g.2.2.1 g.2.2.2.1 g.2.2.2.2.1 g.2.2.2.2.2.1 g.2.2.2.2.2.2.1 g.2.2.2.2.2.2.2
def mRun (N : Nat) (pt sd : Int32) (g0 : mT) : Nat → Int32 × mT
  | 0 => (sd, g0)
  | k + 1 => ((mDraw (mRun N pt sd g0 k).1 N).1, mGoesT N pt (mDraw (mRun N pt sd g0 k).1 N).2 (mRun N pt sd g0 k).2)
def mSess (N : Nat) (pt : Int32) (g : mT) (b sd wh : Int32) : Int32 :=
  if mIn b 1 60 = true ∧ ¬ sd < 0 ∧ mIn wh 0 2 = true then (if N = 0 then -103 else if wh = 0 then (mRun N pt sd g b.toNatClampNeg).2.2.2.2.1 - g.2.2.2.1
    else if wh = 1 then (mRun N pt sd g b.toNatClampNeg).2.2.2.2.2.1 - g.2.2.2.2.1 else (mRun N pt sd g b.toNatClampNeg).1) else -102
def mCount (N n : Nat) (pt : Int32) (k0 : Nat) (si en w0 w1 br : Int32) (t : Nat) (cr wh : Int32) : Int32 :=
  if wh = 0 then nI N else if wh = 1 then pt else if wh = 2 then (if k0 / 8 = 7 then -1 else nI (k0 / 8)) else if wh = 3 then (if k0 % 8 = 7 then -1 else nI (k0 % 8)) else if wh = 4 then si else if wh = 5 then en else if wh = 6 then w0 else if wh = 7 then w1 else if wh = 8 then br else if wh = 9 then nI t else if wh = 10 then nI n else if wh = 11 then cr else -102
theorem mO0_step {nb q : Nat} {g : Nat → Int32} (h : ∀ j, j < 448 → g j = if 64 * nb ≤ j ∧ j < 64 * nb + q then 1 else 0) : ∀ j, j < 448 → upd g (64 * nb + q) 1 j = if 64 * nb ≤ j ∧ j < 64 * nb + (q + 1) then 1 else 0 := by
  intro j hj
  unfold upd
  by_cases e : j = 64 * nb + q
  · rw [if_pos e, if_pos (by omega)]
  · rw [if_neg e, h j hj]
    by_cases c : 64 * nb ≤ j ∧ j < 64 * nb + q
    · rw [if_pos c, if_pos (by omega)]
    · rw [if_neg c, if_neg (by omega)]
