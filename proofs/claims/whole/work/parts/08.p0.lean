/-! level 0: what the small methods answer, as they stand -/
def pI (L : Nat) : Int32 := nI L - 1
theorem jAt_nI {n i : Nat} {f : Nat → Int32} (h : i < n) (hn : n < 2147483648) : jAt n f (nI i) = f i := by
  unfold jAt
  rw [if_pos ⟨nI_pos' (by omega), nI_lt h (by omega)⟩, z_nat (by omega)]
theorem jPut_nI {n i : Nat} {f : Nat → Int32} {v : Int32} (h : i < n) (hn : n < 2147483648) : jPut n f (nI i) v = upd f i v := by
  unfold jPut
  rw [if_pos ⟨nI_pos' (by omega), nI_lt h (by omega)⟩, z_nat (by omega)]
def jNext (x : Int64) : Int64 := 1103515245 * x + 12345 - (1103515245 * x + 12345) / 2147483648 * 2147483648
-- the page
def jCode (n : Nat) (f : Nat → Int32) (x : Int32) : Int32 := if 0 ≤ x ∧ x < nI n then f x.toNatClampNeg else 0
theorem jCode_nI {n i : Nat} {f : Nat → Int32} (h : i < n) (hn : n < 2147483648) : jCode n f (nI i) = f i := by
  unfold jCode
  rw [if_pos ⟨nI_pos' (by omega), nI_lt h (by omega)⟩, z_nat (by omega)]
def jKindOf (c : Int32) : Int32 := if c = 101 then 2 else if c = 102 then 3 else if c = 109 then 4 else if c = 115 then 0 else if c = 119 then 1 else -1
def jDueM (c s : Int32) : Int32 := if c = 44 ∧ s < 5 then 0 else if c = 59 ∧ 2 ≤ s then 3 else 5
def jDue (d c s : Int32) : Int32 := if d = 0 then (if jKindOf c = -1 then 5 else 1) else if d = 1 then (if c = 48 ∨ c = 49 then 2 else 5) else if d = 2 then jDueM c s else if d = 3 then (if 49 ≤ c ∧ c ≤ 57 then 4 else 5) else 5
def jFF (f : Nat → Int32) : Nat → Nat → Int32 → Int32 → Nat
  | 0, p, _, _ => p
  | k + 1, p, d, s => if jDue d (f p) (if d = 0 then s + 1 else s) = 5 then p else jFF f k (p + 1) (jDue d (f p) (if d = 0 then s + 1 else s)) (if d = 0 then s + 1 else s)
def jWhole (n : Nat) (f : Nat → Int32) : Bool := decide (2 ≤ n) && decide (f (n - 2) = 59) && decide (jFF f n 0 0 0 = n)
-- the bench
def jKind (N : Nat) (kf : Nat → Int32) (x : Int32) : Int32 := if 0 ≤ x ∧ x < nI N then kf x.toNatClampNeg else -1
theorem jKind_nI {N s : Nat} {kf : Nat → Int32} (h : s < N) (hN : N ≤ 5) : jKind N kf (nI s) = kf s := by
  unfold jKind
  rw [if_pos ⟨nI_pos' (by omega), nI_lt h (by omega)⟩, z_nat (by omega)]
def jHas (N : Nat) (x : Int32) : Bool := decide (0 ≤ x) && decide (x < nI N)
def jNames (N : Nat) (x : Int32) : Bool := decide (0 ≤ x) && decide (x < 1 <<< (nI N &&& 31))
def jIsOf (N : Nat) (kf : Nat → Int32) (x k : Int32) : Bool := jHas N x && (decide (k = 0) || decide (k = jKind N kf x) || (decide (k = 1) && decide (jKind N kf x = 4)))
def jBeside (N : Nat) (last x : Int32) : Bool := decide (0 ≤ last) && decide (last < nI N) && (decide (last = x - 1) || decide (last = x + 1))
def jCounts (N : Nat) (kf : Nat → Int32) (x last o : Int32) : Bool := !(decide (jKind N kf x = -1) || decide (jKind N kf x = 4) || jIsIn x o) && (!decide (jKind N kf x = 1) || jBeside N last x)
def jBel (N : Nat) (kf : Nat → Int32) (x last : Int32) : Int32 := if last = -1 ∨ jKind N kf x = 2 then -1 else if jKind N kf x = 3 then (if x = 0 then nI N - 1 else x - 1) else x
def jLast (N : Nat) (kf : Nat → Int32) (x : Int32) : Int32 := if jKind N kf x = 2 then 5 else x
theorem z_lkKind {x : Int32} (h1 : ¬ x = 101) (h2 : ¬ x = 102) (h3 : ¬ x = 109) (h4 : ¬ x = 115) (h5 : ¬ x = 119) : Op.lookupswitch.offset (#[(101, 55), (102, 57), (109, 59), (115, 51), (119, 53)] : Array (Int × Int)).toList 61 x.toInt = 61 := by
  show Op.lookupswitch.offset [(101, 55), (102, 57), (109, 59), (115, 51), (119, 53)] 61 x.toInt = 61
  have a1 : ¬ (101 : Int) = x.toInt := fun h => h1 (z_toInt h.symm 101 rfl)
  have a2 : ¬ (102 : Int) = x.toInt := fun h => h2 (z_toInt h.symm 102 rfl)
  have a3 : ¬ (109 : Int) = x.toInt := fun h => h3 (z_toInt h.symm 109 rfl)
  have a4 : ¬ (115 : Int) = x.toInt := fun h => h4 (z_toInt h.symm 115 rfl)
  have a5 : ¬ (119 : Int) = x.toInt := fun h => h5 (z_toInt h.symm 119 rfl)
  rw [Op.lookupswitch.offset_cons, if_neg a1, Op.lookupswitch.offset_cons, if_neg a2, Op.lookupswitch.offset_cons, if_neg a3, Op.lookupswitch.offset_cons, if_neg a4, Op.lookupswitch.offset_cons, if_neg a5]
  rfl
theorem jFF_le (f : Nat → Int32) : ∀ (k p : Nat) (d s : Int32), jFF f k p d s ≤ p + k
  | 0, p, d, s => by simp [jFF]
  | k + 1, p, d, s => by
    by_cases h : jDue d (f p) (if d = 0 then s + 1 else s) = 5
    · rw [jFF, if_pos h]; omega
    · rw [jFF, if_neg h]
      have := jFF_le f k (p + 1) (jDue d (f p) (if d = 0 then s + 1 else s)) (if d = 0 then s + 1 else s)
      omega
theorem z_sub {a b : Nat} (h : b ≤ a) : nI a - nI b = nI (a - b) := by
  have e : a = (a - b) + b := by omega
  have h1 : nI a = nI (a - b) + nI b := by rw [nI_add]; exact congrArg nI e
  rw [h1, Int32.add_sub_cancel]
theorem z_ltM {N M : Nat} {x : Int32} (h5 : N ≤ M) (hM : M < 2147483648) (h : x < nI N) : x < nI M := by
  rw [Int32.lt_iff_toInt_lt, nI_toInt (by omega)] at h ⊢
  omega
-- the trial
def jWon (k x w : Int32) : Int32 := if x = k then w + 1 else w
def jBr (N : Nat) (kf : Nat → Int32) (ou la who : Int32) : Nat → Int32 × Int32 × Int32
  | 0 => (0, 0, -1)
  | i + 1 => if jIsIn (nI i) who && jCounts N kf (nI i) la ou then ((jBr N kf ou la who i).1 + 1, (jBr N kf ou la who i).2.1 ||| (1 <<< (nI i &&& 31)), nI i) else jBr N kf ou la who i
/-- a trial's numbers: last, believed, out, silence, ended, won by 0, by 1, breaths; how many words each spoke -/
abbrev jT : Type := Int32 × Int32 × Int32 × Int32 × Int32 × Int32 × Int32 × Int32 × (Nat → Int32)
def jQuiet (N : Nat) (sf : Nat → Int32) (pt la be ou si en w0 w1 br : Int32) (fw : Nat → Int32) : jT :=
  if pt ≤ si + 1 then (-1, -1, 0, 0, en + 1, jWon 0 (jKind N sf be) w0, jWon 1 (jKind N sf be) w1, br, fw) else (la, be, ou, si + 1, en, w0, w1, br, fw)
def jSpeak (N : Nat) (kf : Nat → Int32) (x la be : Int32) (fw : Nat → Int32) : Int32 × Int32 × (Nat → Int32) :=
  if x = la then (la, be, jPut 5 fw x (jAt 5 fw x + 1)) else (jLast N kf x, jBel N kf x la, jPut 5 fw x (jAt 5 fw x + 1))
def jBreathe (N : Nat) (kf sf : Nat → Int32) (pt who la be ou si en w0 w1 br : Int32) (fw : Nat → Int32) : jT :=
  if (jBr N kf ou la who 5).1 = 0 then jQuiet N sf pt la be ou si en w0 w1 (br + 1) fw
  else if (jBr N kf ou la who 5).1 = 1 then ((jSpeak N kf (jBr N kf ou la who 5).2.2 la be fw).1, (jSpeak N kf (jBr N kf ou la who 5).2.2 la be fw).2.1, ou, 0, en, w0, w1, br + 1, (jSpeak N kf (jBr N kf ou la who 5).2.2 la be fw).2.2)
  else (la, be, ou ||| (jBr N kf ou la who 5).2.1, 0, en, w0, w1, br + 1, fw)
def jAllows (t : Nat) (ftw fts : Nat → Int32) (x y : Int32) : Bool := decide (∀ i, i < t → ftw i = x → fts i = y)
theorem pI_0 : pI 0 = -1 := by decide
theorem pI_1 (L : Nat) : pI L + 1 = pI (L + 1) := by
  unfold pI
  rw [nI_succ, Int32.sub_add_cancel, Int32.add_sub_cancel]
theorem pI_s (L : Nat) : pI L + 1 = nI L := by
  unfold pI
  rw [Int32.sub_add_cancel]
theorem pI_up (s : Nat) : nI s = pI (s + 1) := by rw [← pI_1, pI_s]
theorem pI_7 : ∀ L : Nat, L < 8 → (5 < pI L ↔ 7 ≤ L) := by decide
theorem pI_6 : ∀ L : Nat, L < 8 → (5 ≤ pI L ↔ 6 ≤ L) := by decide
theorem pI_ne : ∀ L : Nat, L < 8 → ∀ s : Nat, s < 8 → (nI s = pI L ↔ L = s + 1) := by decide
theorem nI_mul (a b : Nat) : nI a * nI b = nI (a * b) := (Int32.ofNat_mul a b).symm
theorem wp_eq (L s : Nat) : (pI L + 1) * 5 + nI s = nI (5 * L + s) := by
  rw [pI_s]
  show nI L * nI 5 + nI s = _
  rw [nI_mul, nI_add, Nat.mul_comm]
theorem rp_eq (w L : Nat) : nI w * 7 + pI L + 1 = nI (7 * w + L) := by
  rw [Int32.add_assoc, pI_s]
  show nI w * nI 7 + nI L = _
  rw [nI_mul, nI_add, Nat.mul_comm]
theorem op_eq (L B : Nat) : (pI L + 1) * 6 + pI B + 1 = nI (6 * L + B) := by
  rw [pI_s, Int32.add_assoc, pI_s]
  show nI L * nI 6 + nI B = _
  rw [nI_mul, nI_add, Nat.mul_comm]
theorem z_fs {n k : Nat} {g h : Nat → Int32} {v : Int32} (hk : k < n) (hn : n < 2147483648) (hg : ∀ p, p < k → g p = h p) (hv : v = h k) : ∀ p, p < k + 1 → jPut n g (nI k) v p = h p := by
  intro p hp
  rw [jPut_nI hk hn]
  unfold upd
  split
  · rename_i e; rw [e]; exact hv
  · exact hg p (by omega)
-- the outlook
def jCan (N : Nat) (kf : Nat → Int32) (ou : Int32) (L s : Nat) : Bool := !decide (nI s = pI L) && jCounts N kf (nI s) (pI L) ou
def jLT (N : Nat) (kf : Nat → Int32) (ou : Int32) : Nat → Int32 := fun p => if jCan N kf ou (p / 5) (p % 5) then jLast N kf (nI (p % 5)) else -2
def jBT (N : Nat) (kf : Nat → Int32) (ou : Int32) : Nat → Int32 := fun p => if jCan N kf ou (p / 5) (p % 5) then jBel N kf (nI (p % 5)) (pI (p / 5)) else -1
theorem jLT_at {N : Nat} {kf : Nat → Int32} {ou : Int32} {L s : Nat} (hs : s < 5) : jLT N kf ou (5 * L + s) = if jCan N kf ou L s then jLast N kf (nI s) else -2 := by
  unfold jLT
  rw [show (5 * L + s) / 5 = L from by omega, show (5 * L + s) % 5 = s from by omega]
theorem jBT_at {N : Nat} {kf : Nat → Int32} {ou : Int32} {L s : Nat} (hs : s < 5) : jBT N kf ou (5 * L + s) = if jCan N kf ou L s then jBel N kf (nI s) (pI L) else -1 := by
  unfold jBT
  rw [show (5 * L + s) / 5 = L from by omega, show (5 * L + s) % 5 = s from by omega]
/-- by how few words, by a seat, from a last one -/
def jSB (lt bt st : Nat → Int32) (s L : Nat) (x : Int32) : Int32 := if lt (5 * L + s) = -2 then 1000 else if bt (5 * L + s) = x then 1 else jMin 1000 (1 + jAt 7 st (lt (5 * L + s) + 1))
def jRow (lt bt st : Nat → Int32) (L : Nat) (x : Int32) : Nat → Int32
  | 0 => 1000
  | s + 1 => jMin (jRow lt bt st L x s) (jSB lt bt st s L x)
def jAim (lt bt : Nat → Int32) (x : Int32) : Nat → Nat → Int32
  | 0 => fun _ => 1000
  | k + 1 => upd (jAim lt bt x k) (k % 7) (jRow lt bt (jAim lt bt x k) (k % 7) x 5)
def jFew (st : Nat → Int32) (la be x : Int32) : Int32 := if be = x then 0 else if jAt 7 st (la + 1) < 1000 then jAt 7 st (la + 1) else -1
def jFind (P : Nat → Bool) : Nat → Nat → Int32
  | 0, _ => -1
  | k + 1, s => if P s then nI s else jFind P k (s + 1)
def jWE (N : Nat) (sf : Nat → Int32) (x : Int32) : Int32 := if jKind N sf x = 0 then 1 else if jKind N sf x = 1 then -1 else 0
def jBetter (side x y : Int32) : Int32 := if side = 0 then jMax x y else jMin x y
def jTurn (N : Nat) (sf lt : Nat → Int32) (side : Int32) (s L : Nat) : Bool := decide (jKind N sf (nI s) = side) && !decide (lt (5 * L + s) = -2)
def jWB (lt bt w : Nat → Int32) (s L : Nat) : Int32 := jAt 42 w ((lt (5 * L + s) + 1) * 6 + bt (5 * L + s) + 1)
def jBy (N : Nat) (sf lt bt w : Nat → Int32) (side : Int32) (L : Nat) : Nat → Int32
  | 0 => if side = 0 then -1000 else 1000
  | s + 1 => if jTurn N sf lt side s L then jBetter side (jBy N sf lt bt w side L s) (jWB lt bt w s L) else jBy N sf lt bt w side L s
def jWBr (N : Nat) (sf lt bt : Nat → Int32) (side : Int32) (w : Nat → Int32) : Nat → Int32 := fun p => jBetter side (w p) (jBy N sf lt bt w side (p / 6) 5)
def jEnd (N : Nat) (sf : Nat → Int32) : Nat → Int32 := fun p => jWE N sf (pI (p % 6))
/-- the worths when the breaths b - 1, .., d stand behind -/
def jWeigh (N : Nat) (sf lt bt : Nat → Int32) : Nat → Nat → Nat → Int32
  | 0, _ => jEnd N sf
  | k + 1, d => jWBr N sf lt bt (nI (d % 2)) (jWeigh N sf lt bt k (d + 1))
def jBest (N : Nat) (sf lt bt w : Nat → Int32) (L B : Nat) : Int32 := jBetter 0 (w (6 * L + B)) (jBy N sf lt bt w 0 L 5)
def jOpen (N : Nat) (sf lt bt w : Nat → Int32) (L B : Nat) : Int32 := if w (6 * L + B) = jBest N sf lt bt w L B then -1 else jFind (fun s => jTurn N sf lt 0 s L && decide (jWB lt bt w s L = jBest N sf lt bt w L B)) 5 0
def jOk (lt bt : Nat → Int32) (t : Nat) (ftw fts : Nat → Int32) (x : Int32) (s L : Nat) : Bool := !decide (lt (5 * L + s) = -2) && jAllows t ftw fts x (bt (5 * L + s))
def jTo (w : Nat) (lt : Nat → Int32) (s L : Nat) : Int32 := nI w * 7 + lt (5 * L + s) + 1
def jWay1 (lt bt : Nat → Int32) (t : Nat) (ftw fts : Nat → Int32) (w L s : Nat) (y : Nat → Int32) : Nat → Int32 :=
  if jOk lt bt t ftw fts (nI w) s L then jPut 49 y (jTo w lt s L) (jAt 49 y (jTo w lt s L) + jAt 49 y (nI (7 * (w - 1) + L))) else y
def jWay (lt bt : Nat → Int32) (t : Nat) (ftw fts : Nat → Int32) (y0 : Nat → Int32) : Nat → Nat → Int32
  | 0 => y0
  | k + 1 => jWay1 lt bt t ftw fts (k / 35 + 1) (k / 5 % 7) (k % 5) (jWay lt bt t ftw fts y0 k)
def jWay0 (t : Nat) (ftw fts : Nat → Int32) (L B : Nat) : Nat → Int32 := upd (fun _ => 0) L (bI (jAllows t ftw fts 0 (pI B)))
def jSum (y : Nat → Int32) (w : Nat) : Nat → Int32
  | 0 => 0
  | L + 1 => jSum y w L + jAt 49 y (nI (7 * w + L))
def jBits (y : Nat → Int32) (w : Nat) : Nat → Int32
  | 0 => 0
  | L + 1 => if 0 < jAt 49 y (nI (7 * w + L)) then jBits y w L ||| (1 <<< ((if L = 0 then 6 else pI L) &&& 31)) else jBits y w L
def jE1 (lt bt : Nat → Int32) (t : Nat) (ftw fts : Nat → Int32) (w L : Nat) (y : Nat → Int32) : Nat → Int32
  | 0 => 0
  | s + 1 => if jOk lt bt t ftw fts (nI w) s L then jE1 lt bt t ftw fts w L y s + jAt 49 y (jTo w lt s L) else jE1 lt bt t ftw fts w L y s
def jEnd0 : Nat → Nat → Int32
  | 0 => fun _ => 0
  | L + 1 => jPut 49 (jEnd0 L) (nI (42 + L)) 1
/-- endings: k steps, each of a word (from 6 down) and a last one -/
def jEnds (lt bt : Nat → Int32) (t : Nat) (ftw fts : Nat → Int32) : Nat → Nat → Int32
  | 0 => jEnd0 7
  | k + 1 => jPut 49 (jEnds lt bt t ftw fts k) (nI (7 * (5 - k / 7) + k % 7)) (jE1 lt bt t ftw fts (6 - k / 7) (k % 7) (jEnds lt bt t ftw fts k) 5)
/-- what is left, and the most: k steps, each of a last one and a seat -/
def jMost (lt bt : Nat → Int32) (t : Nat) (ftw fts : Nat → Int32) (y z : Nat → Int32) (w : Nat) : Nat → (Nat → Int32) × Int32
  | 0 => (fun _ => 0, 0)
  | k + 1 =>
    if jOk lt bt t ftw fts (nI w) (k % 5) (k / 5) then
      (jPut 6 (jMost lt bt t ftw fts y z w k).1 (bt (5 * (k / 5) + k % 5) + 1) (jAt 6 (jMost lt bt t ftw fts y z w k).1 (bt (5 * (k / 5) + k % 5) + 1) + jAt 49 y (nI (7 * (w - 1) + k / 5)) * jAt 49 z (jTo w lt (k % 5) (k / 5))),
       jMax (jMost lt bt t ftw fts y z w k).2 (jAt 6 (jMost lt bt t ftw fts y z w k).1 (bt (5 * (k / 5) + k % 5) + 1) + jAt 49 y (nI (7 * (w - 1) + k / 5)) * jAt 49 z (jTo w lt (k % 5) (k / 5))))
    else jMost lt bt t ftw fts y z w k
/-- the word to look at, and how many are left there: k words looked at -/
def jLook (f : Nat → Int32) : Nat → Int32 × Int32
  | 0 => (1, f 1)
  | k + 1 => if f (k + 2) < (jLook f k).2 then (nI (k + 2), f (k + 2)) else jLook f k
theorem z_lkEnd {x : Int32} (h0 : ¬ x = 0) (h1 : ¬ x = 1) : Op.lookupswitch.offset (#[(0, 28), (1, 30)] : Array (Int × Int)).toList 32 x.toInt = 32 := by
  show Op.lookupswitch.offset [(0, 28), (1, 30)] 32 x.toInt = 32
  have a1 : ¬ (0 : Int) = x.toInt := fun h => h0 (z_toInt h.symm 0 rfl)
  have a2 : ¬ (1 : Int) = x.toInt := fun h => h1 (z_toInt h.symm 1 rfl)
  rw [Op.lookupswitch.offset_cons, if_neg a1, Op.lookupswitch.offset_cons, if_neg a2]
  rfl
theorem z_mod2 : ∀ d : Nat, d < 8 → nI d - nI d / 2 * 2 = nI (d % 2) := by decide
theorem z_dec {d : Nat} (h : 0 < d) : nI d + -1 = nI (d - 1) := by
  have e : d = (d - 1) + 1 := by omega
  rw [e, ← Int32.sub_eq_add_neg, nI_pred]
  rfl
theorem jBy_congr {N : Nat} {sf lt bt w w' : Nat → Int32} {sd : Int32} (h : ∀ p, p < 42 → w p = w' p) (L : Nat) : ∀ k, jBy N sf lt bt w sd L k = jBy N sf lt bt w' sd L k
  | 0 => rfl
  | k + 1 => by
    have e : jWB lt bt w k L = jWB lt bt w' k L := by
      unfold jWB jAt
      split
      · rename_i hq
        refine h _ ?_
        have h2 := hq.2
        rw [Int32.lt_iff_toInt_lt, nI_toInt (by decide)] at h2
        rw [← Int32.toNat_toInt]
        omega
      · rfl
    rw [jBy, jBy, jBy_congr h L k, e]
theorem jWBr_congr {N : Nat} {sf lt bt w w' : Nat → Int32} {sd : Int32} (h : ∀ p, p < 42 → w p = w' p) : ∀ p, p < 42 → jWBr N sf lt bt sd w p = jWBr N sf lt bt sd w' p := by
  intro p hp
  unfold jWBr
  rw [h p hp, jBy_congr h]
theorem rp_eq0 (L : Nat) : 0 * 7 + pI L + 1 = nI L := by
  rw [Int32.add_assoc, pI_s, show (0 : Int32) * 7 = 0 from rfl, Int32.zero_add]
theorem rp_eq1 {w : Nat} (h : 1 ≤ w) (L : Nat) : (nI w - 1) * 7 + pI L + 1 = nI (7 * (w - 1) + L) := by
  rw [show nI w - 1 = nI (w - 1) from z_sub (b := 1) h, rp_eq]
theorem pI_m1 : ∀ L : Nat, L < 8 → (pI L = -1 ↔ L = 0) := by decide
-- the face
def jLetOk (n : Nat) (c : Int32) : Bool := decide (1 ≤ c) && decide (c ≤ 126) && decide (n < 18)
def jSeats (n : Nat) : Nat := min (n / 3) 5
theorem jSeats_eq : ∀ n : Nat, n ≤ 18 → jMin (nI n / 3) 5 = nI (jSeats n) := by decide
theorem jSeats_le (n : Nat) : jSeats n ≤ 5 := by unfold jSeats; omega
theorem jSeats_3 {n i : Nat} (h : i < jSeats n) : 3 * i + 2 < n := by unfold jSeats at h; omega
theorem nI_3 (i : Nat) : 3 * nI i = nI (3 * i) := nI_mul 3 i
theorem nI_31 (i : Nat) : 3 * nI i + 1 = nI (3 * i + 1) := by rw [nI_3, nI_1]
def jSitK (n : Nat) (f kf : Nat → Int32) : Nat → Int32 := fun j => if j < jSeats n then jKindOf (f (3 * j)) else kf j
def jSitS (n : Nat) (f sf : Nat → Int32) : Nat → Int32 := fun j => if j < jSeats n then f (3 * j + 1) - 48 else sf j
theorem z_ite_step {g K kf : Nat → Int32} {i n : Nat} (h : ∀ j, j < n → g j = if j < i then K j else kf j) : ∀ j, j < n → upd g i (K i) j = if j < i + 1 then K j else kf j := by
  intro j hj
  unfold upd
  by_cases e : j = i
  · subst e; rw [if_pos rfl, if_pos (by omega)]
  · rw [if_neg e, h j hj]
    by_cases q : j < i
    · rw [if_pos q, if_pos (by omega)]
    · rw [if_neg q, if_neg (by omega)]
theorem jWhole_ge {n : Nat} {f : Nat → Int32} (h : jWhole n f = true) : 2 ≤ n := by
  unfold jWhole at h
  simp only [Bool.and_eq_true, decide_eq_true_eq] at h
  exact h.1.1
def jSeat (N : Nat) (kf sf : Nat → Int32) (ou la be : Int32) (fw : Nat → Int32) (x wh : Int32) : Int32 :=
  if jHas N x then (if wh = 0 then jKind N kf x else if wh = 1 then jKind N sf x else if wh = 2 then bI (jIsIn x ou) else if wh = 3 then bI (jCounts N kf x la ou) else if wh = 4 then jAt 5 fw x else if wh = 5 then jFew (jAim (jLT N kf ou) (jBT N kf ou) x 49) la be x else -102) else -101
def jAs (N : Nat) (kf : Nat → Int32) (x k : Int32) : Int32 := if jHas N x then (if k < 0 ∨ 5 ≤ k then -102 else if jIsOf N kf x k then x else -1) else -101
def jGet (N : Nat) (kf : Nat → Int32) (ou : Int32) (L : Nat) (be x wh : Int32) : Int32 :=
  if jHas N x then (if wh = 0 then jFew (jAim (jLT N kf ou) (jBT N kf ou) x 49) (pI L) be x else if wh = 1 then jFind (fun s => decide (jSB (jLT N kf ou) (jBT N kf ou) (jAim (jLT N kf ou) (jBT N kf ou) x 49) s L x = jFew (jAim (jLT N kf ou) (jBT N kf ou) x 49) (pI L) be x)) 5 0 else -102) else -101
def jPlay (N : Nat) (kf sf : Nat → Int32) (ou : Int32) (L B : Nat) (b wh : Int32) : Int32 :=
  if b < 1 ∨ 6 < b ∨ (¬ wh = 0 ∧ ¬ wh = 1) then -102 else if ¬ 0 < N then -103
  else if wh = 0 then jBest N sf (jLT N kf ou) (jBT N kf ou) (jWeigh N sf (jLT N kf ou) (jBT N kf ou) (b.toNatClampNeg - 1) 1) L B + 1
  else jOpen N sf (jLT N kf ou) (jBT N kf ou) (jWeigh N sf (jLT N kf ou) (jBT N kf ou) (b.toNatClampNeg - 1) 1) L B
def jHearOk (N t : Nat) (x y : Int32) : Bool := decide (0 ≤ x) && decide (x ≤ 8) && (decide (y = -1) || jHas N y) && decide (t < 8)
def jHearNo (N : Nat) (x y : Int32) : Int32 := if x < 0 ∨ 8 < x then -102 else if ¬ y = -1 ∧ jHas N y = false then -101 else -104
def jRows (N : Nat) (kf : Nat → Int32) (ou : Int32) (L B t : Nat) (ftw fts : Nat → Int32) (b wh : Int32) : Int32 :=
  if b < 0 ∨ 6 < b ∨ (¬ wh = 0 ∧ ¬ wh = 1) then -102 else if ¬ 0 < N then -103
  else if wh = 0 then jSum (jWay (jLT N kf ou) (jBT N kf ou) t ftw fts (jWay0 t ftw fts L B) (35 * b.toNatClampNeg)) b.toNatClampNeg 7
  else jBits (jWay (jLT N kf ou) (jBT N kf ou) t ftw fts (jWay0 t ftw fts L B) (35 * b.toNatClampNeg)) b.toNatClampNeg 7
def jWhen (N : Nat) (kf : Nat → Int32) (ou : Int32) (L B t : Nat) (ftw fts : Nat → Int32) : Int32 :=
  if ¬ 0 < N then -103
  else if jSum (jWay (jLT N kf ou) (jBT N kf ou) t ftw fts (jWay0 t ftw fts L B) 210) 6 7 = 0 then -1
  else (jLook (fun w => (jMost (jLT N kf ou) (jBT N kf ou) t ftw fts (jWay (jLT N kf ou) (jBT N kf ou) t ftw fts (jWay0 t ftw fts L B) 210) (jEnds (jLT N kf ou) (jBT N kf ou) t ftw fts 35) w 35).2) 5).1
theorem z_rng {lo hi : Nat} {b : Int32} (hlo : lo < 2147483648) (hhi : hi < 2147483648) (h1 : nI lo ≤ b) (h2 : b ≤ nI hi) : ∃ k : Nat, lo ≤ k ∧ k ≤ hi ∧ b = nI k := by
  rw [Int32.le_iff_toInt_le, nI_toInt (by omega)] at h1 h2
  refine ⟨b.toInt.toNat, by omega, by omega, ?_⟩
  refine Int32.toInt_inj.mp ?_
  rw [nI_toInt (by omega)]
  omega
theorem z_rng1 {b : Int32} (h1 : 1 ≤ b) (h2 : b ≤ 6) : ∃ k : Nat, 1 ≤ k ∧ k ≤ 6 ∧ b = nI k := z_rng (lo := 1) (hi := 6) (by decide) (by decide) h1 h2
theorem z_rng0 {b : Int32} (h1 : 0 ≤ b) (h2 : b ≤ 6) : ∃ k : Nat, 0 ≤ k ∧ k ≤ 6 ∧ b = nI k := z_rng (lo := 0) (hi := 6) (by decide) (by decide) h1 h2
theorem z_rng60 {b : Int32} (h1 : 1 ≤ b) (h2 : b ≤ 60) : ∃ k : Nat, 1 ≤ k ∧ k ≤ 60 ∧ b = nI k := z_rng (lo := 1) (hi := 60) (by decide) (by decide) h1 h2
