def jCount (N n : Nat) (pt la be si en w0 w1 br td cr wh : Int32) : Int32 :=
  if wh = 0 then nI N else if wh = 1 then pt else if wh = 2 then la else if wh = 3 then be else if wh = 4 then si else if wh = 5 then en else if wh = 6 then w0 else if wh = 7 then w1 else if wh = 8 then br else if wh = 9 then td else if wh = 10 then nI n else if wh = 11 then cr else -102
def jDraw (d : Int64) : Nat → Int64 × Int32
  | 0 => (d, 0)
  | s + 1 => (jNext (jDraw d s).1, if lg_cmp (jNext (jDraw d s).1 / 65536 - jNext (jDraw d s).1 / 65536 / 3 * 3) 0 = 0 then (jDraw d s).2 ||| (1 <<< (nI s &&& 31)) else (jDraw d s).2)
def jBreatheT (N : Nat) (kf sf : Nat → Int32) (pt who : Int32) (g : jT) : jT := jBreathe N kf sf pt who g.1 g.2.1 g.2.2.1 g.2.2.2.1 g.2.2.2.2.1 g.2.2.2.2.2.1 g.2.2.2.2.2.2.1 g.2.2.2.2.2.2.2.1 g.2.2.2.2.2.2.2.2
def jRun (N : Nat) (kf sf : Nat → Int32) (pt : Int32) (d0 : Int64) (g0 : jT) : Nat → Int64 × jT
  | 0 => (d0, g0)
  | k + 1 => ((jDraw (jRun N kf sf pt d0 g0 k).1 N).1, jBreatheT N kf sf pt (jDraw (jRun N kf sf pt d0 g0 k).1 N).2 (jRun N kf sf pt d0 g0 k).2)
def jSess (N : Nat) (kf sf : Nat → Int32) (pt : Int32) (g : jT) (b sd wh : Int32) : Int32 :=
  if b < 1 ∨ 60 < b ∨ sd < 0 ∨ wh < 0 ∨ 3 ≤ wh then -102 else if ¬ 0 < N then -103
  else if wh = 0 then (jRun N kf sf pt (Int32.toInt64 sd) g b.toNatClampNeg).2.2.2.2.2.1 - g.2.2.2.2.1
  else if wh = 1 then (jRun N kf sf pt (Int32.toInt64 sd) g b.toNatClampNeg).2.2.2.2.2.2.1 - g.2.2.2.2.2.1
  else Int64.toInt32 (jRun N kf sf pt (Int32.toInt64 sd) g b.toNatClampNeg).1
theorem z_lkSess {x : Int32} (h0 : ¬ x = 0) (h1 : ¬ x = 1) : Op.lookupswitch.offset (#[(0, 28), (1, 44)] : Array (Int × Int)).toList 60 x.toInt = 60 := by
  show Op.lookupswitch.offset [(0, 28), (1, 44)] 60 x.toInt = 60
  have a1 : ¬ (0 : Int) = x.toInt := fun h => h0 (z_toInt h.symm 0 rfl)
  have a2 : ¬ (1 : Int) = x.toInt := fun h => h1 (z_toInt h.symm 1 rfl)
  rw [Op.lookupswitch.offset_cons, if_neg a1, Op.lookupswitch.offset_cons, if_neg a2]
  rfl
def jSay (h : Int64) (r : Int32) : Int64 := 31 * h + Int32.toInt64 r
def jSays (F : Nat → Int32) : Nat → Int64 → Int64
  | 0, h => h
  | k + 1, h => jSay (jSays F k h) (F k)
def jDS (G : Nat → Nat → Int32) (E : Nat → Int32) : Nat → Int64 → Int64
  | 0, h => h
  | s + 1, h => jSay (jSays (G s) 6 (jDS G E s h)) (E s)
def jTwo (P Q : Nat → Int32) : Nat → Int64 → Int64
  | 0, h => h
  | k + 1, h => jSay (jSay (jTwo P Q k h) (P k)) (Q k)
def jDigest (N n : Nat) (G : Nat → Nat → Int32) (E : Nat → Int32) (P Q R S : Nat → Int32) (wn : Int32) (F C : Nat → Int32) : Int64 :=
  jSays C 12 (jSays F n (if 0 < N then jSay (jTwo R S 5 (jTwo P Q 4 (jDS G E N 907))) wn else jDS G E N 907))
