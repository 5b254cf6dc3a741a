/-! in how many ways: the reference's table -/
theorem z_ifc {α : Sort _} {p q : Prop} [Decidable p] [Decidable q] {a b : α} (h : p ↔ q) : (if p then a else b) = (if q then a else b) := by
  by_cases c : q
  · rw [if_pos c, if_pos (h.mpr c)]
  · rw [if_neg c, if_neg (fun z => c (h.mp z))]
theorem nI_0lt {a : Nat} (h : a < 2147483648) : ((0 : Int32) < nI a) ↔ 0 < a := by
  rw [Int32.lt_iff_toInt_lt, nI_toInt h]
  show (0 : Int) < _ ↔ _
  omega
def yP (r : Nat → Int32) (N : Nat) (ou : Int32) (he : Nat → Int32) (t k0 a0 n k s k' : Nat) : Nat := zS (fun k => zS (fun s => if mOk r N ou he t n k s = true ∧ mBeh r N s k = k' then hc r N ou he t k0 a0 n k else 0) N) k + zS (fun s => if mOk r N ou he t n k s = true ∧ mBeh r N s k = k' then hc r N ou he t k0 a0 n k else 0) s
def yM (r : Nat → Int32) (N : Nat) (ou : Int32) (he : Nat → Int32) (t k0 a0 n k s p : Nat) : Nat := if p / 64 ≤ n then hc r N ou he t k0 a0 (p / 64) (p % 64) else if p / 64 = n + 1 then yP r N ou he t k0 a0 n k s (p % 64) else 0
theorem yM_1 {r : Nat → Int32} {N : Nat} {ou : Int32} {he : Nat → Int32} {t k0 a0 n k : Nat} {y : Nat → Int32} (h5 : N ≤ 5) (hk0 : k0 < 64) (ha : a0 ≤ 1) (hn : n < 6) (hk : k < 64) (hy : ∀ p, p < 448 → y p = nI (yM r N ou he t k0 a0 n k 0 p)) :
    ∀ s, s ≤ N → ∀ p, p < 448 → mY1 r N ou he t n k y s p = nI (yM r N ou he t k0 a0 n k s p)
  | 0, _ => hy
  | s + 1, hs => by
    have ih := yM_1 h5 hk0 ha hn hk hy s (by omega)
    intro p hp
    have hb := hc_le (r := r) (ou := ou) (he := he) (t := t) h5 hk0 ha (show n ≤ 6 by omega) hk
    have hkk : mY1 r N ou he t n k y s (64 * n + k) = nI (hc r N ou he t k0 a0 n k) := by
      rw [ih _ (by omega)]
      unfold yM
      rw [if_pos (by omega), show (64 * n + k) / 64 = n from by omega, show (64 * n + k) % 64 = k from by omega]
    have same : ∀ q, q < 64 → (mOk r N ou he t n k s = true → mBeh r N s k = q → hc r N ou he t k0 a0 n k = 0) → yP r N ou he t k0 a0 n k (s + 1) q = yP r N ou he t k0 a0 n k s q := fun q _ hq => by
      unfold yP
      rw [zS.eq_2 _ s]
      by_cases c : mOk r N ou he t n k s = true ∧ mBeh r N s k = q
      · rw [if_pos c, hq c.1 c.2]; omega
      · rw [if_neg c]; omega
    have same' : (∀ q, q < 64 → (mOk r N ou he t n k s = true → mBeh r N s k = q → hc r N ou he t k0 a0 n k = 0)) → yM r N ou he t k0 a0 n k (s + 1) p = yM r N ou he t k0 a0 n k s p := fun hq => by
      unfold yM
      by_cases a : p / 64 ≤ n
      · rw [if_pos a, if_pos a]
      · rw [if_neg a, if_neg a, same _ (by omega) (hq _ (by omega))]
    rw [mY1]
    rw [hkk, z_ifc (nI_0lt (show hc r N ou he t k0 a0 n k < 2147483648 by omega))]
    by_cases z : 0 < hc r N ou he t k0 a0 n k
    · rw [if_pos z]
      by_cases c : mOk r N ou he t n k s = true
      · have hx := mBeh_64 (r := r) hk (show s < N by omega) h5
        rw [if_pos c, ih (64 * n + 64 + mBeh r N s k) (by omega), nI_add]
        unfold upd
        by_cases e : p = 64 * n + 64 + mBeh r N s k
        · rw [if_pos e]
          refine congrArg nI ?_
          unfold yM
          rw [if_neg (by omega), if_pos (by omega), if_neg (by omega), if_pos (by omega)]
          rw [show p % 64 = mBeh r N s k from by omega, show (64 * n + 64 + mBeh r N s k) % 64 = mBeh r N s k from by omega]
          unfold yP
          rw [zS.eq_2 _ s, if_pos ⟨c, rfl⟩]
          omega
        · rw [if_neg e, ih p hp]
          refine congrArg nI ?_
          unfold yM
          by_cases a : p / 64 ≤ n
          · rw [if_pos a, if_pos a]
          · rw [if_neg a, if_neg a]
            by_cases b : p / 64 = n + 1
            · rw [if_pos b, if_pos b, same _ (by omega) (fun _ q => by omega)]
            · rw [if_neg b, if_neg b]
      · rw [if_neg c, ih p hp, same' (fun q _ h => absurd h c)]
    · rw [if_neg z, ih p hp, same' (fun q _ _ _ => by omega)]
theorem yM_2 {r : Nat → Int32} {N : Nat} {ou : Int32} {he : Nat → Int32} {t k0 a0 n : Nat} {y : Nat → Int32} (h5 : N ≤ 5) (hk0 : k0 < 64) (ha : a0 ≤ 1) (hn : n < 6) (hy : ∀ p, p < 448 → y p = nI (yM r N ou he t k0 a0 n 0 0 p)) :
    ∀ k, k ≤ 64 → ∀ p, p < 448 → mY2 r N ou he t n y k p = nI (yM r N ou he t k0 a0 n k 0 p)
  | 0, _ => hy
  | k + 1, hk => by
    intro p hp
    rw [mY2, yM_1 h5 hk0 ha hn (by omega) (yM_2 h5 hk0 ha hn hy k (by omega)) N (Nat.le_refl _) p hp]
    rfl
theorem yM_3 {r : Nat → Int32} {N : Nat} {ou : Int32} {he : Nat → Int32} {t k0 : Nat} (h5 : N ≤ 5) (hk0 : k0 < 64) :
    ∀ n, n ≤ 6 → ∀ p, p < 448 → mY3 r N ou he t k0 n p = nI (yM r N ou he t k0 (if mHeard he 0 k0 t then 1 else 0) n 0 0 p)
  | 0, _ => by
    intro p hp
    rw [mY3]
    unfold yM upd
    by_cases a : p / 64 ≤ 0
    · rw [if_pos a, show p / 64 = 0 from by omega, hc]
      dsimp only
      by_cases e : p = k0
      · rw [if_pos e, if_pos (by omega), bI_nat]
      · rw [if_neg e, if_neg (by omega)]; rfl
    · rw [if_neg a, if_neg (by omega)]
      by_cases b : p / 64 = 0 + 1
      · rw [if_pos b]; rfl
      · rw [if_neg b]; rfl
  | n + 1, hn => by
    intro p hp
    have ha : (if mHeard he 0 k0 t then 1 else 0) ≤ 1 := by split <;> omega
    rw [mY3, yM_2 h5 hk0 ha (by omega) (yM_3 h5 hk0 n (by omega)) 64 (Nat.le_refl _) p hp]
    refine congrArg nI ?_
    generalize (if mHeard he 0 k0 t = true then 1 else 0) = a0
    unfold yM
    by_cases a : p / 64 ≤ n
    · rw [if_pos a, if_pos (by omega)]
    · rw [if_neg a]
      by_cases b : p / 64 = n + 1
      · rw [if_pos b, if_pos (by omega), b]; rfl
      · rw [if_neg b, if_neg (by omega)]
        split <;> rfl
theorem eWayM {r : Nat → Int32} {N : Nat} {ou : Int32} {he : Nat → Int32} {t k0 w n k : Nat} (h5 : N ≤ 5) (hk0 : k0 < 64) (hw : w ≤ 6) (hn : n ≤ w) (hk : k < 64) : mY3 r N ou he t k0 w (64 * n + k) = nI (hc r N ou he t k0 (if mHeard he 0 k0 t then 1 else 0) n k) := by
  rw [yM_3 h5 hk0 w hw _ (by omega)]
  unfold yM
  rw [if_pos (by omega), show (64 * n + k) / 64 = n from by omega, show (64 * n + k) % 64 = k from by omega]
theorem eMsum {y : Nat → Int32} {nb : Nat} {f : Nat → Nat} (h : ∀ k, k < 64 → y (64 * nb + k) = nI (f k)) : ∀ m, m ≤ 64 → mSum y nb m = nI (zS f m)
  | 0, _ => rfl
  | m + 1, hm => by rw [mSum, eMsum h m (by omega), h m (by omega), nI_add]; rfl
-- the bits
def wAny (f : Nat → Nat) (q : Nat) : Nat → Bool
  | 0 => false
  | j + 1 => wAny f q j || decide (0 < f (8 * q + j))
def wBit (q : Nat) : Int32 := 1 <<< ((if q = 7 then 6 else nI q) &&& 31)
theorem wWho {y : Nat → Int32} {nb q : Nat} {f : Nat → Nat} (hq : q < 8) (h : ∀ k, k < 64 → y (64 * nb + k) = nI (f k)) (hf : ∀ k, k < 64 → f k < 2147483648) : ∀ j, j ≤ 8 → mWho y nb (8 * q + j) = mWho y nb (8 * q) ||| (if wAny f q j then wBit q else 0)
  | 0, _ => by
    show mWho y nb (8 * q) = mWho y nb (8 * q) ||| (if false = true then wBit q else 0)
    rw [if_neg (by decide), Int32.or_zero]
  | j + 1, hj => by
    rw [← Nat.add_assoc, mWho, wWho hq h hf j (by omega), h _ (by omega), z_ifc (nI_0lt (hf _ (by omega))), show (8 * q + j) / 8 = q from by omega, wAny]
    show _ ||| _ ||| (if 0 < f (8 * q + j) then wBit q else 0) = _
    by_cases a : wAny f q j = true
    · rw [if_pos a, a, Bool.true_or, if_pos rfl]
      by_cases b : 0 < f (8 * q + j)
      · rw [if_pos b, Int32.or_assoc, Int32.or_self]
      · rw [if_neg b, Int32.or_zero]
    · rw [if_neg a, Int32.or_zero]
      have a' : wAny f q j = false := by simpa using a
      rw [a', Bool.false_or]
      simp only [decide_eq_true_eq]
theorem wWho8 {y : Nat → Int32} {nb : Nat} {f : Nat → Nat} (h : ∀ k, k < 64 → y (64 * nb + k) = nI (f k)) (hf : ∀ k, k < 64 → f k < 2147483648) : mWho y nb 64 = (((((((((0 : Int32) ||| (if wAny f 0 8 then wBit 0 else 0)) ||| (if wAny f 1 8 then wBit 1 else 0)) ||| (if wAny f 2 8 then wBit 2 else 0)) ||| (if wAny f 3 8 then wBit 3 else 0)) ||| (if wAny f 4 8 then wBit 4 else 0)) ||| (if wAny f 5 8 then wBit 5 else 0)) ||| (if wAny f 6 8 then wBit 6 else 0)) ||| (if wAny f 7 8 then wBit 7 else 0)) := by
  have e := fun q (hq : q < 8) => wWho (y := y) (nb := nb) hq h hf 8 (Nat.le_refl _)
  have e7 := e 7 (by omega)
  have e6 := e 6 (by omega)
  have e5 := e 5 (by omega)
  have e4 := e 4 (by omega)
  have e3 := e 3 (by omega)
  have e2 := e 2 (by omega)
  have e1 := e 1 (by omega)
  have e0 := e 0 (by omega)
  simp only [Nat.reduceMul, Nat.reduceAdd] at e0 e1 e2 e3 e4 e5 e6 e7
  rw [e7, e6, e5, e4, e3, e2, e1, e0]
  rfl
theorem wBits {y : Nat → Int32} {w : Nat} {f : Nat → Nat} (hw : w ≤ 6) (h : ∀ L, L < 7 → y (7 * w + L) = nI (f L)) (hf : ∀ L, L < 7 → f L < 2147483648) : jBits y w 7 = (((((((0 ||| (if 0 < f 0 then wBit 7 else 0)) ||| (if 0 < f 1 then wBit 0 else 0)) ||| (if 0 < f 2 then wBit 1 else 0)) ||| (if 0 < f 3 then wBit 2 else 0)) ||| (if 0 < f 4 then wBit 3 else 0)) ||| (if 0 < f 5 then wBit 4 else 0)) ||| (if 0 < f 6 then wBit 5 else 0)) := by
  have st : ∀ L, L < 7 → jBits y w (L + 1) = jBits y w L ||| (if 0 < f L then 1 <<< ((if L = 0 then 6 else pI L) &&& 31) else 0) := fun L hL => by
    rw [jBits, jAt_nI (by omega) (by omega), h L hL, z_ifc (nI_0lt (hf L hL))]
    by_cases c : 0 < f L
    · rw [if_pos c, if_pos c]
    · rw [if_neg c, if_neg c, Int32.or_zero]
  rw [st 6 (by omega), st 5 (by omega), st 4 (by omega), st 3 (by omega), st 2 (by omega), st 1 (by omega), st 0 (by omega)]
  rfl
theorem wSeven : ∀ b0 b1 b2 b3 b4 b5 b6 : Bool, (((((((0 ||| (if b0 then wBit 7 else 0)) ||| (if b1 then wBit 0 else 0)) ||| (if b2 then wBit 1 else 0)) ||| (if b3 then wBit 2 else 0)) ||| (if b4 then wBit 3 else 0)) ||| (if b5 then wBit 4 else 0)) ||| (if b6 then wBit 5 else 0)) = (((((((((0 : Int32) ||| (if b1 then wBit 0 else 0)) ||| (if b2 then wBit 1 else 0)) ||| (if b3 then wBit 2 else 0)) ||| (if b4 then wBit 3 else 0)) ||| (if b5 then wBit 4 else 0)) ||| (if b6 then wBit 5 else 0)) ||| (if false then wBit 6 else 0)) ||| (if b0 then wBit 7 else 0)) := by decide
theorem wAny_sum {f : Nat → Nat} {q : Nat} (hq : q < 8) : (wAny f q 8 = true ↔ 0 < zS (fun k => f k * (if k / 8 = q then 1 else 0)) 64) := by
  have h1 : ∀ j, j ≤ 8 → (wAny f q j = true ↔ 0 < zS (fun i => f (8 * q + i)) j) := fun j => by
    induction j with
    | zero => intro _; simp [wAny, zS]
    | succ j ih =>
      intro hj
      rw [wAny, zS, Bool.or_eq_true, decide_eq_true_eq, ih (by omega)]
      omega
  rw [h1 8 (Nat.le_refl _), show (64 : Nat) = 8 * 8 from rfl, zS_flat 8]
  have e : zS (fun i => zS (fun j => f (8 * i + j) * (if (8 * i + j) / 8 = q then 1 else 0)) 8) 8 = zS (fun i => if q = i then zS (fun j => f (8 * i + j)) 8 else 0) 8 := zS_congr 8 (fun i hi => by
    by_cases c : q = i
    · rw [if_pos c]
      exact zS_congr 8 (fun j hj => by rw [if_pos (by omega), Nat.mul_one])
    · rw [if_neg c]
      exact zS_zero 8 (fun j hj => by rw [if_neg (by omega), Nat.mul_zero]))
  rw [e, zS_delta 8, if_pos hq]
