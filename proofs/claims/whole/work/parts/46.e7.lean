/-! in how many ways: the class's table -/
theorem jOk_eq {N : Nat} {kf : Nat → Int32} {ou : Int32} {t : Nat} {ftw fts : Nat → Int32} {n s L : Nat} (h5 : N ≤ 5) (hL : L < 7) (hs : s < 5) : jOk (jLT N kf ou) (jBT N kf ou) t ftw fts (nI (n + 1)) s L = hOk N kf ou (eAl t ftw fts) n L s := by
  unfold jOk hOk
  by_cases c : eCn N kf ou L s = true
  · have e : ¬ jLT N kf ou (5 * L + s) = -2 := fun q => by
      rw [(eLT_no h5 hL hs).mp q] at c
      cases c
    rw [decide_eq_false e, eBT h5 hL hs, if_pos c, c]
    rfl
  · have c' : eCn N kf ou L s = false := by simpa using c
    rw [decide_eq_true ((eLT_no h5 hL hs).mpr c'), c']
    rfl
theorem jTo_eq {N : Nat} {kf : Nat → Int32} {ou : Int32} {al : Nat → Nat → Bool} {w n s L : Nat} (h5 : N ≤ 5) (hL : L < 7) (hs : s < 5) (h : hOk N kf ou al n L s = true) : jTo w (jLT N kf ou) s L = nI (7 * w + eNx kf s) := by
  unfold jTo
  unfold hOk at h
  simp only [Bool.and_eq_true] at h
  rw [eLT h5 hL hs, if_pos h.1, rp_eq]
/-- partial sums of the step -/
def hCj (N : Nat) (kf : Nat → Int32) (ou : Int32) (al : Nat → Nat → Bool) (L0 a0 n j L' : Nat) : Nat := zS (fun j => if hOk N kf ou al n (j / 5) (j % 5) = true ∧ eNx kf (j % 5) = L' then hC N kf ou al L0 a0 n (j / 5) else 0) j
def yA (N : Nat) (kf : Nat → Int32) (ou : Int32) (al : Nat → Nat → Bool) (L0 a0 w j p : Nat) : Nat := if p / 7 ≤ w then hC N kf ou al L0 a0 (p / 7) (p % 7) else if p / 7 = w + 1 then hCj N kf ou al L0 a0 w j (p % 7) else 0
theorem yA_next {N : Nat} {kf : Nat → Int32} {ou : Int32} {al : Nat → Nat → Bool} {L0 a0 w p : Nat} : yA N kf ou al L0 a0 w 35 p = yA N kf ou al L0 a0 (w + 1) 0 p := by
  unfold yA
  by_cases a : p / 7 ≤ w
  · rw [if_pos a, if_pos (by omega)]
  · rw [if_neg a]
    by_cases b : p / 7 = w + 1
    · rw [if_pos b, if_pos (by omega), b]; rfl
    · rw [if_neg b, if_neg (by omega)]
      split <;> rfl
theorem bI_nat (b : Bool) : bI b = nI (if b then 1 else 0) := by cases b <;> rfl
theorem yA_step {N : Nat} {kf : Nat → Int32} {ou : Int32} {t : Nat} {ftw fts : Nat → Int32} {L0 a0 w j : Nat} {y : Nat → Int32} (h5 : N ≤ 5) (hw : w < 6) (hj : j < 35) (hy : ∀ p, p < 49 → y p = nI (yA N kf ou (eAl t ftw fts) L0 a0 w j p)) :
    ∀ p, p < 49 → jWay1 (jLT N kf ou) (jBT N kf ou) t ftw fts (w + 1) (j / 5) (j % 5) y p = nI (yA N kf ou (eAl t ftw fts) L0 a0 w (j + 1) p) := by
  intro p hp
  have hL : j / 5 < 7 := by omega
  have hs : j % 5 < 5 := by omega
  unfold jWay1
  rw [jOk_eq h5 hL hs]
  by_cases c : hOk N kf ou (eAl t ftw fts) w (j / 5) (j % 5) = true
  · have hx := (eNx_7 (kf := kf) h5 (hOk_N c)).1
    rw [if_pos c, jTo_eq h5 hL hs c, jPut_nI (by omega) (by omega), jAt_nI (by omega) (by omega), jAt_nI (by omega) (by omega)]
    rw [hy _ (show 7 * (w + 1) + eNx kf (j % 5) < 49 by omega), hy _ (show 7 * (w + 1 - 1) + j / 5 < 49 by omega), nI_add]
    unfold upd
    by_cases e : p = 7 * (w + 1) + eNx kf (j % 5)
    · rw [if_pos e]
      refine congrArg nI ?_
      unfold yA
      rw [if_neg (by omega), if_pos (by omega), if_pos (by omega), if_neg (by omega), if_pos (by omega)]
      rw [show p % 7 = eNx kf (j % 5) from by omega, show (7 * (w + 1) + eNx kf (j % 5)) % 7 = eNx kf (j % 5) from by omega, show (7 * (w + 1 - 1) + j / 5) / 7 = w from by omega, show (7 * (w + 1 - 1) + j / 5) % 7 = j / 5 from by omega]
      unfold hCj
      rw [zS, if_pos ⟨c, rfl⟩]
    · rw [if_neg e, hy p hp]
      refine congrArg nI ?_
      unfold yA
      by_cases a : p / 7 ≤ w
      · rw [if_pos a, if_pos a]
      · rw [if_neg a, if_neg a]
        by_cases b : p / 7 = w + 1
        · rw [if_pos b, if_pos b]
          unfold hCj
          rw [zS, if_neg (fun q => by have := q.2; omega)]
          rfl
        · rw [if_neg b, if_neg b]
  · rw [if_neg c, hy p hp]
    refine congrArg nI ?_
    have e : hCj N kf ou (eAl t ftw fts) L0 a0 w (j + 1) (p % 7) = hCj N kf ou (eAl t ftw fts) L0 a0 w j (p % 7) := by
      unfold hCj
      rw [zS, if_neg (fun q => c q.1), Nat.add_zero]
    unfold yA
    rw [e]
theorem yA_w {N : Nat} {kf : Nat → Int32} {ou : Int32} {t : Nat} {ftw fts : Nat → Int32} {L0 a0 w : Nat} {y0 : Nat → Int32} (h5 : N ≤ 5) (hw : w < 6) (hy : ∀ p, p < 49 → jWay (jLT N kf ou) (jBT N kf ou) t ftw fts y0 (35 * w) p = nI (yA N kf ou (eAl t ftw fts) L0 a0 w 0 p)) :
    ∀ j, j ≤ 35 → ∀ p, p < 49 → jWay (jLT N kf ou) (jBT N kf ou) t ftw fts y0 (35 * w + j) p = nI (yA N kf ou (eAl t ftw fts) L0 a0 w j p)
  | 0, _ => hy
  | j + 1, hj => by
    have ih := yA_w h5 hw hy j (by omega)
    rw [← Nat.add_assoc, jWay]
    rw [show (35 * w + j) / 35 = w from by omega, show (35 * w + j) / 5 % 7 = j / 5 from by omega, show (35 * w + j) % 5 = j % 5 from by omega]
    exact yA_step h5 hw (by omega) ih
theorem yA_all {N : Nat} {kf : Nat → Int32} {ou : Int32} {t : Nat} {ftw fts : Nat → Int32} {L0 a0 : Nat} {y0 : Nat → Int32} (h5 : N ≤ 5) (hy : ∀ p, p < 49 → y0 p = nI (yA N kf ou (eAl t ftw fts) L0 a0 0 0 p)) :
    ∀ w, w ≤ 6 → ∀ p, p < 49 → jWay (jLT N kf ou) (jBT N kf ou) t ftw fts y0 (35 * w) p = nI (yA N kf ou (eAl t ftw fts) L0 a0 w 0 p)
  | 0, _ => hy
  | w + 1, hw => by
    intro p hp
    have := yA_w h5 (by omega) (yA_all h5 hy w (by omega)) 35 (Nat.le_refl _) p hp
    rw [yA_next] at this
    rw [Nat.mul_succ]
    exact this
def eA0 (t : Nat) (ftw fts : Nat → Int32) (B : Nat) : Nat := if jAllows t ftw fts 0 (pI B) then 1 else 0
theorem yA_0 {N : Nat} {kf : Nat → Int32} {ou : Int32} {t : Nat} {ftw fts : Nat → Int32} {L B : Nat} (hL : L < 7) : ∀ p, p < 49 → jWay0 t ftw fts L B p = nI (yA N kf ou (eAl t ftw fts) L (eA0 t ftw fts B) 0 0 p) := by
  intro p hp
  unfold jWay0 yA upd
  by_cases a : p / 7 ≤ 0
  · rw [if_pos a, show p / 7 = 0 from by omega]
    by_cases e : p = L
    · rw [if_pos e, hC]
      dsimp only
      rw [if_pos (by omega), bI_nat]; rfl
    · rw [if_neg e, hC]
      dsimp only
      rw [if_neg (by omega)]; rfl
  · rw [if_neg a, if_neg (by omega)]
    by_cases b : p / 7 = 0 + 1
    · rw [if_pos b]; rfl
    · rw [if_neg b]; rfl
theorem eWay {N : Nat} {kf : Nat → Int32} {ou : Int32} {t : Nat} {ftw fts : Nat → Int32} {L B w n L' : Nat} (h5 : N ≤ 5) (hL : L < 7) (hw : w ≤ 6) (hn : n ≤ w) (hL' : L' < 7) :
    jWay (jLT N kf ou) (jBT N kf ou) t ftw fts (jWay0 t ftw fts L B) (35 * w) (7 * n + L') = nI (hC N kf ou (eAl t ftw fts) L (eA0 t ftw fts B) n L') := by
  rw [yA_all h5 (yA_0 hL) w hw _ (by omega)]
  unfold yA
  rw [if_pos (by omega), show (7 * n + L') / 7 = n from by omega, show (7 * n + L') % 7 = L' from by omega]
theorem eJsum {y : Nat → Int32} {w : Nat} {f : Nat → Nat} (hw : w ≤ 6) (h : ∀ L, L < 7 → y (7 * w + L) = nI (f L)) : ∀ m, m ≤ 7 → jSum y w m = nI (zS f m)
  | 0, _ => rfl
  | m + 1, hm => by rw [jSum, eJsum hw h m (by omega), jAt_nI (by omega) (by omega), h m (by omega), nI_add]; rfl
-- how many at most
theorem hT_le {N : Nat} {kf : Nat → Int32} {ou : Int32} {al : Nat → Nat → Bool} {n b L : Nat} {X : Nat → Nat} (h5 : N ≤ 5) (hX : ∀ L, L < 7 → X L ≤ b) : hT N kf ou al n X L ≤ 5 * b := by
  unfold hT
  have h : ∀ s, s < 5 → (if hOk N kf ou al n L s = true then X (eNx kf s) else 0) ≤ b := fun s _ => by
    by_cases c : hOk N kf ou al n L s = true
    · rw [if_pos c]; exact hX _ (eNx_7 (kf := kf) h5 (hOk_N c)).1
    · rw [if_neg c]; exact Nat.zero_le _
  have := zS_le (g := fun _ => b) 5 h
  have e : zS (fun _ => b) 5 = 5 * b := by simp only [zS]; omega
  omega
theorem hC_sum {N : Nat} {kf : Nat → Int32} {ou : Int32} {al : Nat → Nat → Bool} {L0 a0 : Nat} (h5 : N ≤ 5) (hL0 : L0 < 7) (ha : a0 ≤ 1) : ∀ n, zS (fun L => hC N kf ou al L0 a0 n L) 7 ≤ 5 ^ n
  | 0 => by
    have := hC_0 (N := N) (kf := kf) (ou := ou) (al := al) (L0 := L0) (a0 := a0) (X := fun _ => 1) hL0
    simp only [Nat.mul_one] at this
    rw [this]
    exact ha
  | n + 1 => by
    have e := hC_step (N := N) (kf := kf) (ou := ou) (al := al) (L0 := L0) (a0 := a0) (n := n) (X := fun _ => 1) h5
    simp only [Nat.mul_one] at e
    rw [e]
    have h := zS_le (f := fun L => hC N kf ou al L0 a0 n L * hT N kf ou al n (fun _ => 1) L) (g := fun L => hC N kf ou al L0 a0 n L * 5) 7 (fun L _ => Nat.mul_le_mul_left _ (hT_le (b := 1) h5 (fun _ _ => Nat.le_refl _)))
    have h2 := zS_mulr (f := fun L => hC N kf ou al L0 a0 n L) (c := 5) 7
    have := hC_sum (al := al) (ou := ou) (kf := kf) h5 hL0 ha n
    rw [Nat.pow_succ]
    omega
theorem hTm_le {r : Nat → Int32} {N : Nat} {ou : Int32} {he : Nat → Int32} {t n b k : Nat} {X : Nat → Nat} (h5 : N ≤ 5) (hk : k < 64) (hX : ∀ k, k < 64 → X k ≤ b) : hTm r N ou he t n X k ≤ 5 * b := by
  unfold hTm
  have h : ∀ s, s < N → (if mOk r N ou he t n k s = true then X (mBeh r N s k) else 0) ≤ b := fun s hs => by
    by_cases c : mOk r N ou he t n k s = true
    · rw [if_pos c]; exact hX _ (mBeh_64 hk hs h5)
    · rw [if_neg c]; exact Nat.zero_le _
  have h1 := zS_le (g := fun _ => b) N h
  have e : ∀ m, zS (fun _ => b) m = m * b := fun m => by
    induction m with
    | zero => exact (Nat.zero_mul b).symm
    | succ m ih => rw [zS, ih, Nat.succ_mul]
  rw [e] at h1
  exact Nat.le_trans h1 (Nat.mul_le_mul_right _ h5)
theorem hc_sum {r : Nat → Int32} {N : Nat} {ou : Int32} {he : Nat → Int32} {t k0 a0 : Nat} (h5 : N ≤ 5) (hk : k0 < 64) (ha : a0 ≤ 1) : ∀ n, zS (fun k => hc r N ou he t k0 a0 n k) 64 ≤ 5 ^ n
  | 0 => by
    have := hc_0 (r := r) (N := N) (ou := ou) (he := he) (t := t) (k0 := k0) (a0 := a0) (X := fun _ => 1) hk
    simp only [Nat.mul_one] at this
    rw [this]
    exact ha
  | n + 1 => by
    have e := hc_step (r := r) (N := N) (ou := ou) (he := he) (t := t) (k0 := k0) (a0 := a0) (n := n) (X := fun _ => 1) h5
    simp only [Nat.mul_one] at e
    rw [e]
    have h := zS_le (f := fun k => hc r N ou he t k0 a0 n k * hTm r N ou he t n (fun _ => 1) k) (g := fun k => hc r N ou he t k0 a0 n k * 5) 64 (fun k hk => Nat.mul_le_mul_left _ (hTm_le (b := 1) h5 hk (fun _ _ => Nat.le_refl _)))
    have h2 := zS_mulr (f := fun k => hc r N ou he t k0 a0 n k) (c := 5) 64
    have := hc_sum (r := r) (ou := ou) (he := he) (t := t) h5 hk ha n
    rw [Nat.pow_succ]
    omega
theorem p5 {n : Nat} (h : n ≤ 6) : 5 ^ n ≤ 15625 := Nat.pow_le_pow_right (by decide) h
theorem hc_le {r : Nat → Int32} {N : Nat} {ou : Int32} {he : Nat → Int32} {t k0 a0 n k : Nat} (h5 : N ≤ 5) (hk0 : k0 < 64) (ha : a0 ≤ 1) (hn : n ≤ 6) (hk : k < 64) : hc r N ou he t k0 a0 n k ≤ 15625 := by
  have h1 := zS_at (f := fun k => hc r N ou he t k0 a0 n k) 64 k hk
  have h2 := hc_sum (r := r) (ou := ou) (he := he) (t := t) h5 hk0 ha n
  have h3 := p5 hn
  omega
theorem hC_le {N : Nat} {kf : Nat → Int32} {ou : Int32} {al : Nat → Nat → Bool} {L0 a0 n L : Nat} (h5 : N ≤ 5) (hL0 : L0 < 7) (ha : a0 ≤ 1) (hn : n ≤ 6) (hL : L < 7) : hC N kf ou al L0 a0 n L ≤ 15625 := by
  have h1 := zS_at (f := fun L => hC N kf ou al L0 a0 n L) 7 L hL
  have h2 := hC_sum (al := al) (ou := ou) (kf := kf) h5 hL0 ha n
  have h3 := p5 hn
  omega
