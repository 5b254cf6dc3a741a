/-! seat, as, get -/
theorem jFind_congr {P P' : Nat → Bool} : ∀ k s, (∀ t, s ≤ t → t < s + k → P t = P' t) → jFind P k s = jFind P' k s
  | 0, _, _ => rfl
  | k + 1, s, h => by
    rw [jFind, jFind, h s (Nat.le_refl s) (by omega), jFind_congr k (s + 1) (fun t h1 h2 => h t (by omega) (by omega))]
theorem jFind_none {P : Nat → Bool} : ∀ k s, (∀ t, s ≤ t → t < s + k → P t = false) → jFind P k s = -1
  | 0, _, _ => rfl
  | k + 1, s, h => by
    rw [jFind, h s (Nat.le_refl s) (by omega)]
    exact jFind_none k (s + 1) (fun t h1 h2 => h t (by omega) (by omega))
theorem jFind_tail {P : Nat → Bool} {m : Nat} : ∀ k s, (∀ t, s + k ≤ t → t < s + k + m → P t = false) → jFind P (k + m) s = jFind P k s
  | 0, s, h => by
    rw [Nat.zero_add]
    exact jFind_none m s (fun t h1 h2 => h t (by omega) (by omega))
  | k + 1, s, h => by
    rw [show k + 1 + m = (k + m) + 1 from by omega, jFind, jFind, jFind_tail k (s + 1) (fun t h1 h2 => h t (by omega) (by omega))]
theorem eSB_1 {N : Nat} {kf : Nat → Int32} {ou : Int32} {X L s : Nat} {d : Nat → Nat} : 1 ≤ eSB N kf ou X d L s := by
  unfold eSB
  repeat' split
  all_goals omega
theorem eFew_val {N : Nat} {kf sf r : Nat → Int32} (h : eK N kf sf r) {ou : Int32} {X L B : Nat} (hX : X < 6) (hL : L < 7) (hB : B < 6) (hV : eVL N L) : mFewest r N ou (eC L B) (nI (eB X)) = if B = X then 0 else if eD N kf ou X 49 L < 1000 then nI (eD N kf ou X 49 L) else -1 := by
  rw [← eFew_eq h hX hL hB hV]
  unfold jFew
  have e : (pI B = pI X) ↔ B = X := pI_inj _ (by omega) _ (by omega)
  rw [pI_s, jAt_nI hL (by decide), eD_eq h.1 hX 49 L hL]
  have hle := eD_le (N := N) (kf := kf) (ou := ou) (X := X) 49 L
  have e2 : (nI (eD N kf ou X 49 L) < 1000) ↔ eD N kf ou X 49 L < 1000 := nI_ltI (b := 1000) (by omega) (by omega)
  by_cases c : B = X
  · rw [if_pos c, if_pos (e.mpr c)]
  · rw [if_neg c, if_neg (fun q => c (e.mp q))]
    by_cases q : eD N kf ou X 49 L < 1000
    · rw [if_pos q, if_pos (e2.mpr q)]
    · rw [if_neg q, if_neg (fun z => q (e2.mp z))]
theorem z_pred {a b : Nat} (ha : a < 2147483647) (hb : b < 2147483648) (h1 : 1 ≤ b) : (nI a = nI b - 1) ↔ a + 1 = b := by
  rw [show nI b - 1 = nI (b - 1) from z_sub (b := 1) h1, nI_eq (by omega) (by omega)]
  omega
theorem eFirst {N : Nat} {kf sf r : Nat → Int32} (h : eK N kf sf r) {ou : Int32} {X L B : Nat} (hX : X < 6) (hL : L < 7) (hB : B < 6) (hV : eVL N L) :
    jFind (fun s => decide (jSB (jLT N kf ou) (jBT N kf ou) (jAim (jLT N kf ou) (jBT N kf ou) (pI X) 49) s L (pI X) = jFew (jAim (jLT N kf ou) (jBT N kf ou) (pI X) 49) (pI L) (pI B) (pI X))) 5 0 = mFirst r N ou (eC L B) (nI (eB X)) := by
  have h5 := h.1
  have hsb : ∀ s, s < 5 → jSB (jLT N kf ou) (jBT N kf ou) (jAim (jLT N kf ou) (jBT N kf ou) (pI X) 49) s L (pI X) = nI (eSB N kf ou X (eD N kf ou X 49) L s) := fun s hs => eSB_eq h5 hL hs hX (eD_eq h5 hX 49) (eD_le 49)
  have hv := eFew_j (kf := kf) (ou := ou) h5 hX hL hB
  have he := eFew_eq h (ou := ou) hX hL hB hV
  rw [he] at hv ⊢
  unfold mFirst
  generalize mFewest r N ou (eC L B) (nI (eB X)) = v at hv
  have sb1 : ∀ s, 1 ≤ eSB N kf ou X (eD N kf ou X 49) L s := fun s => eSB_1
  have sbl : ∀ s, eSB N kf ou X (eD N kf ou X 49) L s ≤ 1000 := fun s => eSB_le
  rcases hv with ⟨v1, v2⟩ | ⟨n, n7, v1, v2, v3⟩
  · rw [v1, if_neg (by decide)]
    refine jFind_none 5 0 (fun t h1 h2 => decide_eq_false (fun q => ?_))
    rw [hsb t (by omega)] at q
    exact nI_m1 (by have := sbl t; omega) q
  · by_cases hn : n = 0
    · subst hn
      rw [v1, if_neg (by decide)]
      refine jFind_none 5 0 (fun t h1 h2 => decide_eq_false (fun q => ?_))
      rw [hsb t (by omega)] at q
      have a := (nI_eq (by have := sbl t; omega) (by omega)).mp q
      have b := sb1 t
      omega
    · rw [v1, if_pos (show 0 < nI n from nI_lt (a := 0) (by omega) (by omega))]
      rw [show (5 : Nat) = N + (5 - N) from by omega, jFind_tail N 0 (fun t h1 h2 => decide_eq_false (fun q => ?_))]
      · refine jFind_congr N 0 (fun t h1 h2 => ?_)
        have htN : t < N := by omega
        rw [hsb t (by omega)]
        have e1 : decide (nI (eSB N kf ou X (eD N kf ou X 49) L t) = nI n) = decide (eSB N kf ou X (eD N kf ou X 49) L t = n) := decide_eq_decide.mpr (nI_eq (by have := sbl t; omega) (by omega))
        rw [e1, ← eCounts h ou htN hL (show B < 7 by omega) hV]
        by_cases c : jCounts N kf (nI t) (pI L) ou = true
        · rw [c, Bool.true_and]
          by_cases l : L = t + 1
          · rw [eBeh_self (by omega) l, ← he]
            have hc : eCn N kf ou L t = false := by unfold eCn; rw [decide_eq_true l]; simp
            have hfe : jFew (jAim (jLT N kf ou) (jBT N kf ou) (pI X) 49) (pI L) (pI B) (pI X) = nI n := eFew_one (eFew_j (kf := kf) (ou := ou) h5 hX hL hB) (Or.inr ⟨n, n7, rfl, v2, v3⟩)
            rw [hfe]
            unfold eSB
            rw [hc]
            have : ¬ nI n = nI n - 1 := fun q => by rw [z_pred (by omega) (by omega) (by omega)] at q; omega
            rw [decide_eq_false this]
            exact decide_eq_false (by simp; omega)
          · rw [eBeh h htN hL (by omega) l]
            have hc : eCn N kf ou L t = true := by unfold eCn; rw [decide_eq_true htN, decide_eq_false l, c]; rfl
            have a := eNx_7 (kf := kf) h5 htN
            have b := eNb_6 (kf := kf) (L := L) h5 htN
            rw [eFew_val h hX a.1 b.1 a.2]
            unfold eSB
            rw [if_pos hc]
            have hle := eD_le (N := N) (kf := kf) (ou := ou) (X := X) 49 (eNx kf t)
            by_cases q : eNb N kf L t = X
            · rw [if_pos q, if_pos q]
              exact decide_eq_decide.mpr ((z_pred (a := 0) (by omega) (by omega) (by omega)).symm)
            · rw [if_neg q, if_neg q]
              by_cases q2 : eD N kf ou X 49 (eNx kf t) < 1000
              · rw [if_pos q2]
                refine decide_eq_decide.mpr ?_
                rw [z_pred (by omega) (by omega) (by omega)]
                omega
              · rw [if_neg q2]
                rw [decide_eq_false (by omega)]
                refine (decide_eq_false (fun z => ?_)).symm
                have : nI n - 1 = nI (n - 1) := z_sub (b := 1) (by omega)
                rw [this] at z
                exact nI_m1 (by omega) z.symm
        · have c' : jCounts N kf (nI t) (pI L) ou = false := by simpa using c
          rw [c', Bool.false_and]
          have hc : eCn N kf ou L t = false := by unfold eCn; rw [c', Bool.and_false]
          unfold eSB
          rw [hc]
          exact decide_eq_false (by simp; omega)
      · have ht : t < 5 := by omega
        rw [hsb t ht] at q
        have a := (nI_eq (by have := sbl t; omega) (by omega)).mp q
        have hc : eCn N kf ou L t = false := by unfold eCn; rw [decide_eq_false (by omega)]; rfl
        unfold eSB at a
        rw [hc] at a
        simp at a
        omega
theorem eHas {N : Nat} (h5 : N ≤ 5) (x : Int32) : jHas N x = mIn x 0 (nI N - 1) := by
  unfold jHas mIn
  congr 1
  refine decide_eq_decide.mpr ?_
  rw [Int32.lt_iff_toInt_lt, Int32.le_iff_toInt_le, nI_toInt (by omega)]
  by_cases e : N = 0
  · subst e
    have : (nI 0 - 1).toInt = -1 := rfl
    rw [this]
    omega
  · rw [show nI N - 1 = nI (N - 1) from z_sub (b := 1) (by omega), nI_toInt (by omega)]
    omega
theorem eGet {N : Nat} {kf sf r : Nat → Int32} (h : eK N kf sf r) {ou : Int32} {L B : Nat} (hL : L < 7) (hB : B < 6) (hV : eVL N L) (x wh : Int32) : jGet N kf ou L (pI B) x wh = mGet r N ou (eC L B) x wh := by
  unfold jGet mGet
  rw [eHas h.1]
  by_cases c : mIn x 0 (nI N - 1) = true
  · rw [if_pos c, if_pos c]
    obtain ⟨s, hs, rfl⟩ := mIn_seat c h.1
    have hX : s + 1 < 6 := by have := h.1; omega
    have ex : eB (s + 1) = s := by unfold eB; rw [if_neg (by omega)]; omega
    have f1 := eFew_eq h (ou := ou) hX hL hB hV
    have f2 := eFirst h (ou := ou) hX hL hB hV
    rw [ex, ← pI_up] at f1 f2
    rw [f2, f1]
    unfold mIn
    by_cases w0 : wh = 0
    · subst w0; rfl
    · rw [if_neg w0, if_neg w0]
      by_cases w1 : wh = 1
      · subst w1; rfl
      · rw [if_neg w1, if_neg]
        simp only [Bool.and_eq_true, decide_eq_true_eq]
        grind
  · rw [if_neg c, if_neg c]
theorem eBitI {s : Nat} (hs : s < 5) (o : Int32) : bI (jIsIn (nI s) o) = (o >>> (nI s &&& 31)) &&& 1 := by
  rw [eIsIn hs]
  rcases eBit (o >>> (nI s &&& 31)) with q | q <;> rw [q] <;> rfl
theorem eSeat {N : Nat} {kf sf r fw : Nat → Int32} (h : eK N kf sf r) (hw : ∀ s, s < N → r (3 * s + 2) = fw s) {ou : Int32} {L B : Nat} (hL : L < 7) (hB : B < 6) (hV : eVL N L) (x wh : Int32) : jSeat N kf sf ou (pI L) (pI B) fw x wh = mSeat r N ou (eC L B) x wh := by
  unfold jSeat mSeat
  rw [eHas h.1]
  by_cases c : mIn x 0 (nI N - 1) = true
  · rw [if_pos c, if_pos c]
    obtain ⟨s, hs, rfl⟩ := mIn_seat c h.1
    have h5 := h.1
    obtain ⟨a1, a2, -, -⟩ := h.2 s hs
    have hX : s + 1 < 6 := by omega
    have ex : eB (s + 1) = s := by unfold eB; rw [if_neg (by omega)]; omega
    have f1 := eFew_eq h (ou := ou) hX hL hB hV
    rw [ex, ← pI_up] at f1
    unfold mTell
    rw [f1, z_nat (by omega), jKind_nI hs h5, jKind_nI hs h5, a1, a2, eBitI (by omega), eCounts h ou hs hL (show B < 7 by omega) hV, jAt_nI (by omega) (by decide), hw s hs]
  · rw [if_neg c, if_neg c]
theorem eAs {N : Nat} {kf sf r : Nat → Int32} (h : eK N kf sf r) (x k : Int32) : jAs N kf x k = mAs r N x k := by
  unfold jAs mAs
  rw [eHas h.1]
  by_cases c : mIn x 0 (nI N - 1) = true
  · rw [if_pos c, if_pos c]
    obtain ⟨s, hs, rfl⟩ := mIn_seat c h.1
    have h5 := h.1
    obtain ⟨a1, a2, -, -⟩ := h.2 s hs
    unfold jIsOf
    rw [eHas h5, c, jKind_nI hs h5, z_nat (by omega), a1]
    unfold mIn
    by_cases q : k < 0 ∨ 5 ≤ k
    · rw [if_pos q, if_neg]
      simp only [Bool.and_eq_true, decide_eq_true_eq]
      grind
    · rw [if_neg q, if_pos (show (decide (0 ≤ k) && decide (k ≤ 4)) = true by
        simp only [Bool.and_eq_true, decide_eq_true_eq]
        grind)]
      simp only [Bool.true_and, Bool.or_eq_true, Bool.and_eq_true, decide_eq_true_eq, or_assoc]
  · rw [if_neg c, if_neg c]
