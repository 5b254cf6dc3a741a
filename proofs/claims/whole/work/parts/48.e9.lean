/-! rows of words: the same count and the same last ones -/
theorem eA0_eq {t : Nat} {ftw fts he : Nat → Int32} (hh : eH t ftw fts he) {L B : Nat} (hB : B < 6) : (if mHeard he 0 (eC L B) t then 1 else 0) = eA0 t ftw fts B := by
  unfold eA0
  rw [eAllows hh hB]
theorem eA0_le {t : Nat} {ftw fts : Nat → Int32} {B : Nat} : eA0 t ftw fts B ≤ 1 := by unfold eA0; split <;> omega
theorem eTotal {N : Nat} {kf sf r : Nat → Int32} (h : eK N kf sf r) {t : Nat} {ftw fts he : Nat → Int32} (hh : eH t ftw fts he) {ou : Int32} {L0 B0 a0 n : Nat} (hL0 : L0 < 7) (hB0 : B0 < 6) (hV0 : eVL N L0) : zS (fun k => hc r N ou he t (eC L0 B0) a0 n k) 64 = zS (fun L => hC N kf ou (eAl t ftw fts) L0 a0 n L) 7 := by
  have := eSame h hh (ou := ou) (a0 := a0) hL0 hB0 hV0 n (fun _ => 1) (fun _ => 1) (fun _ _ _ _ _ => rfl)
  simp only [Nat.mul_one] at this
  exact this
theorem eLastOne {N : Nat} {kf sf r : Nat → Int32} (h : eK N kf sf r) {t : Nat} {ftw fts he : Nat → Int32} (hh : eH t ftw fts he) {ou : Int32} {L0 B0 a0 n q : Nat} (hL0 : L0 < 7) (hB0 : B0 < 6) (hV0 : eVL N L0) (hq : q < 8) : (wAny (fun k => hc r N ou he t (eC L0 B0) a0 n k) q 8 = true) ↔ 0 < zS (fun L => hC N kf ou (eAl t ftw fts) L0 a0 n L * (if eL L = q then 1 else 0)) 7 := by
  rw [wAny_sum hq, eSame h hh (ou := ou) (a0 := a0) hL0 hB0 hV0 n (fun L => if eL L = q then 1 else 0) (fun k => if k / 8 = q then 1 else 0) (fun L B hL hB hV => by rw [eC_div (by omega)])]
theorem eMask {N : Nat} {kf sf r : Nat → Int32} (h : eK N kf sf r) {t : Nat} {ftw fts he : Nat → Int32} (hh : eH t ftw fts he) {ou : Int32} {L B n : Nat} (hL : L < 7) (hB : B < 6) (hV : eVL N L) (hn : n ≤ 6) {y y' : Nat → Int32}
    (hy : ∀ L', L' < 7 → y (7 * n + L') = nI (hC N kf ou (eAl t ftw fts) L (eA0 t ftw fts B) n L')) (hy' : ∀ k, k < 64 → y' (64 * n + k) = nI (hc r N ou he t (eC L B) (eA0 t ftw fts B) n k)) :
    jBits y n 7 = mWho y' n 64 := by
  have b1 : ∀ L', L' < 7 → hC N kf ou (eAl t ftw fts) L (eA0 t ftw fts B) n L' < 2147483648 := fun L' hL' => by
    have := hC_le (al := eAl t ftw fts) (kf := kf) (ou := ou) h.1 hL (eA0_le (t := t) (ftw := ftw) (fts := fts) (B := B)) hn hL'
    omega
  have b2 : ∀ k, k < 64 → hc r N ou he t (eC L B) (eA0 t ftw fts B) n k < 2147483648 := fun k hk => by
    have := hc_le (r := r) (ou := ou) (he := he) (t := t) h.1 (eC_lt hL (show B < 7 by omega)) (eA0_le (t := t) (ftw := ftw) (fts := fts) (B := B)) hn hk
    omega
  rw [wBits hn hy b1, wWho8 hy' b2]
  have e := fun q (hq : q < 8) => eLastOne h hh (ou := ou) (a0 := eA0 t ftw fts B) (n := n) hL hB hV hq
  have e0 := e 0 (by omega)
  have e1 := e 1 (by omega)
  have e2 := e 2 (by omega)
  have e3 := e 3 (by omega)
  have e4 := e 4 (by omega)
  have e5 := e 5 (by omega)
  have e6 := e 6 (by omega)
  have e7 := e 7 (by omega)
  have l0 : eL 0 = 7 := rfl
  have l1 : eL 1 = 0 := rfl
  have l2 : eL 2 = 1 := rfl
  have l3 : eL 3 = 2 := rfl
  have l4 : eL 4 = 3 := rfl
  have l5 : eL 5 = 4 := rfl
  have l6 : eL 6 = 5 := rfl
  simp only [zS, l0, l1, l2, l3, l4, l5, l6, Nat.reduceEqDiff, if_true, if_false, Nat.mul_one, Nat.mul_zero, Nat.zero_add, Nat.add_zero, Nat.lt_irrefl, iff_false, Bool.not_eq_true, reduceIte] at e0 e1 e2 e3 e4 e5 e6 e7
  have w := wSeven (decide (0 < hC N kf ou (eAl t ftw fts) L (eA0 t ftw fts B) n 0)) (decide (0 < hC N kf ou (eAl t ftw fts) L (eA0 t ftw fts B) n 1)) (decide (0 < hC N kf ou (eAl t ftw fts) L (eA0 t ftw fts B) n 2)) (decide (0 < hC N kf ou (eAl t ftw fts) L (eA0 t ftw fts B) n 3)) (decide (0 < hC N kf ou (eAl t ftw fts) L (eA0 t ftw fts B) n 4)) (decide (0 < hC N kf ou (eAl t ftw fts) L (eA0 t ftw fts B) n 5)) (decide (0 < hC N kf ou (eAl t ftw fts) L (eA0 t ftw fts B) n 6))
  simp only [decide_eq_true_eq] at w
  rw [w, z_ifc e0, z_ifc e1, z_ifc e2, z_ifc e3, z_ifc e4, z_ifc e5, e6, z_ifc e7]
theorem eRows {N : Nat} {kf sf r : Nat → Int32} (h : eK N kf sf r) {t : Nat} {ftw fts he : Nat → Int32} (hh : eH t ftw fts he) {ou : Int32} {L B : Nat} (hL : L < 7) (hB : B < 6) (hV : eVL N L) (b wh : Int32) : jRows N kf ou L B t ftw fts b wh = mRowsR r N ou he t (eC L B) b wh := by
  unfold jRows mRowsR
  by_cases c : b < 0 ∨ 6 < b ∨ (¬ wh = 0 ∧ ¬ wh = 1)
  · rw [if_pos c, if_neg]
    unfold mIn
    simp only [Bool.and_eq_true, decide_eq_true_eq]
    grind
  · rw [if_neg c, if_pos (show (mIn b 0 6 && mIn wh 0 1) = true by
      unfold mIn
      simp only [Bool.and_eq_true, decide_eq_true_eq]
      grind)]
    by_cases hN : N = 0
    · rw [if_pos hN, if_pos (by omega)]
    · rw [if_neg hN, if_neg (by omega)]
      obtain ⟨k, _, k2, rfl⟩ := z_rng0 (b := b) (Int32.not_lt.mp (fun q => c (Or.inl q))) (Int32.not_lt.mp (fun q => c (Or.inr (Or.inl q))))
      rw [z_nat (by omega)]
      unfold mRowsV
      have y1 : ∀ L', L' < 7 → jWay (jLT N kf ou) (jBT N kf ou) t ftw fts (jWay0 t ftw fts L B) (35 * k) (7 * k + L') = nI (hC N kf ou (eAl t ftw fts) L (eA0 t ftw fts B) k L') := fun L' hL' => eWay h.1 hL k2 (Nat.le_refl _) hL'
      have y2 : ∀ j, j < 64 → mY3 r N ou he t (eC L B) k (64 * k + j) = nI (hc r N ou he t (eC L B) (eA0 t ftw fts B) k j) := fun j hj => by
        rw [eWayM h.1 (eC_lt hL (by omega)) k2 (Nat.le_refl _) hj, eA0_eq hh hB]
      by_cases w0 : wh = 0
      · rw [if_pos w0, if_pos w0, eJsum k2 y1 7 (Nat.le_refl _), eMsum y2 64 (Nat.le_refl _)]
        exact congrArg nI (eTotal h hh hL hB hV).symm
      · rw [if_neg w0, if_neg w0]
        exact eMask h hh hL hB hV k2 y1 y2
