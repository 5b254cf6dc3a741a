/-! when it is heard: both the same -/
theorem zM_6 {f : Nat → Nat} : zS f 6 ≤ 6 * zM f 6 ∧ zM f 6 ≤ zS f 6 := by
  simp only [zS, zM]
  omega
theorem eMostM {N : Nat} {kf sf r : Nat → Int32} (h : eK N kf sf r) {t : Nat} {ftw fts he : Nat → Int32} (hh : eH t ftw fts he) {ou : Int32} {L B n : Nat} (hL : L < 7) (hB : B < 6) (hV : eVL N L) (hn : n < 6) :
    mWorst (mParts (mY3 r N ou he t (eC L B) 6) (mO3 r N ou he t 6 6) (n + 1) 64) 8 = nI (zM (gL N kf ou (eAl t ftw fts) L (eA0 t ftw fts B) n 35) 6) := by
  have hT := hC_sum (al := eAl t ftw fts) (ou := ou) (kf := kf) h.1 hL (eA0_le (t := t) (ftw := ftw) (fts := fts) (B := B)) 6
  have p6 := p5 (n := 6) (Nat.le_refl _)
  have hy : ∀ k, k < 64 → mY3 r N ou he t (eC L B) 6 (64 * (n + 1) + k) = nI (hc r N ou he t (eC L B) (eA0 t ftw fts B) (n + 1) k) := fun k hk => by
    rw [eWayM h.1 (eC_lt hL (by omega)) (Nat.le_refl _) (by omega) hk, eA0_eq hh hB]
  have hz : ∀ k, k < 64 → mO3 r N ou he t 6 6 (64 * (n + 1) + k) = nI (hO r N ou he t (5 - n) k) := fun k hk => by
    rw [eOnM h.1 (by omega) hk, show 6 - (n + 1) = 5 - n from by omega]
  have hp := fun v => eParts hy hz v 64 (Nat.le_refl _)
  obtain ⟨s1, s2⟩ := eSix (kf := kf) (ou := ou) (al := eAl t ftw fts) (L0 := L) (a0 := eA0 t ftw fts B) (n := n) h.1 (P := fun v => zS (fun k => if k % 8 = v then hc r N ou he t (eC L B) (eA0 t ftw fts B) (n + 1) k * hO r N ou he t (5 - n) k else 0) 64) (fun v => ePart h hh hL hB hV hn v)
  rw [(eWorst (f := fun v => zS (fun k => if k % 8 = v then hc r N ou he t (eC L B) (eA0 t ftw fts B) (n + 1) k * hO r N ou he t (5 - n) k else 0) 64) (fun v _ => hp v) (fun v hv => by
    rcases s2 v hv with e | ⟨b, b1, b2⟩
    · rw [e]; omega
    · rw [b2]
      have := gL_le (kf := kf) (ou := ou) (al := eAl t ftw fts) (L0 := L) (a0 := eA0 t ftw fts B) h.1 hn (Nat.le_refl 35) b1
      omega) 8 (Nat.le_refl _)).2, s1]
theorem eWhen {N : Nat} {kf sf r : Nat → Int32} (h : eK N kf sf r) {t : Nat} {ftw fts he : Nat → Int32} (hh : eH t ftw fts he) {ou : Int32} {L B : Nat} (hL : L < 7) (hB : B < 6) (hV : eVL N L) : jWhen N kf ou L B t ftw fts = mWhen r N ou he t (eC L B) := by
  unfold jWhen mWhen
  by_cases hN : N = 0
  · rw [if_pos hN, if_pos (by omega)]
  · rw [if_neg hN, if_neg (by omega)]
    have hT : zS (hC N kf ou (eAl t ftw fts) L (eA0 t ftw fts B) 6) 7 ≤ 5 ^ 6 := hC_sum (al := eAl t ftw fts) (ou := ou) (kf := kf) h.1 hL (eA0_le (t := t) (ftw := ftw) (fts := fts) (B := B)) 6
    have p6 := p5 (n := 6) (Nat.le_refl _)
    have y6 : ∀ n L', n ≤ 6 → L' < 7 → jWay (jLT N kf ou) (jBT N kf ou) t ftw fts (jWay0 t ftw fts L B) 210 (7 * n + L') = nI (hC N kf ou (eAl t ftw fts) L (eA0 t ftw fts B) n L') := fun n L' hn hL' => eWay (w := 6) h.1 hL (Nat.le_refl _) hn hL'
    have hs := eJsum (Nat.le_refl 6) (fun L' hL' => y6 6 L' (Nat.le_refl _) hL') 7 (Nat.le_refl _)
    rw [hs]
    have f1 : ∀ w, 1 ≤ w → w ≤ 6 → (fun w => (jMost (jLT N kf ou) (jBT N kf ou) t ftw fts (jWay (jLT N kf ou) (jBT N kf ou) t ftw fts (jWay0 t ftw fts L B) 210) (jEnds (jLT N kf ou) (jBT N kf ou) t ftw fts 35) w 35).2) w = nI (zM (gL N kf ou (eAl t ftw fts) L (eA0 t ftw fts B) (w - 1) 35) 6) := fun w h1 h6 => by
      have e := eMost (kf := kf) (ou := ou) (t := t) (ftw := ftw) (fts := fts) (L0 := L) (a0 := eA0 t ftw fts B) (n := w - 1) h.1 (by omega) (Nat.le_trans hT p6) (fun L' hL' => y6 (w - 1) L' (by omega) hL') (fun L' hL' => by
        have q := eEnds35 (kf := kf) (ou := ou) (t := t) (ftw := ftw) (fts := fts) (w := w - 1 + 1) h.1 hL' (by omega) (by omega)
        rw [show 6 - (w - 1 + 1) = 5 - (w - 1) from by omega] at q
        exact q) 35 (Nat.le_refl _)
      have e2 := e.2
      rw [show w - 1 + 1 = w from by omega] at e2
      exact e2
    have g1 : ∀ w, 1 ≤ w → w ≤ 6 → (fun n => mWorst (mParts (mY3 r N ou he t (eC L B) 6) (mO3 r N ou he t 6 6) n 64) 8) w = nI (zM (gL N kf ou (eAl t ftw fts) L (eA0 t ftw fts B) (w - 1) 35) 6) := fun w h1 h6 => by
      have e := eMostM h hh (ou := ou) (n := w - 1) hL hB hV (by omega)
      rw [show w - 1 + 1 = w from by omega] at e
      exact e
    have sm : ∀ w, 1 ≤ w → w ≤ 6 → zS (gL N kf ou (eAl t ftw fts) L (eA0 t ftw fts B) (w - 1) 35) 6 = zS (hC N kf ou (eAl t ftw fts) L (eA0 t ftw fts B) 6) 7 := fun w _ _ => gL_sum h.1 (by omega)
    unfold mWhenV
    by_cases z : zS (hC N kf ou (eAl t ftw fts) L (eA0 t ftw fts B) 6) 7 = 0
    · rw [if_pos (by rw [z]; rfl)]
      have g0 : ∀ k, k ≤ 6 → mLook (fun n => mWorst (mParts (mY3 r N ou he t (eC L B) 6) (mO3 r N ou he t 6 6) n 64) 8) k = (-1, -1) := fun k => by
        induction k with
        | zero => intro _; rfl
        | succ k ih =>
          intro hk
          have gk := g1 (k + 1) (by omega) (by omega)
          dsimp only at gk
          rw [mLook, gk, ih (by omega), if_neg]
          rintro ⟨q, _⟩
          have m := (zM_6 (f := gL N kf ou (eAl t ftw fts) L (eA0 t ftw fts B) (k + 1 - 1) 35)).2
          rw [sm (k + 1) (by omega) (by omega), z] at m
          rw [nI_0lt (by omega)] at q
          omega
      rw [g0 6 (Nat.le_refl _)]
    · have nz : ¬ nI (zS (hC N kf ou (eAl t ftw fts) L (eA0 t ftw fts B) 6) 7) = 0 := fun q => z ((nI_eq (b := 0) (Nat.lt_of_le_of_lt (Nat.le_trans hT p6) (by decide)) (by decide)).mp q)
      rw [if_neg nz]
      refine congrArg Prod.fst (eLook f1 g1 (fun w h1 h6 => ?_) 5 (Nat.le_refl _)).1.symm
      have m := zM_6 (f := gL N kf ou (eAl t ftw fts) L (eA0 t ftw fts B) (w - 1) 35)
      rw [sm w h1 h6] at m
      omega
