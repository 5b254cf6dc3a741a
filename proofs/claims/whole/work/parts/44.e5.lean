/-! play -/
theorem jMax_assoc (a b c : Int32) : jMax a (jMax b c) = jMax (jMax a b) c := by
  unfold jMax
  grind
theorem jMin_assoc (a b c : Int32) : jMin a (jMin b c) = jMin (jMin a b) c := by
  unfold jMin
  grind
theorem jBetter_assoc (sd a b c : Int32) : jBetter sd a (jBetter sd b c) = jBetter sd (jBetter sd a b) c := by
  unfold jBetter
  split
  · exact jMax_assoc a b c
  · exact jMin_assoc a b c
def gBt (sd : Nat) (a b : Nat) : Nat := if sd = 0 then max a b else min a b
theorem gBt_eq : ∀ sd : Nat, sd < 2 → ∀ a : Nat, a < 3 → ∀ b : Nat, b < 3 → jBetter (nI sd) (pI a) (pI b) = pI (gBt sd a b) := by decide
theorem gBt_lo : ∀ sd : Nat, sd < 2 → ∀ a : Nat, a < 3 → jBetter (nI sd) (pI a) (if nI sd = 0 then -1000 else 1000) = pI a := by decide
/-- a table of the class and one of the reference that go together -/
def gW (N : Nat) (w w' : Nat → Int32) : Prop := ∀ L B, L < 7 → B < 6 → eVL N L → ∃ v, v < 3 ∧ w (6 * L + B) = pI v ∧ w' (eC L B) = nI v
theorem gTurn {N : Nat} {kf sf r : Nat → Int32} (h : eK N kf sf r) {ou : Int32} {s L : Nat} (sd : Int32) (hs : s < N) (hL : L < 7) : jTurn N sf (jLT N kf ou) sd s L = (decide (r (3 * s + 1) = sd) && eCn N kf ou L s) := by
  have h5 := h.1
  unfold jTurn
  rw [jKind_nI hs h5, (h.2 s hs).2.1]
  congr 1
  have e := eLT_no (kf := kf) (ou := ou) (L := L) (s := s) h5 hL (by omega)
  cases c : eCn N kf ou L s
  · rw [decide_eq_true (e.mpr c)]; rfl
  · rw [decide_eq_false (fun q => by rw [e.mp q] at c; cases c)]; rfl
theorem gTurn_no {N : Nat} {kf sf : Nat → Int32} {ou sd : Int32} {s L : Nat} (h5 : N ≤ 5) (hs : ¬ s < N) (h : s < 5) (hL : L < 7) : jTurn N sf (jLT N kf ou) sd s L = false := by
  unfold jTurn
  have hc : eCn N kf ou L s = false := by unfold eCn; rw [decide_eq_false hs]; rfl
  rw [decide_eq_true ((eLT_no (kf := kf) (ou := ou) h5 hL h).mpr hc), Bool.not_true, Bool.and_false]
theorem gWB {N : Nat} {kf sf r : Nat → Int32} (h : eK N kf sf r) {ou : Int32} {s L : Nat} {w : Nat → Int32} (hL : L < 7) (hc : eCn N kf ou L s = true) : jWB (jLT N kf ou) (jBT N kf ou) w s L = w (6 * eNx kf s + eNb N kf L s) := by
  have h5 := h.1
  have hs := (eCn_N hc).1
  unfold jWB
  rw [eLT h5 hL (by omega), if_pos hc, eBT h5 hL (by omega), if_pos hc, op_eq]
  have a := (eNx_7 (kf := kf) h5 hs).1
  have b := (eNb_6 (kf := kf) (L := L) h5 hs).1
  exact jAt_nI (by omega) (by decide)
/-- so far: what is best, and by whom -/
theorem gStep {N : Nat} {kf sf r : Nat → Int32} (h : eK N kf sf r) {ou : Int32} {L B sd v0 : Nat} {w w' : Nat → Int32} (hg : gW N w w') (hL : L < 7) (hB : B < 6) (hV : eVL N L) (hsd : sd < 2) (h0 : v0 < 3) (hw0 : w (6 * L + B) = pI v0) (hw0' : w' (eC L B) = nI v0) :
    ∀ s, s ≤ N → ∃ v, v < 3 ∧ jBetter (nI sd) (pI v0) (jBy N sf (jLT N kf ou) (jBT N kf ou) w (nI sd) L s) = pI v ∧ (mP1 r N ou (nI sd) w' (eC L B) s).1 = nI v ∧ (if sd = 0 then v0 ≤ v else v ≤ v0) ∧
      ((v = v0 ∧ (mP1 r N ou (nI sd) w' (eC L B) s).2 = -1) ∨ (¬ v = v0 ∧ ∃ t, t < s ∧ (mP1 r N ou (nI sd) w' (eC L B) s).2 = nI t ∧ jTurn N sf (jLT N kf ou) (nI sd) t L = true ∧ jWB (jLT N kf ou) (jBT N kf ou) w t L = pI v ∧
        ∀ t', t' < t → jTurn N sf (jLT N kf ou) (nI sd) t' L = true → ¬ jWB (jLT N kf ou) (jBT N kf ou) w t' L = pI v)) ∧
      (∀ t, t < s → jTurn N sf (jLT N kf ou) (nI sd) t L = true → ∃ x, x < 3 ∧ jWB (jLT N kf ou) (jBT N kf ou) w t L = pI x ∧ (if sd = 0 then x ≤ v else v ≤ x))
  | 0, _ => ⟨v0, h0, gBt_lo sd hsd v0 h0, hw0', by split <;> omega, Or.inl ⟨rfl, rfl⟩, fun t ht => by omega⟩
  | s + 1, hs => by
    obtain ⟨v, a1, a2, a3, a4, a5, a6⟩ := gStep h hg hL hB hV hsd h0 hw0 hw0' s (by omega)
    have hsN : s < N := by omega
    have z0 : (nI sd = 0) ↔ sd = 0 := nI_eq (b := 0) (by omega) (by omega)
    by_cases c : jTurn N sf (jLT N kf ou) (nI sd) s L = true
    · have c2 := c
      rw [gTurn h _ hsN hL] at c2
      simp only [Bool.and_eq_true, decide_eq_true_eq] at c2
      have a := eNx_7 (kf := kf) h.1 hsN
      have b := eNb_6 (kf := kf) (L := L) h.1 hsN
      obtain ⟨x, x1, x2, x3⟩ := hg (eNx kf s) (eNb N kf L s) a.1 b.1 a.2
      have hne : ¬ L = s + 1 := (eCn_N c2.2).2
      have hcnt : mCounts r ou s (eC L B) = true := by
        rw [← eCounts h ou hsN hL (show B < 7 by omega) hV]
        have := c2.2
        unfold eCn at this
        simp only [Bool.and_eq_true] at this
        exact this.2
      have hv : mVv r N ou (nI sd) w' (eC L B) s = nI x := by
        unfold mVv
        rw [if_pos ⟨c2.1, hcnt⟩, eBeh h hsN hL (by omega) hne, x3]
      have hj : jWB (jLT N kf ou) (jBT N kf ou) w s L = pI x := by rw [gWB h hL c2.2, x2]
      rw [jBy, if_pos c, jBetter_assoc, a2, hj, gBt_eq sd hsd v a1 x x1, mP1, hv, a3]
      have ecmp : (if nI sd = 0 then nI v < nI x else nI x < nI v) ↔ (if sd = 0 then v < x else x < v) := by
        by_cases q : sd = 0
        · rw [if_pos (z0.mpr q), if_pos q]; exact nI_ltI (by omega) (by omega)
        · rw [if_neg (fun z => q (z0.mp z)), if_neg q]; exact nI_ltI (by omega) (by omega)
      by_cases bt : (if sd = 0 then v < x else x < v)
      · have hgx : gBt sd v x = x := by
          unfold gBt
          by_cases q : sd = 0
          · rw [if_pos q] at bt ⊢; omega
          · rw [if_neg q] at bt ⊢; omega
        rw [hgx, if_pos (ecmp.mpr bt)]
        refine ⟨x, x1, rfl, rfl, ?_, Or.inr ⟨?_, s, by omega, rfl, c, hj, fun t' ht' hc' hq => ?_⟩, fun t ht hc' => ?_⟩
        · by_cases q : sd = 0
          · rw [if_pos q] at bt a4 ⊢; omega
          · rw [if_neg q] at bt a4 ⊢; omega
        · intro q; subst q
          by_cases q : sd = 0
          · rw [if_pos q] at bt a4; omega
          · rw [if_neg q] at bt a4; omega
        · obtain ⟨y, y1, y2, y3⟩ := a6 t' ht' hc'
          rw [y2] at hq
          have := (pI_inj y (by omega) x (by omega)).mp hq
          subst this
          by_cases q : sd = 0
          · rw [if_pos q] at bt y3; omega
          · rw [if_neg q] at bt y3; omega
        · by_cases e : t = s
          · subst e
            exact ⟨x, x1, hj, by split <;> omega⟩
          · obtain ⟨y, y1, y2, y3⟩ := a6 t (by omega) hc'
            refine ⟨y, y1, y2, ?_⟩
            by_cases q : sd = 0
            · rw [if_pos q] at bt y3 ⊢; omega
            · rw [if_neg q] at bt y3 ⊢; omega
      · have hgx : gBt sd v x = v := by
          unfold gBt
          by_cases q : sd = 0
          · rw [if_pos q] at bt ⊢; omega
          · rw [if_neg q] at bt ⊢; omega
        rw [hgx, if_neg (fun z => bt (ecmp.mp z))]
        refine ⟨v, a1, rfl, a3, a4, a5.imp id (fun ⟨q, t, t1, t2⟩ => ⟨q, t, by omega, t2⟩), fun t ht hc' => ?_⟩
        by_cases e : t = s
        · subst e
          refine ⟨x, x1, hj, ?_⟩
          by_cases q : sd = 0
          · rw [if_pos q] at bt ⊢; omega
          · rw [if_neg q] at bt ⊢; omega
        · exact a6 t (by omega) hc'
    · have hv : mVv r N ou (nI sd) w' (eC L B) s = nI v0 := by
        unfold mVv
        by_cases q : r (3 * s + 1) = nI sd ∧ mCounts r ou s (eC L B) = true
        · rw [if_pos q]
          have hl : L = s + 1 := by
            refine Classical.byContradiction (fun z => c ?_)
            rw [gTurn h _ hsN hL, decide_eq_true q.1, Bool.true_and]
            unfold eCn
            rw [decide_eq_true hsN, decide_eq_false z, eCounts h ou hsN hL (show B < 7 by omega) hV, q.2]
            rfl
          rw [eBeh_self (by omega) hl, hw0']
        · rw [if_neg q, hw0']
      rw [jBy, if_neg c, mP1, hv, a3]
      have hno : ¬ (if nI sd = 0 then nI v < nI v0 else nI v0 < nI v) := by
        by_cases q : sd = 0
        · rw [if_pos (z0.mpr q), nI_ltI (by omega) (by omega)]; rw [if_pos q] at a4; omega
        · rw [if_neg (fun z => q (z0.mp z)), nI_ltI (by omega) (by omega)]; rw [if_neg q] at a4; omega
      rw [if_neg hno]
      refine ⟨v, a1, a2, a3, a4, a5.imp id (fun ⟨q, t, t1, t2⟩ => ⟨q, t, by omega, t2⟩), fun t ht hc' => ?_⟩
      by_cases e : t = s
      · subst e; exact absurd hc' c
      · exact a6 t (by omega) hc'
theorem gBy5 {N : Nat} {kf sf : Nat → Int32} {ou sd : Int32} {L : Nat} {w : Nat → Int32} (h5 : N ≤ 5) (hL : L < 7) : ∀ m, N + m ≤ 5 → jBy N sf (jLT N kf ou) (jBT N kf ou) w sd L (N + m) = jBy N sf (jLT N kf ou) (jBT N kf ou) w sd L N
  | 0, _ => rfl
  | m + 1, h => by
    rw [← Nat.add_assoc, jBy, gTurn_no h5 (by omega) (by omega) hL, if_neg (by decide)]
    exact gBy5 h5 hL m (by omega)
theorem gBy_N {N : Nat} {kf sf : Nat → Int32} {ou sd : Int32} {L : Nat} {w : Nat → Int32} (h5 : N ≤ 5) (hL : L < 7) : jBy N sf (jLT N kf ou) (jBT N kf ou) w sd L 5 = jBy N sf (jLT N kf ou) (jBT N kf ou) w sd L N := by
  have := gBy5 (kf := kf) (sf := sf) (ou := ou) (sd := sd) (w := w) h5 hL (5 - N) (by omega)
  rw [show N + (5 - N) = 5 from by omega] at this
  exact this
theorem gNext {N : Nat} {kf sf r : Nat → Int32} (h : eK N kf sf r) {ou : Int32} {sd : Nat} {w w' : Nat → Int32} (hg : gW N w w') (hsd : sd < 2) : gW N (jWBr N sf (jLT N kf ou) (jBT N kf ou) (nI sd) w) (fun k => (mP1 r N ou (nI sd) w' k N).1) := by
  intro L B hL hB hV
  obtain ⟨v0, h0, a1, a2⟩ := hg L B hL hB hV
  obtain ⟨v, b1, b2, b3, -⟩ := gStep h (ou := ou) hg hL hB hV hsd h0 a1 a2 N (Nat.le_refl N)
  refine ⟨v, b1, ?_, b3⟩
  unfold jWBr
  rw [show (6 * L + B) / 6 = L from by omega, a1, gBy_N h.1 hL]
  exact b2
theorem gEnd {N : Nat} {kf sf r : Nat → Int32} (h : eK N kf sf r) : gW N (jEnd N sf) (fun k => mWE r N k) := by
  intro L B hL hB hV
  have h5 := h.1
  unfold jEnd jWE mWE
  dsimp only
  rw [show (6 * L + B) % 6 = B from by omega, eC_mod (show B < 7 by omega)]
  by_cases c : B = 0
  · subst c
    refine ⟨1, by omega, ?_, ?_⟩
    · have : jKind N sf (pI 0) = -1 := by unfold jKind; rw [if_neg (fun q => absurd q.1 (by decide))]
      rw [this]; decide
    · rw [if_neg]
      · rfl
      · rw [← eHas h5]
        unfold jHas eB
        simp only [Bool.and_eq_true, decide_eq_true_eq]
        rintro ⟨-, q⟩
        have := (nI_ltI (a := 7) (b := N) (by omega) (by omega)).mp q
        omega
  · have hb : eB B = B - 1 := by unfold eB; rw [if_neg c]
    have hp : pI B = nI (B - 1) := pI_nI (by omega)
    rw [hb, hp]
    by_cases q : B - 1 < N
    · obtain ⟨-, s1, -, s2⟩ := h.2 (B - 1) q
      rw [jKind_nI q h5, mIn_nI q h5, if_pos rfl, s1]
      rcases s2 with z | z <;> rw [z]
      · exact ⟨2, by omega, by decide, by decide⟩
      · exact ⟨0, by omega, by decide, by decide⟩
    · rw [eJK_no q (by omega)]
      refine ⟨1, by omega, by decide, ?_⟩
      rw [if_neg]
      · rfl
      · rw [← eHas h5]
        unfold jHas
        simp only [Bool.and_eq_true, decide_eq_true_eq]
        rintro ⟨-, z⟩
        exact q ((nI_ltI (by omega) (by omega)).mp z)
theorem gAll {N : Nat} {kf sf r : Nat → Int32} (h : eK N kf sf r) {ou : Int32} {b : Nat} : ∀ l, l ≤ b → gW N (jWeigh N sf (jLT N kf ou) (jBT N kf ou) l (b - l)) (mPW r N ou b l)
  | 0, _ => gEnd h
  | l + 1, hl => by
    have := gNext h (ou := ou) (sd := (b - (l + 1)) % 2) (gAll h (ou := ou) (b := b) l (by omega)) (by omega)
    rw [jWeigh, mPW, show b - (l + 1) + 1 = b - l from by omega]
    exact this
theorem jFind_at {P : Nat → Bool} {t : Nat} (ht : P t = true) : ∀ k s, s ≤ t → t < s + k → (∀ t', s ≤ t' → t' < t → P t' = false) → jFind P k s = nI t
  | 0, s, h1, h2, _ => by omega
  | k + 1, s, h1, h2, h3 => by
    rw [jFind]
    by_cases e : s = t
    · subst e; rw [if_pos ht]
    · rw [h3 s (Nat.le_refl s) (by omega), if_neg (by decide)]
      exact jFind_at ht k (s + 1) (by omega) (by omega) (fun t' q1 q2 => h3 t' (by omega) q2)
theorem ePlayV {N : Nat} {kf sf r : Nat → Int32} (h : eK N kf sf r) {ou : Int32} {L B b : Nat} (hL : L < 7) (hB : B < 6) (hV : eVL N L) (hb : 1 ≤ b) :
    jBest N sf (jLT N kf ou) (jBT N kf ou) (jWeigh N sf (jLT N kf ou) (jBT N kf ou) (b - 1) 1) L B + 1 = mPW r N ou b b (eC L B) ∧ jOpen N sf (jLT N kf ou) (jBT N kf ou) (jWeigh N sf (jLT N kf ou) (jBT N kf ou) (b - 1) 1) L B = mPF r N ou b (eC L B) := by
  have h5 := h.1
  have hg := gAll h (ou := ou) (b := b) (b - 1) (by omega)
  rw [show b - (b - 1) = 1 from by omega] at hg
  obtain ⟨v0, h0, a1, a2⟩ := hg L B hL hB hV
  obtain ⟨v, b1, b2, b3, b4, b5, b6⟩ := gStep h (ou := ou) hg hL hB hV (show 0 < 2 by omega) h0 a1 a2 N (Nat.le_refl N)
  have hbest : jBest N sf (jLT N kf ou) (jBT N kf ou) (jWeigh N sf (jLT N kf ou) (jBT N kf ou) (b - 1) 1) L B = pI v := by
    unfold jBest
    rw [a1, gBy_N h5 hL]
    exact b2
  have e1 : mPW r N ou b b (eC L B) = nI v := by
    obtain ⟨c, rfl⟩ : ∃ c, b = c + 1 := ⟨b - 1, by omega⟩
    rw [mPW]
    dsimp only
    rw [show (c + 1 - (c + 1)) % 2 = 0 from by omega]
    exact b3
  refine ⟨by rw [hbest, e1, pI_s], ?_⟩
  unfold jOpen mPF
  rw [hbest, a1, show (b - b) % 2 = 0 from by omega]
  rcases b5 with ⟨c1, c2⟩ | ⟨c1, t, t1, t2, t3, t4, t5⟩
  · rw [if_pos (by rw [c1]), c2]
  · rw [if_neg (fun q => c1 ((pI_inj _ (by omega) _ (by omega)).mp q).symm), t2]
    refine jFind_at ?_ 5 0 (by omega) (by omega) (fun t' q1 q2 => ?_)
    · rw [decide_eq_true t4, Bool.and_true]
      exact t3
    · cases c : jTurn N sf (jLT N kf ou) 0 t' L
      · rfl
      · rw [decide_eq_false (t5 t' q2 c)]; rfl
theorem ePlay {N : Nat} {kf sf r : Nat → Int32} (h : eK N kf sf r) {ou : Int32} {L B : Nat} (hL : L < 7) (hB : B < 6) (hV : eVL N L) (b wh : Int32) : jPlay N kf sf ou L B b wh = mPlay r N ou (eC L B) b wh := by
  unfold jPlay mPlay
  by_cases c : b < 1 ∨ 6 < b ∨ (¬ wh = 0 ∧ ¬ wh = 1)
  · rw [if_pos c, if_neg]
    unfold mIn
    simp only [Bool.and_eq_true, decide_eq_true_eq]
    grind
  · rw [if_neg c, if_pos (show (mIn b 1 6 && mIn wh 0 1) = true by
      unfold mIn
      simp only [Bool.and_eq_true, decide_eq_true_eq]
      grind)]
    by_cases hN : N = 0
    · rw [if_pos hN, if_pos (by omega)]
    · rw [if_neg hN, if_neg (by omega)]
      obtain ⟨k, k1, k2, rfl⟩ := z_rng1 (b := b) (Int32.not_lt.mp (fun q => c (Or.inl q))) (Int32.not_lt.mp (fun q => c (Or.inr (Or.inl q))))
      rw [z_nat (by omega)]
      have := ePlayV h (ou := ou) hL hB hV k1
      unfold mPlayV
      rw [this.1, this.2]
