/-! a breath -/
def gBr (c : Nat → Bool) : Nat → Int32 × Int32 × Int32
  | 0 => (0, 0, -1)
  | i + 1 => if c i then ((gBr c i).1 + 1, (gBr c i).2.1 ||| (1 <<< (nI i &&& 31)), nI i) else gBr c i
def gB (c : Nat → Bool) : Nat → Int32
  | 0 => 0
  | i + 1 => gB c i ||| (if c i then 1 <<< (nI i &&& 31) else 0)
theorem gB_congr {c c' : Nat → Bool} : ∀ n, (∀ i, i < n → c i = c' i) → gB c n = gB c' n
  | 0, _ => rfl
  | n + 1, h => by rw [gB, gB, gB_congr n (fun i hi => h i (by omega)), h n (by omega)]
theorem gB_tail {c : Nat → Bool} {n : Nat} : ∀ d, (∀ i, n ≤ i → i < n + d → c i = false) → gB c (n + d) = gB c n
  | 0, _ => rfl
  | d + 1, h => by
    rw [← Nat.add_assoc, gB, gB_tail d (fun i h1 h2 => h i h1 (by omega)), h (n + d) (by omega) (by omega), if_neg (by decide), Int32.or_zero]
theorem gBr_1 {c : Nat → Bool} : ∀ n, (gBr c n).2.1 = gB c n
  | 0 => rfl
  | n + 1 => by
    rw [gBr, gB, ← gBr_1 n]
    by_cases e : c n = true
    · rw [if_pos e, if_pos e]
    · rw [if_neg e, if_neg e, Int32.or_zero]
theorem jBr_g {N : Nat} {kf : Nat → Int32} {ou la who : Int32} : ∀ n, jBr N kf ou la who n = gBr (fun i => jIsIn (nI i) who && jCounts N kf (nI i) la ou) n
  | 0 => rfl
  | n + 1 => by rw [jBr, gBr, jBr_g n]
theorem mBits_g {r : Nat → Int32} {ou who : Int32} {k : Nat} : ∀ n, mBits r ou who k n = gB (fun s => decide ((who >>> (nI s &&& 31)) &&& 1 = 1) && mCounts r ou s k) n
  | 0 => rfl
  | n + 1 => by
    rw [mBits, gB, mBits_g n]
    refine congrArg _ (z_ifc ?_)
    simp only [Bool.and_eq_true, decide_eq_true_eq]
def cB (c0 c1 c2 c3 c4 : Bool) : Nat → Bool
  | 0 => c0
  | 1 => c1
  | 2 => c2
  | 3 => c3
  | 4 => c4
  | _ => false
def cW (g : Int32 × Int32 × Int32) (c : Nat → Bool) : Bool :=
  decide (mOnes g.2.1 8 = g.1) && (decide (g.1 = 0) || (decide (1 < g.1) && !decide (g.1 = 1)) || (decide (g.1 = 1) && ((c 0 && decide (g.2 = (1 <<< (nI 0 &&& 31), nI 0))) || (c 1 && decide (g.2 = (1 <<< (nI 1 &&& 31), nI 1))) || (c 2 && decide (g.2 = (1 <<< (nI 2 &&& 31), nI 2))) || (c 3 && decide (g.2 = (1 <<< (nI 3 &&& 31), nI 3))) || (c 4 && decide (g.2 = (1 <<< (nI 4 &&& 31), nI 4))))))
theorem cW_all : ∀ c0 c1 c2 c3 c4 : Bool, cW (gBr (cB c0 c1 c2 c3 c4) 5) (cB c0 c1 c2 c3 c4) = true := by decide
theorem gBr_5 (c : Nat → Bool) : gBr c 5 = gBr (cB (c 0) (c 1) (c 2) (c 3) (c 4)) 5 := rfl
theorem gBr_w (c : Nat → Bool) : mOnes (gBr c 5).2.1 8 = (gBr c 5).1 ∧ ((gBr c 5).1 = 0 ∨ (1 < (gBr c 5).1 ∧ ¬ (gBr c 5).1 = 1) ∨ ((gBr c 5).1 = 1 ∧ ∃ x, x < 5 ∧ c x = true ∧ (gBr c 5).2 = (1 <<< (nI x &&& 31), nI x))) := by
  have h := cW_all (c 0) (c 1) (c 2) (c 3) (c 4)
  rw [← gBr_5] at h
  unfold cW at h
  simp only [Bool.and_eq_true, Bool.or_eq_true, Bool.not_eq_true', decide_eq_true_eq, decide_eq_false_iff_not] at h
  obtain ⟨h1, h2⟩ := h
  refine ⟨h1, ?_⟩
  rcases h2 with (q | q) | ⟨q, q2⟩
  · exact Or.inl q
  · exact Or.inr (Or.inl q)
  · refine Or.inr (Or.inr ⟨q, ?_⟩)
    rcases q2 with (((w | w) | w) | w) | w
    · exact ⟨0, by omega, w.1, w.2⟩
    · exact ⟨1, by omega, w.1, w.2⟩
    · exact ⟨2, by omega, w.1, w.2⟩
    · exact ⟨3, by omega, w.1, w.2⟩
    · exact ⟨4, by omega, w.1, w.2⟩
theorem bit_inj : ∀ a : Nat, a < 5 → ∀ b : Nat, b < 5 → ((1 : Int32) <<< (nI a &&& 31) = 1 <<< (nI b &&& 31) ↔ a = b) := by decide
theorem mStep_one {N x k : Nat} {r : Nat → Int32} (h5 : N ≤ 5) (hx : x < N) : ∀ s, s ≤ N → mStep N (1 <<< (nI x &&& 31)) k r s = if x < s then (mBeh r N x k, upd r (3 * x + 2) (r (3 * x + 2) + 1)) else (k, r)
  | 0, _ => by rw [if_neg (by omega)]; rfl
  | s + 1, hs => by
    rw [mStep, mStep_one h5 hx s (by omega)]
    by_cases e : x = s
    · subst e
      rw [if_pos rfl, if_neg (by omega), if_pos (by omega)]
    · rw [if_neg (fun z => e ((bit_inj x (by omega) s (by omega)).mp z))]
      by_cases q : x < s
      · rw [if_pos q, if_pos (by omega)]
      · rw [if_neg q, if_neg (by omega)]
/-- both trials, the same -/
def eT (N : Nat) (kf sf : Nat → Int32) (p : Nat) (g : jT) (g' : mT) : Prop :=
  ∃ L B a, L < 7 ∧ B < 6 ∧ eVL N L ∧ eVB N B ∧ a < p ∧ g.1 = pI L ∧ g.2.1 = pI B ∧ g'.1 = eC L B ∧ g'.2.1 = g.2.2.1 ∧ g.2.2.2.1 = nI a ∧ g'.2.2.1 = nI a ∧ g'.2.2.2.1 = g.2.2.2.2.1 ∧ g'.2.2.2.2.1 = g.2.2.2.2.2.1 ∧ g'.2.2.2.2.2.1 = g.2.2.2.2.2.2.1 ∧ g'.2.2.2.2.2.2.1 = g.2.2.2.2.2.2.2.1 ∧ eK N kf sf g'.2.2.2.2.2.2.2 ∧ ∀ s, s < N → g'.2.2.2.2.2.2.2 (3 * s + 2) = g.2.2.2.2.2.2.2.2 s
theorem eWon {N : Nat} {kf sf r : Nat → Int32} (h : eK N kf sf r) {L B : Nat} (hL : L < 7) (hB : B < 6) (hb : eVB N B) {v : Int32} (hv : v = 0 ∨ v = 1) (w : Int32) : mWon v r (eC L B) w = jWon v (jKind N sf (pI B)) w := by
  unfold mWon jWon
  rw [eC_mod (by omega)]
  by_cases z : B = 0
  · subst z
    rw [if_neg (fun q => q.1 rfl), if_neg]
    · exact Int32.add_zero w
    · unfold jKind
      rw [if_neg (fun q => absurd q.1 (by decide))]
      rcases hv with e | e <;> subst e <;> decide
  · unfold eVB at hb
    have e : eB B = B - 1 := by unfold eB; rw [if_neg z]
    rw [show pI B = nI (B - 1) from by rw [pI_up]; exact congrArg pI (by omega), jKind_nI (show B - 1 < N by omega) h.1, e, (h.2 (B - 1) (by omega)).2.1]
    by_cases q : sf (B - 1) = v
    · rw [if_pos ⟨by omega, q⟩, if_pos q]
    · rw [if_neg (fun z => q z.2), if_neg q]
      exact Int32.add_zero w
theorem eBreath {N : Nat} {kf sf : Nat → Int32} {p : Nat} {g : jT} {g' : mT} (hp : p ≤ 9) (who : Int32) (h : eT N kf sf p g g') :
    eT N kf sf p (jBreatheT N kf sf (nI p) who g) (mGoesT N (nI p) who g') ∧ mMany N g'.2.2.2.2.2.2.2 g'.2.1 who g'.1 = (jBr N kf g.2.2.1 g.1 who 5).1 := by
  obtain ⟨la, be, ou, si, en, w0, w1, br, fw⟩ := g
  obtain ⟨k, ou', si', en', w0', w1', br', r⟩ := g'
  obtain ⟨L, B, a, hL, hB, hV, hb, ha, e1, e2, e3, e4, e5, e6, e7, e8, e9, e10, hK, hw⟩ := h
  dsimp only at e1 e2 e3 e4 e5 e6 e7 e8 e9 e10 hK hw
  subst e1 e2 e3
  subst e5 e6
  replace e4 := e4.symm
  replace e7 := e7.symm
  replace e8 := e8.symm
  replace e9 := e9.symm
  replace e10 := e10.symm
  subst e4 e7 e8 e9 e10
  have h5 := hK.1
  have hc : ∀ i, i < N → (fun i => jIsIn (nI i) who && jCounts N kf (nI i) (pI L) ou) i = (fun s => decide ((who >>> (nI s &&& 31)) &&& 1 = 1) && mCounts r ou s (eC L B)) i := fun i hi => by
    dsimp only
    rw [eIsIn (by omega), eCounts hK (B := B) ou hi hL (by omega) hV]
  have hbits : mBits r ou who (eC L B) N = (jBr N kf ou (pI L) who 5).2.1 := by
    rw [jBr_g, gBr_1, mBits_g, ← gB_congr N hc, show (5 : Nat) = N + (5 - N) from by omega, gB_tail (5 - N) (fun i h1 h2 => by
      rw [eCounts_no (by omega) (by omega), Bool.and_false])]
  have hg := gBr_w (fun i => jIsIn (nI i) who && jCounts N kf (nI i) (pI L) ou)
  rw [← jBr_g] at hg
  obtain ⟨m1, m2⟩ := hg
  have hm : mMany N r ou who (eC L B) = (jBr N kf ou (pI L) who 5).1 := by
    unfold mMany
    rw [hbits, m1]
  refine ⟨?_, hm⟩
  unfold jBreatheT mGoesT jBreathe mGoes mMid
  dsimp only
  rw [hm]
  have hp0 : ¬ (0 : Int32) = nI p := fun q => by
    have := (nI_eq (a := 0) (b := p) (by omega) (by omega)).mp q
    omega
  rcases m2 with z | ⟨z1, z2⟩ | ⟨z, x, hx, cx, gx⟩
  · -- nobody
    rw [if_pos z, if_pos z, z, if_neg (show ¬ (1 : Int32) < 0 by decide), if_neg (show ¬ (0 : Int32) = 1 by decide), if_neg (show ¬ (0 : Int32) = 1 by decide), Int32.or_zero]
    unfold jQuiet mEnd
    dsimp only
    rw [nI_1]
    have e : (nI p ≤ nI (a + 1)) ↔ (nI (a + 1) = nI p) := by
      rw [Int32.le_iff_toInt_le, nI_toInt (by omega), nI_toInt (by omega), nI_eq (by omega) (by omega)]
      omega
    by_cases q : nI (a + 1) = nI p
    · rw [if_pos (e.mpr q), if_pos q]
      refine ⟨0, 0, 0, by omega, by omega, Or.inl (Nat.zero_le _), Nat.zero_le _, by omega, rfl, rfl, rfl, rfl, rfl, rfl, rfl, ?_, ?_, rfl, hK, hw⟩
      · exact eWon hK hL hB hb (Or.inl rfl) w0
      · exact eWon hK hL hB hb (Or.inr rfl) w1
    · rw [if_neg (fun w => q (e.mp w)), if_neg q]
      have : a + 1 < p := by
        have : ¬ a + 1 = p := fun w => q (by rw [w])
        omega
      exact ⟨L, B, a + 1, hL, hB, hV, hb, this, rfl, rfl, rfl, rfl, rfl, rfl, rfl, rfl, rfl, rfl, hK, hw⟩
  · -- more than one
    have z0 : ¬ (jBr N kf ou (pI L) who 5).1 = 0 := fun w => by rw [w] at z1; exact absurd z1 (by decide)
    rw [if_neg z0, if_neg z2, if_neg z2, if_pos z1, if_neg z0, if_neg z2]
    unfold mEnd
    dsimp only
    rw [if_neg hp0, hbits]
    exact ⟨L, B, 0, hL, hB, hV, hb, by omega, rfl, rfl, rfl, rfl, rfl, rfl, rfl, rfl, rfl, rfl, hK, hw⟩
  · -- one
    have hxN : x < N := by
      by_cases c : x < N
      · exact c
      · rw [eCounts_no c hx, Bool.and_false] at cx
        cases cx
    have g1 : (jBr N kf ou (pI L) who 5).2.1 = 1 <<< (nI x &&& 31) := congrArg Prod.fst gx
    have g2 : (jBr N kf ou (pI L) who 5).2.2 = nI x := congrArg Prod.snd gx
    rw [z, if_neg (show ¬ (1 : Int32) = 0 by decide), if_pos rfl, if_pos rfl, if_pos rfl, if_neg (show ¬ (1 : Int32) < 1 by decide), if_neg (show ¬ (1 : Int32) = 0 by decide), Int32.or_zero, hbits, g1, g2, mStep_one h5 hxN N (Nat.le_refl _), if_pos hxN]
    unfold mEnd jSpeak
    dsimp only
    rw [if_neg hp0, jPut_nI hx (by omega), jAt_nI hx (by omega)]
    have hK' : eK N kf sf (upd r (3 * x + 2) (r (3 * x + 2) + 1)) := ⟨h5, fun s hs => by
      have := hK.2 s hs
      unfold upd
      rw [if_neg (by omega), if_neg (by omega)]
      exact this⟩
    have hw' : ∀ s, s < N → upd r (3 * x + 2) (r (3 * x + 2) + 1) (3 * s + 2) = upd fw x (fw x + 1) s := fun s hs => by
      unfold upd
      by_cases c : s = x
      · subst c; rw [if_pos rfl, if_pos rfl, hw s hs]
      · rw [if_neg (by omega), if_neg c, hw s hs]
    by_cases c : L = x + 1
    · rw [if_pos ((pI_ne L (by omega) x (by omega)).mpr c), eBeh_self (by omega) c]
      exact ⟨L, B, 0, hL, hB, hV, hb, by omega, rfl, rfl, rfl, rfl, rfl, rfl, rfl, rfl, rfl, rfl, hK', hw'⟩
    · rw [if_neg (fun w => c ((pI_ne L (by omega) x (by omega)).mp w)), eBeh hK hxN hL (by omega) c, eLast h5 hxN, eBel h5 hxN hL]
      have a1 := eNx_7 (kf := kf) h5 hxN
      have a2 := eNb_6 (kf := kf) (L := L) h5 hxN
      exact ⟨eNx kf x, eNb N kf L x, 0, a1.1, a2.1, a1.2, a2.2, by omega, rfl, rfl, rfl, rfl, rfl, rfl, rfl, rfl, rfl, rfl, hK', hw'⟩
