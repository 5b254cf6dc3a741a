/-! the digest -/
theorem jSays_congr {F F' : Nat → Int32} {h : Int64} : ∀ k, (∀ i, i < k → F i = F' i) → jSays F k h = jSays F' k h
  | 0, _ => rfl
  | k + 1, e => by rw [jSays, jSays, jSays_congr k (fun i hi => e i (by omega)), e k (by omega)]
theorem jDS_congr {G G' : Nat → Nat → Int32} {E E' : Nat → Int32} {h : Int64} : ∀ k, (∀ s, s < k → (∀ w, w < 6 → G s w = G' s w) ∧ E s = E' s) → jDS G E k h = jDS G' E' k h
  | 0, _ => rfl
  | k + 1, e => by rw [jDS, jDS, jDS_congr k (fun i hi => e i (by omega)), jSays_congr 6 (e k (by omega)).1, (e k (by omega)).2]
theorem jTwo_congr {P P' Q Q' : Nat → Int32} {h : Int64} : ∀ k, (∀ i, i < k → P i = P' i ∧ Q i = Q' i) → jTwo P Q k h = jTwo P' Q' k h
  | 0, _ => rfl
  | k + 1, e => by rw [jTwo, jTwo, jTwo_congr k (fun i hi => e i (by omega)), (e k (by omega)).1, (e k (by omega)).2]
theorem mIn16 : ∀ b : Nat, b < 4 → mIn (nI (b + 1)) 1 6 = true := by decide
theorem mIn06 : ∀ b : Nat, b < 5 → mIn (nI b) 0 6 = true := by decide
theorem eDigest {N n t : Nat} {kf sf r fw ftw fts he f f' : Nat → Int32} (h : eK N kf sf r) (hw : ∀ s, s < N → r (3 * s + 2) = fw s) (hh : eH t ftw fts he) (hf : ∀ i, i < n → f i = f' i) {ou pt si en w0 w1 br cr : Int32} {L B : Nat} (hL : L < 7) (hB : B < 6) (hV : eVL N L) :
    jDigest N n (fun sx wq => jSeat N kf sf ou (pI L) (pI B) fw (nI sx) (nI wq)) (fun sx => jGet N kf ou L (pI B) (nI sx) (nI 1)) (fun b => jPlay N kf sf ou L B (nI (b + 1)) (nI 0)) (fun b => jPlay N kf sf ou L B (nI (b + 1)) (nI 1)) (fun b => jRows N kf ou L B t ftw fts (nI b) (nI 0)) (fun b => jRows N kf ou L B t ftw fts (nI b) (nI 1)) (jWhen N kf ou L B t ftw fts) f (fun wq => jCount N n pt (pI L) (pI B) si en w0 w1 br (nI t) cr (nI wq))
    = jDigest N n (fun sx wq => mTell r N ou (eC L B) sx (nI wq)) (fun sx => mFirst r N ou (eC L B) (nI sx)) (fun b => mPlayV r N ou (b + 1) (eC L B) (nI 0)) (fun b => mPlayV r N ou (b + 1) (eC L B) (nI 1)) (fun b => mRowsV r N ou he t (eC L B) b (nI 0)) (fun b => mRowsV r N ou he t (eC L B) b (nI 1)) (mWhenV r N ou he t (eC L B)) f' (fun wq => mCount N n pt (eC L B) si en w0 w1 br t cr (nI wq)) := by
  have h5 := h.1
  have d1 : jDS (fun sx wq => jSeat N kf sf ou (pI L) (pI B) fw (nI sx) (nI wq)) (fun sx => jGet N kf ou L (pI B) (nI sx) (nI 1)) N 907 = jDS (fun sx wq => mTell r N ou (eC L B) sx (nI wq)) (fun sx => mFirst r N ou (eC L B) (nI sx)) N 907 := by
    refine jDS_congr N (fun s hs => ⟨fun w hw' => ?_, ?_⟩)
    · rw [eSeat h hw hL hB hV]
      unfold mSeat
      rw [if_pos (mIn_nI hs h5), z_nat (by omega)]
    · rw [eGet h hL hB hV]
      unfold mGet
      rw [if_pos (mIn_nI hs h5), if_pos (show mIn (nI 1) 0 1 = true by decide), if_neg (show ¬ nI 1 = 0 by decide)]
  have c1 : ∀ x, jSays (fun wq => jCount N n pt (pI L) (pI B) si en w0 w1 br (nI t) cr (nI wq)) 12 x = jSays (fun wq => mCount N n pt (eC L B) si en w0 w1 br t cr (nI wq)) 12 x := fun x => jSays_congr 12 (fun i _ => eCount hL hB _)
  unfold jDigest
  rw [c1, d1]
  refine congrArg _ ?_
  rw [jSays_congr n hf]
  refine congrArg _ ?_
  by_cases hN : 0 < N
  · rw [if_pos hN, if_pos hN]
    have p1 : ∀ x, jTwo (fun b => jPlay N kf sf ou L B (nI (b + 1)) (nI 0)) (fun b => jPlay N kf sf ou L B (nI (b + 1)) (nI 1)) 4 x = jTwo (fun b => mPlayV r N ou (b + 1) (eC L B) (nI 0)) (fun b => mPlayV r N ou (b + 1) (eC L B) (nI 1)) 4 x := fun x => jTwo_congr 4 (fun b hb => by
      rw [ePlay h hL hB hV, ePlay h hL hB hV]
      unfold mPlay
      rw [mIn16 b hb, show mIn (nI 0) 0 1 = true from by decide, show mIn (nI 1) 0 1 = true from by decide, if_pos (show (true && true) = true from rfl), if_pos (show (true && true) = true from rfl), if_neg (by omega), if_neg (by omega), z_nat (by omega)]
      exact ⟨rfl, rfl⟩)
    have r1 : ∀ x, jTwo (fun b => jRows N kf ou L B t ftw fts (nI b) (nI 0)) (fun b => jRows N kf ou L B t ftw fts (nI b) (nI 1)) 5 x = jTwo (fun b => mRowsV r N ou he t (eC L B) b (nI 0)) (fun b => mRowsV r N ou he t (eC L B) b (nI 1)) 5 x := fun x => jTwo_congr 5 (fun b hb => by
      rw [eRows h hh hL hB hV, eRows h hh hL hB hV]
      unfold mRowsR
      rw [mIn06 b hb, show mIn (nI 0) 0 1 = true from by decide, show mIn (nI 1) 0 1 = true from by decide, if_pos (show (true && true) = true from rfl), if_pos (show (true && true) = true from rfl), if_neg (by omega), if_neg (by omega), z_nat (by omega)]
      exact ⟨rfl, rfl⟩)
    rw [p1, r1, eWhen h hh hL hB hV]
    unfold mWhen
    rw [if_neg (by omega)]
  · rw [if_neg hN, if_neg hN]
