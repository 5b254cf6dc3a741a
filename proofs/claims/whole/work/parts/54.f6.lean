/-! hearing, counts, a court -/
theorem eHearOk {N t : Nat} (h5 : N ≤ 5) (x y : Int32) : jHearOk N t x y = mHeOk N t x y := by
  unfold jHearOk mHeOk
  rw [eHas h5]
  rfl
theorem eHearNo {N : Nat} (h5 : N ≤ 5) (x y : Int32) : jHearNo N x y = mHeNo N x y := by
  unfold jHearNo mHeNo
  rw [eHas h5]
  by_cases c : x < 0 ∨ 8 < x
  · rw [if_pos c, if_neg]
    unfold mIn
    simp only [Bool.and_eq_true, decide_eq_true_eq]
    grind
  · rw [if_neg c, if_pos (show mIn x 0 8 = true by
      unfold mIn
      simp only [Bool.and_eq_true, decide_eq_true_eq]
      grind)]
theorem eHeard1 {N t : Nat} {ftw fts he : Nat → Int32} (h5 : N ≤ 5) (h : eH t ftw fts he) {x y : Int32} (ok : mHeOk N t x y = true) : eH (t + 1) (upd ftw t x) (upd fts t y) (upd (upd he (2 * t) x) (2 * t + 1) (if y = -1 then 7 else y)) ∧ t < 8 := by
  unfold mHeOk at ok
  simp only [Bool.and_eq_true, Bool.or_eq_true, decide_eq_true_eq] at ok
  obtain ⟨⟨-, hy⟩, ht⟩ := ok
  refine ⟨fun i hi => ?_, ht⟩
  unfold upd
  by_cases e : i = t
  · subst e
    rw [if_neg (show ¬ 2 * i = 2 * i + 1 by omega), if_pos rfl, if_pos rfl, if_pos rfl, if_pos rfl]
    refine ⟨rfl, ?_⟩
    rcases hy with q | q
    · exact ⟨0, by omega, by rw [q]; rfl, by rw [if_pos q]; rfl⟩
    · obtain ⟨s, hs, rfl⟩ := mIn_seat q h5
      refine ⟨s + 1, by omega, pI_up s, ?_⟩
      rw [if_neg (nI_m1 (by omega))]
      unfold eB
      rw [if_neg (by omega)]
      rfl
  · have := h i (by omega)
    rw [if_neg (show ¬ 2 * i = 2 * t + 1 by omega), if_neg (show ¬ 2 * i = 2 * t by omega), if_neg e, if_neg e, if_neg (show ¬ 2 * i + 1 = 2 * t + 1 by omega), if_neg (show ¬ 2 * i + 1 = 2 * t by omega)]
    exact this
theorem eCount {N n t L B : Nat} {pt si en w0 w1 br cr : Int32} (hL : L < 7) (hB : B < 6) (wh : Int32) : jCount N n pt (pI L) (pI B) si en w0 w1 br (nI t) cr wh = mCount N n pt (eC L B) si en w0 w1 br t cr wh := by
  have e2 : (if eC L B / 8 = 7 then -1 else nI (eC L B / 8)) = pI L := by
    rw [eC_div (by omega)]
    unfold eL
    by_cases z : L = 0
    · subst z; rfl
    · rw [if_neg z, if_neg (by omega), pI_nI (by omega)]
  have e3 : (if eC L B % 8 = 7 then -1 else nI (eC L B % 8)) = pI B := by
    rw [eC_mod (by omega)]
    unfold eB
    by_cases z : B = 0
    · subst z; rfl
    · rw [if_neg z, if_neg (by omega), pI_nI (by omega)]
  unfold jCount mCount
  rw [e2, e3]
theorem eNames : ∀ N : Nat, N ≤ 5 → ∀ x : Int32, jNames N x = mIn x 0 (1 <<< (nI N &&& 31) - 1) := by
  intro N h x
  have h6 : N = 0 ∨ N = 1 ∨ N = 2 ∨ N = 3 ∨ N = 4 ∨ N = 5 := by omega
  unfold jNames mIn
  refine congrArg _ ?_
  rw [decide_eq_decide]
  rcases h6 with rfl | rfl | rfl | rfl | rfl | rfl
  · rw [show (1 : Int32) <<< (nI 0 &&& 31) = 1 from rfl, show (1 : Int32) - 1 = 0 from rfl]; grind
  · rw [show (1 : Int32) <<< (nI 1 &&& 31) = 2 from rfl, show (2 : Int32) - 1 = 1 from rfl]; grind
  · rw [show (1 : Int32) <<< (nI 2 &&& 31) = 4 from rfl, show (4 : Int32) - 1 = 3 from rfl]; grind
  · rw [show (1 : Int32) <<< (nI 3 &&& 31) = 8 from rfl, show (8 : Int32) - 1 = 7 from rfl]; grind
  · rw [show (1 : Int32) <<< (nI 4 &&& 31) = 16 from rfl, show (16 : Int32) - 1 = 15 from rfl]; grind
  · rw [show (1 : Int32) <<< (nI 5 &&& 31) = 32 from rfl, show (32 : Int32) - 1 = 31 from rfl]; grind
/-- what a whole page holds -/
theorem eRead {f : Nat → Int32} {n : Nat} (hf : jFF f n 0 0 0 = n) : ∀ k, k ≤ n → ∃ d r rp g, mInv f n k d r rp g ∧ (∀ s, s < r → ¬ jKindOf (f (3 * s)) = -1 ∧ (f (3 * s + 1) = 48 ∨ f (3 * s + 1) = 49)) ∧ (d = 1 → ¬ jKindOf (f (3 * r)) = -1) ∧ (d = 4 → 49 ≤ f (3 * r) ∧ f (3 * r) ≤ 57)
  | 0, _ => ⟨0, 0, 0, fun _ => 0, mInv_0 f n 0 _, fun s hs => by omega, fun h => by omega, fun h => by omega⟩
  | k + 1, hk => by
    obtain ⟨d, r, rp, g, h, a1, a2, a3⟩ := eRead hf k (by omega)
    have hne : ∃ s : Int32, (s = nI (if d = 1 then r + 1 else r) ∨ d = 0) ∧ ¬ jDue (nI d) (f k) s = 5 := Classical.byContradiction (fun q => by
      have := mRej h (by omega) (fun s hs => Classical.byContradiction (fun z => q ⟨s, hs, z⟩))
      omega)
    obtain ⟨s, hs, hd⟩ := hne
    have h' := h
    obtain ⟨h1, h2, h3, h4, h5, h6, h7, h8, h9, -⟩ := h'
    have hd5 : d = 0 ∨ d = 1 ∨ d = 2 ∨ d = 3 ∨ d = 4 := by omega
    rcases hd5 with e | e | e | e | e
    · subst e
      have c : ¬ jKindOf (f k) = -1 := fun q => hd (by
        unfold jDue
        rw [if_pos (show nI 0 = 0 from rfl), if_pos q])
      have hk3 := h5 rfl
      refine ⟨1, r, rp, _, mAcc0 h (by omega) c, a1, fun _ => by rw [← hk3]; exact c, fun q => by omega⟩
    · subst e
      have c : f k = 48 ∨ f k = 49 := Classical.byContradiction (fun q => hd (by
        unfold jDue
        rw [if_neg (show ¬ nI 1 = 0 by decide), if_pos (show nI 1 = 1 from rfl), if_neg q]))
      have hk3 := h6 rfl
      refine ⟨2, r + 1, rp, _, mAcc1 h (by omega) c, fun s hs => ?_, fun q => by omega, fun q => by omega⟩
      by_cases z : s = r
      · subst z; exact ⟨a2 rfl, by rw [← hk3]; exact c⟩
      · exact a1 s (by omega)
    · subst e
      have hs2 : s = nI r := by
        rcases hs with q | q
        · rw [if_neg (by omega)] at q; exact q
        · omega
      have hk3 := h7 rfl
      subst hs2
      unfold jDue at hd
      rw [if_neg (show ¬ nI 2 = 0 by decide), if_neg (show ¬ nI 2 = 1 by decide), if_pos (show nI 2 = 2 from rfl)] at hd
      unfold jDueM at hd
      by_cases c : f k = 44 ∧ nI r < 5
      · have hr5 : r < 5 := by
          have := c.2
          rw [Int32.lt_iff_toInt_lt, nI_toInt (by omega)] at this
          have e5 : (5 : Int32).toInt = 5 := by decide
          omega
        exact ⟨0, r, rp, g, mAcc2a h (by omega) c.1 hr5, a1, fun q => by omega, fun q => by omega⟩
      · rw [if_neg c] at hd
        by_cases c2 : f k = 59 ∧ 2 ≤ nI r
        · have hr2 : 2 ≤ r := by
            have := c2.2
            rw [Int32.le_iff_toInt_le, nI_toInt (by omega)] at this
            have e5 : (2 : Int32).toInt = 2 := by decide
            omega
          exact ⟨3, r, rp, g, mAcc2b h (by omega) c2.1 hr2, a1, fun q => by omega, fun q => by omega⟩
        · rw [if_neg c2] at hd
          exact absurd rfl hd
    · subst e
      have c : 49 ≤ f k ∧ f k ≤ 57 := Classical.byContradiction (fun q => hd (by
        unfold jDue
        rw [if_neg (show ¬ nI 3 = 0 by decide), if_neg (show ¬ nI 3 = 1 by decide), if_neg (show ¬ nI 3 = 2 by decide), if_pos (show nI 3 = 3 from rfl), if_neg q]))
      have hk3 := (h8 rfl).1
      exact ⟨4, r, _, g, mAcc3 h (by omega) c, a1, fun q => by omega, fun _ => by rw [← hk3]; exact c⟩
    · subst e
      exact absurd (by
        unfold jDue
        rw [if_neg (show ¬ nI 4 = 0 by decide), if_neg (show ¬ nI 4 = 1 by decide), if_neg (show ¬ nI 4 = 2 by decide), if_neg (show ¬ nI 4 = 3 by decide)]) hd
theorem eWhole {f : Nat → Int32} {n : Nat} (hw : jWhole n f = true) : (∀ s, s < jSeats n → ¬ jKindOf (f (3 * s)) = -1 ∧ (f (3 * s + 1) = 48 ∨ f (3 * s + 1) = 49)) ∧ 49 ≤ f (n - 1) ∧ f (n - 1) ≤ 57 := by
  obtain ⟨d, r, rp, g, h, a1, a2, a3⟩ := eRead (jWhole_ff hw) n (Nat.le_refl _)
  obtain ⟨h1, h2, h3, h4, h5, h6, h7, h8, h9, h10, h11, h12, h13, h14⟩ := h
  unfold jWhole at hw
  simp only [Bool.and_eq_true, decide_eq_true_eq] at hw
  have hd := h14 hw.1.1 hw.1.2
  obtain ⟨e1, e2, e3, e4⟩ := h9 hd
  have es : jSeats n = r := by unfold jSeats; omega
  rw [es, show n - 1 = 3 * r from by omega]
  exact ⟨a1, a3 hd⟩
theorem eCourt {f r kf sf : Nat → Int32} {n : Nat} (hw : jWhole n f = true) : ∃ p, 1 ≤ p ∧ p ≤ 9 ∧ f (n - 1) - 48 = nI p ∧ eT (jSeats n) (jSitK n f kf) (jSitS n f sf) p (-1, -1, 0, 0, 0, 0, 0, 0, fun _ => 0) (63, 0, 0, 0, 0, 0, 0, mRows n f r) := by
  obtain ⟨c1, c2, c3⟩ := eWhole hw
  have hp : ∃ p : Nat, 1 ≤ p ∧ p ≤ 9 ∧ f (n - 1) - 48 = nI p := by
    obtain ⟨k, k1, k2, e⟩ := z_rng (lo := 49) (hi := 57) (b := f (n - 1)) (by decide) (by decide) c2 c3
    exact ⟨k - 48, by omega, by omega, by rw [e]; exact z_sub (b := 48) (by omega)⟩
  obtain ⟨p, p1, p2, p3⟩ := hp
  refine ⟨p, p1, p2, p3, 0, 0, 0, by omega, by omega, Or.inl (Nat.zero_le _), Nat.zero_le _, by omega, rfl, rfl, rfl, rfl, rfl, rfl, rfl, rfl, rfl, rfl, ⟨jSeats_le n, fun s hs => ?_⟩, fun s hs => ?_⟩
  · obtain ⟨k1, k2⟩ := c1 s hs
    have m0 : mRows n f r (3 * s) = jKindOf (f (3 * s)) := by
      unfold mRows
      rw [if_pos (by omega), if_pos (by omega)]
    have m1 : mRows n f r (3 * s + 1) = f (3 * s + 1) - 48 := by
      unfold mRows
      rw [if_pos (by omega), if_neg (by omega), if_pos (by omega)]
    have m2 : jSitK n f kf s = jKindOf (f (3 * s)) := if_pos hs
    have m3 : jSitS n f sf s = f (3 * s + 1) - 48 := if_pos hs
    rw [m2, m3]
    refine ⟨m0, m1, ?_, ?_⟩
    · unfold jKindOf at k1 ⊢
      grind
    · rcases k2 with e | e
      · left; rw [e]; rfl
      · right; rw [e]; rfl
  · show mRows n f r (3 * s + 2) = 0
    unfold mRows
    rw [if_pos (by omega), if_neg (by omega), if_neg (by omega)]
