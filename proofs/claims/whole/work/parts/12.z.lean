/-! the endings, begun on a row that holds anything: what stands in its first seven places is never read -/
def jEnd0z (z : Nat → Int32) : Nat → Nat → Int32
  | 0 => z
  | L + 1 => jPut 49 (jEnd0z z L) (nI (42 + L)) 1
/-- endings begun on z: k steps, each of a word (from 6 down) and a last one -/
def jEndz (z : Nat → Int32) (lt bt : Nat → Int32) (t : Nat) (ftw fts : Nat → Int32) : Nat → Nat → Int32
  | 0 => jEnd0z z 7
  | k + 1 => jPut 49 (jEndz z lt bt t ftw fts k) (nI (7 * (5 - k / 7) + k % 7)) (jE1 lt bt t ftw fts (6 - k / 7) (k % 7) (jEndz z lt bt t ftw fts k) 5)
theorem jEnd0_z : ∀ m, jEnd0 m = jEnd0z (fun _ => 0) m
  | 0 => rfl
  | m + 1 => by rw [jEnd0, jEnd0z, jEnd0_z m]
theorem jEnds_z {lt bt : Nat → Int32} {t : Nat} {ftw fts : Nat → Int32} : ∀ k, jEnds lt bt t ftw fts k = jEndz (fun _ => 0) lt bt t ftw fts k
  | 0 => jEnd0_z 7
  | k + 1 => by rw [jEnds, jEndz, jEnds_z k]
theorem jEnd0z_at {z : Nat → Int32} : ∀ m, m ≤ 7 → ∀ L, L < m → jEnd0z z m (42 + L) = 1
  | 0, _, L, hL => by omega
  | m + 1, hm, L, hL => by
    rw [jEnd0z, jPut_nI (by omega) (by omega)]
    unfold upd
    by_cases e : L = m
    · rw [if_pos (by omega)]
    · rw [if_neg (by omega)]
      exact jEnd0z_at m (by omega) L (by omega)
theorem jTo_rg {N : Nat} {kf bt : Nat → Int32} {ou : Int32} {t : Nat} {ftw fts : Nat → Int32} {x : Int32} {w s L : Nat} (hs : s < 5) (h : jOk (jLT N kf ou) bt t ftw fts x s L = true) : ∃ m, m < 7 ∧ jTo w (jLT N kf ou) s L = nI (7 * w + m) := by
  have hne : ¬ jLT N kf ou (5 * L + s) = -2 := by
    intro q
    unfold jOk at h
    rw [decide_eq_true q] at h
    cases h
  unfold jTo
  rw [jLT_at hs] at hne ⊢
  by_cases c : jCan N kf ou L s = true
  · rw [if_pos c]
    unfold jLast
    split
    · exact ⟨6, by omega, by rw [show (5 : Int32) = pI 6 from by decide]; exact rp_eq w 6⟩
    · exact ⟨s + 1, by omega, by rw [pI_up s]; exact rp_eq w (s + 1)⟩
  · rw [if_neg c] at hne
    exact absurd rfl hne
theorem jE1_z {N : Nat} {kf bt : Nat → Int32} {ou : Int32} {t : Nat} {ftw fts : Nat → Int32} {w L : Nat} {y y' : Nat → Int32} (hw : w ≤ 6) (h : ∀ m, m < 7 → y (7 * w + m) = y' (7 * w + m)) : ∀ s, s ≤ 5 → jE1 (jLT N kf ou) bt t ftw fts w L y s = jE1 (jLT N kf ou) bt t ftw fts w L y' s
  | 0, _ => rfl
  | s + 1, hs => by
    rw [jE1, jE1, jE1_z hw h s (by omega)]
    by_cases c : jOk (jLT N kf ou) bt t ftw fts (nI w) s L = true
    · obtain ⟨m, hm, e⟩ := jTo_rg (w := w) (by omega) c
      rw [if_pos c, if_pos c, e, jAt_nI (by omega) (by omega), jAt_nI (by omega) (by omega), h m hm]
    · rw [if_neg c, if_neg c]
theorem jEndz_in {N : Nat} {kf bt : Nat → Int32} {ou : Int32} {t : Nat} {ftw fts z z' : Nat → Int32} : ∀ k, k ≤ 35 →
    (∀ L, L < 7 → jEndz z (jLT N kf ou) bt t ftw fts k (42 + L) = jEndz z' (jLT N kf ou) bt t ftw fts k (42 + L)) ∧ (∀ w L, L < 7 → 1 ≤ w → w ≤ 5 → 7 * (5 - w) + L < k → jEndz z (jLT N kf ou) bt t ftw fts k (7 * w + L) = jEndz z' (jLT N kf ou) bt t ftw fts k (7 * w + L))
  | 0, _ => ⟨fun L hL => (jEnd0z_at 7 (Nat.le_refl _) L hL).trans (jEnd0z_at 7 (Nat.le_refl _) L hL).symm, fun w L _ _ _ h => by omega⟩
  | k + 1, hk => by
    obtain ⟨i1, i2⟩ := jEndz_in (N := N) (kf := kf) (bt := bt) (ou := ou) (t := t) (ftw := ftw) (fts := fts) (z := z) (z' := z') k (by omega)
    have hq : k / 7 ≤ 4 := by omega
    have hr : k % 7 < 7 := by omega
    have hy : ∀ L', L' < 7 → jEndz z (jLT N kf ou) bt t ftw fts k (7 * (6 - k / 7) + L') = jEndz z' (jLT N kf ou) bt t ftw fts k (7 * (6 - k / 7) + L') := fun L' hL' => by
      by_cases q : k / 7 = 0
      · rw [q]; exact i1 L' hL'
      · exact i2 (6 - k / 7) L' hL' (by omega) (by omega) (by omega)
    have hv := jE1_z (N := N) (kf := kf) (bt := bt) (ou := ou) (t := t) (ftw := ftw) (fts := fts) (w := 6 - k / 7) (L := k % 7) (by omega) hy 5 (Nat.le_refl _)
    rw [jEndz, jEndz, hv, jPut_nI (by omega) (by omega), jPut_nI (by omega) (by omega)]
    refine ⟨fun L hL => ?_, fun w L hL hw1 hw hlt => ?_⟩
    · unfold upd
      rw [if_neg (by omega), if_neg (by omega)]
      exact i1 L hL
    · unfold upd
      by_cases e : 7 * w + L = 7 * (5 - k / 7) + k % 7
      · rw [if_pos e, if_pos e]
      · rw [if_neg e, if_neg e]
        exact i2 w L hL hw1 hw (by omega)
theorem jEndz_35 {N : Nat} {kf bt : Nat → Int32} {ou : Int32} {t : Nat} {ftw fts z : Nat → Int32} {p : Nat} (h7 : 7 ≤ p) (h49 : p < 49) : jEndz z (jLT N kf ou) bt t ftw fts 35 p = jEnds (jLT N kf ou) bt t ftw fts 35 p := by
  rw [jEnds_z]
  obtain ⟨a, b⟩ := jEndz_in (N := N) (kf := kf) (bt := bt) (ou := ou) (t := t) (ftw := ftw) (fts := fts) (z := z) (z' := fun _ => 0) 35 (Nat.le_refl _)
  by_cases q : 42 ≤ p
  · have i := a (p - 42) (by omega)
    rw [show 42 + (p - 42) = p from by omega] at i
    exact i
  · have i := b (p / 7) (p % 7) (by omega) (by omega) (by omega) (by omega)
    rw [show 7 * (p / 7) + p % 7 = p from by omega] at i
    exact i
theorem jMost_z {N : Nat} {kf bt : Nat → Int32} {ou : Int32} {t : Nat} {ftw fts y z z' : Nat → Int32} {w : Nat} (h1 : 1 ≤ w) (h6 : w ≤ 6) (h : ∀ p, 7 ≤ p → p < 49 → z p = z' p) : ∀ k, jMost (jLT N kf ou) bt t ftw fts y z w k = jMost (jLT N kf ou) bt t ftw fts y z' w k
  | 0 => rfl
  | k + 1 => by
    rw [jMost, jMost, jMost_z h1 h6 h k]
    by_cases c : jOk (jLT N kf ou) bt t ftw fts (nI w) (k % 5) (k / 5) = true
    · obtain ⟨m, hm, e⟩ := jTo_rg (w := w) (by omega) c
      rw [if_pos c, if_pos c, e, jAt_nI (n := 49) (i := 7 * w + m) (f := z) (by omega) (by decide), jAt_nI (n := 49) (i := 7 * w + m) (f := z') (by omega) (by decide), h _ (by omega) (by omega)]
    · rw [if_neg c, if_neg c]
theorem jLook_congr {f g : Nat → Int32} (h : ∀ w, 1 ≤ w → w ≤ 6 → f w = g w) : ∀ k, k ≤ 5 → jLook f k = jLook g k
  | 0, _ => by rw [jLook, jLook, h 1 (by omega) (by omega)]
  | k + 1, hk => by rw [jLook, jLook, jLook_congr h k (by omega), h (k + 2) (by omega) (by omega)]
theorem jLook_z {N : Nat} {kf : Nat → Int32} {ou : Int32} {t : Nat} {ftw fts z : Nat → Int32} {L B : Nat} : jLook (fun w => (jMost (jLT N kf ou) (jBT N kf ou) t ftw fts (jWay (jLT N kf ou) (jBT N kf ou) t ftw fts (jWay0 t ftw fts L B) 210) (jEndz z (jLT N kf ou) (jBT N kf ou) t ftw fts 35) w 35).2) 5 = jLook (fun w => (jMost (jLT N kf ou) (jBT N kf ou) t ftw fts (jWay (jLT N kf ou) (jBT N kf ou) t ftw fts (jWay0 t ftw fts L B) 210) (jEnds (jLT N kf ou) (jBT N kf ou) t ftw fts 35) w 35).2) 5 :=
  jLook_congr (fun w h1 h6 => congrArg (fun q => q.2) (jMost_z h1 h6 (fun p a b => jEndz_35 a b) 35)) 5 (Nat.le_refl _)
