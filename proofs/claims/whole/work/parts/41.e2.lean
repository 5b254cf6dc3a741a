/-! by how few words: what both sides meet -/
def eR (N : Nat) (kf : Nat → Int32) (ou : Int32) (X : Nat) : Nat → Nat → Nat → Prop
  | 0, _, B => B = X
  | n + 1, L, _ => ∃ s, s < N ∧ eCn N kf ou L s = true ∧ eR N kf ou X n (eNx kf s) (eNb N kf L s)
def eU (N : Nat) (kf : Nat → Int32) (ou : Int32) (X : Nat) : Nat → Nat → Bool
  | 0, _ => false
  | i + 1, L => (List.range 5).any (fun s => eCn N kf ou L s && (decide (eNb N kf L s = X) || eU N kf ou X i (eNx kf s)))
theorem eCn_N {N : Nat} {kf : Nat → Int32} {ou : Int32} {L s : Nat} (h : eCn N kf ou L s = true) : s < N ∧ ¬ L = s + 1 := by
  unfold eCn at h
  simp only [Bool.and_eq_true, decide_eq_true_eq, Bool.not_eq_true', decide_eq_false_iff_not] at h
  exact h.1
theorem eR_any {N : Nat} {kf : Nat → Int32} {ou : Int32} {X n L B B' : Nat} (hn : 1 ≤ n) (h : eR N kf ou X n L B) : eR N kf ou X n L B' := by
  obtain ⟨m, rfl⟩ : ∃ m, n = m + 1 := ⟨n - 1, by omega⟩
  exact h
theorem eU_s {N : Nat} {kf : Nat → Int32} {ou : Int32} {X i L : Nat} (h5 : N ≤ 5) : eU N kf ou X (i + 1) L = true ↔ ∃ s, s < N ∧ eCn N kf ou L s = true ∧ (eNb N kf L s = X ∨ eU N kf ou X i (eNx kf s) = true) := by
  rw [eU, List.any_eq_true]
  constructor
  · rintro ⟨s, -, hs⟩
    simp only [Bool.and_eq_true, Bool.or_eq_true, decide_eq_true_eq] at hs
    exact ⟨s, (eCn_N hs.1).1, hs.1, hs.2⟩
  · rintro ⟨s, h1, h2, h3⟩
    refine ⟨s, List.mem_range.mpr (by omega), ?_⟩
    simp only [Bool.and_eq_true, Bool.or_eq_true, decide_eq_true_eq]
    exact ⟨h2, h3⟩
theorem eU_iff {N : Nat} {kf : Nat → Int32} {ou : Int32} {X : Nat} (h5 : N ≤ 5) : ∀ (i L : Nat), eU N kf ou X i L = true ↔ ∃ n, 1 ≤ n ∧ n ≤ i ∧ eR N kf ou X n L 0
  | 0, L => by
    constructor
    · intro h; cases h
    · rintro ⟨n, h1, h2, -⟩; omega
  | i + 1, L => by
    rw [eU_s h5]
    constructor
    · rintro ⟨s, h1, h2, h3⟩
      rcases h3 with h3 | h3
      · exact ⟨1, by omega, by omega, s, h1, h2, h3⟩
      · obtain ⟨n, q1, q2, q3⟩ := (eU_iff h5 i (eNx kf s)).mp h3
        exact ⟨n + 1, by omega, by omega, s, h1, h2, eR_any q1 q3⟩
    · rintro ⟨n, q1, q2, q3⟩
      obtain ⟨m, rfl⟩ : ∃ m, n = m + 1 := ⟨n - 1, by omega⟩
      obtain ⟨s, h1, h2, h3⟩ := q3
      refine ⟨s, h1, h2, ?_⟩
      by_cases hm : m = 0
      · subst hm; exact Or.inl h3
      · exact Or.inr ((eU_iff h5 i (eNx kf s)).mpr ⟨m, by omega, by omega, eR_any (by omega) h3⟩)
theorem eU_mono {N : Nat} {kf : Nat → Int32} {ou : Int32} {X : Nat} (h5 : N ≤ 5) {i L : Nat} (h : eU N kf ou X i L = true) : eU N kf ou X (i + 1) L = true := by
  obtain ⟨n, h1, h2, h3⟩ := (eU_iff h5 i L).mp h
  exact (eU_iff h5 (i + 1) L).mpr ⟨n, h1, by omega, h3⟩
def eSt (N : Nat) (kf : Nat → Int32) (ou : Int32) (X j : Nat) : Prop := ∀ L, L < 7 → eU N kf ou X (j + 1) L = eU N kf ou X j L
theorem eU_st {N : Nat} {kf : Nat → Int32} {ou : Int32} {X j : Nat} (h5 : N ≤ 5) (h : eSt N kf ou X j) : ∀ m L, L < 7 → eU N kf ou X (j + m) L = eU N kf ou X j L
  | 0, _, _ => rfl
  | m + 1, L, hL => by
    rw [← h L hL, ← Nat.add_assoc, Bool.eq_iff_iff, eU_s h5, eU_s h5]
    constructor
    · rintro ⟨s, h1, h2, h3⟩
      exact ⟨s, h1, h2, h3.imp id (fun q => by rw [← eU_st h5 h m _ (eNx_7 h5 h1).1]; exact q)⟩
    · rintro ⟨s, h1, h2, h3⟩
      exact ⟨s, h1, h2, h3.imp id (fun q => by rw [eU_st h5 h m _ (eNx_7 h5 h1).1]; exact q)⟩
def eCard (N : Nat) (kf : Nat → Int32) (ou : Int32) (X i : Nat) : Nat := (eU N kf ou X i 0).toNat + (eU N kf ou X i 1).toNat + (eU N kf ou X i 2).toNat + (eU N kf ou X i 3).toNat + (eU N kf ou X i 4).toNat + (eU N kf ou X i 5).toNat + (eU N kf ou X i 6).toNat
theorem eU_nat {N : Nat} {kf : Nat → Int32} {ou : Int32} {X : Nat} (h5 : N ≤ 5) (i L : Nat) : (eU N kf ou X i L).toNat ≤ (eU N kf ou X (i + 1) L).toNat := by
  cases h : eU N kf ou X i L
  · exact Nat.zero_le _
  · rw [eU_mono h5 h]; exact Nat.le_refl _
theorem eCard_grow {N : Nat} {kf : Nat → Int32} {ou : Int32} {X : Nat} (h5 : N ≤ 5) : ∀ i, (∃ j, j < i ∧ eSt N kf ou X j) ∨ i ≤ eCard N kf ou X i
  | 0 => Or.inr (Nat.zero_le _)
  | i + 1 => by
    rcases eCard_grow h5 i with ⟨j, h1, h2⟩ | h
    · exact Or.inl ⟨j, by omega, h2⟩
    · by_cases hs : eSt N kf ou X i
      · exact Or.inl ⟨i, by omega, hs⟩
      · right
        have hne : ∃ L, L < 7 ∧ ¬ eU N kf ou X (i + 1) L = eU N kf ou X i L := Classical.byContradiction (fun q => hs (fun L hL => Classical.byContradiction (fun z => q ⟨L, hL, z⟩)))
        obtain ⟨L, hL, hq⟩ := hne
        have hlt : (eU N kf ou X i L).toNat + 1 ≤ (eU N kf ou X (i + 1) L).toNat := by
          cases h1 : eU N kf ou X i L
          · cases h2 : eU N kf ou X (i + 1) L
            · rw [h1, h2] at hq; exact absurd rfl hq
            · exact Nat.le_refl _
          · rw [h1, eU_mono h5 h1] at hq; exact absurd rfl hq
        have m0 := eU_nat (kf := kf) (ou := ou) (X := X) h5 i 0
        have m1 := eU_nat (kf := kf) (ou := ou) (X := X) h5 i 1
        have m2 := eU_nat (kf := kf) (ou := ou) (X := X) h5 i 2
        have m3 := eU_nat (kf := kf) (ou := ou) (X := X) h5 i 3
        have m4 := eU_nat (kf := kf) (ou := ou) (X := X) h5 i 4
        have m5 := eU_nat (kf := kf) (ou := ou) (X := X) h5 i 5
        have m6 := eU_nat (kf := kf) (ou := ou) (X := X) h5 i 6
        unfold eCard at h ⊢
        rcases (show L = 0 ∨ L = 1 ∨ L = 2 ∨ L = 3 ∨ L = 4 ∨ L = 5 ∨ L = 6 by omega) with rfl | rfl | rfl | rfl | rfl | rfl | rfl <;> omega
theorem eR_7 {N : Nat} {kf : Nat → Int32} {ou : Int32} {X n L : Nat} (h5 : N ≤ 5) (hn : 1 ≤ n) (hL : L < 7) (h : eR N kf ou X n L 0) : ∃ k, 1 ≤ k ∧ k ≤ 7 ∧ eR N kf ou X k L 0 := by
  have hc : ∃ j, j < 8 ∧ eSt N kf ou X j := by
    rcases eCard_grow (kf := kf) (ou := ou) (X := X) h5 8 with q | q
    · exact q
    · exfalso
      unfold eCard at q
      have b : ∀ x : Bool, x.toNat ≤ 1 := fun x => by cases x <;> decide
      have b0 := b (eU N kf ou X 8 0)
      have b1 := b (eU N kf ou X 8 1)
      have b2 := b (eU N kf ou X 8 2)
      have b3 := b (eU N kf ou X 8 3)
      have b4 := b (eU N kf ou X 8 4)
      have b5 := b (eU N kf ou X 8 5)
      have b6 := b (eU N kf ou X 8 6)
      omega
  obtain ⟨j, hj, hst⟩ := hc
  by_cases hn7 : n ≤ 7
  · exact ⟨n, hn, hn7, h⟩
  · have e1 : eU N kf ou X n L = true := (eU_iff h5 n L).mpr ⟨n, hn, Nat.le_refl n, h⟩
    have e2 := eU_st h5 hst (n - j) L hL
    have e3 := eU_st h5 hst (7 - j) L hL
    rw [show j + (n - j) = n from by omega] at e2
    rw [show j + (7 - j) = 7 from by omega] at e3
    exact (eU_iff h5 7 L).mp (by rw [e3, ← e2]; exact e1)
-- what both answer
def eFew (N : Nat) (kf : Nat → Int32) (ou : Int32) (X L B : Nat) (v : Int32) : Prop := (v = -1 ∧ ∀ n, ¬ eR N kf ou X n L B) ∨ ∃ n, n ≤ 7 ∧ v = nI n ∧ eR N kf ou X n L B ∧ ∀ m, m < n → ¬ eR N kf ou X m L B
theorem eFew_one {N : Nat} {kf : Nat → Int32} {ou : Int32} {X L B : Nat} {v v' : Int32} (h : eFew N kf ou X L B v) (h' : eFew N kf ou X L B v') : v = v' := by
  rcases h with ⟨a1, a2⟩ | ⟨n, a1, a2, a3, a4⟩
  · rcases h' with ⟨b1, b2⟩ | ⟨m, b1, b2, b3, b4⟩
    · rw [a1, b1]
    · exact absurd b3 (a2 m)
  · rcases h' with ⟨b1, b2⟩ | ⟨m, b1, b2, b3, b4⟩
    · exact absurd a3 (b2 n)
    · have : n = m := by
        rcases Nat.lt_trichotomy n m with q | q | q
        · exact absurd a3 (b4 n q)
        · exact q
        · exact absurd b3 (a4 m q)
      rw [a2, b2, this]
-- the class
def eSB (N : Nat) (kf : Nat → Int32) (ou : Int32) (X : Nat) (d : Nat → Nat) (L s : Nat) : Nat := if eCn N kf ou L s then (if eNb N kf L s = X then 1 else min 1000 (1 + d (eNx kf s))) else 1000
def eRow (N : Nat) (kf : Nat → Int32) (ou : Int32) (X : Nat) (d : Nat → Nat) (L : Nat) : Nat → Nat
  | 0 => 1000
  | s + 1 => min (eRow N kf ou X d L s) (eSB N kf ou X d L s)
def eD (N : Nat) (kf : Nat → Int32) (ou : Int32) (X : Nat) : Nat → Nat → Nat
  | 0 => fun _ => 1000
  | k + 1 => fun L => if L = k % 7 then eRow N kf ou X (eD N kf ou X k) (k % 7) 5 else eD N kf ou X k L
theorem eRow_le1 {N : Nat} {kf : Nat → Int32} {ou : Int32} {X : Nat} {d : Nat → Nat} {L : Nat} : ∀ m, eRow N kf ou X d L m ≤ 1000
  | 0 => Nat.le_refl _
  | m + 1 => Nat.le_trans (Nat.min_le_left _ _) (eRow_le1 m)
theorem eRow_le {N : Nat} {kf : Nat → Int32} {ou : Int32} {X : Nat} {d : Nat → Nat} {L s : Nat} : ∀ m, s < m → eRow N kf ou X d L m ≤ eSB N kf ou X d L s
  | 0, h => by omega
  | m + 1, h => by
    by_cases e : s = m
    · subst e; exact Nat.min_le_right _ _
    · exact Nat.le_trans (Nat.min_le_left _ _) (eRow_le m (by omega))
theorem eRow_ex {N : Nat} {kf : Nat → Int32} {ou : Int32} {X : Nat} {d : Nat → Nat} {L : Nat} : ∀ m, eRow N kf ou X d L m < 1000 → ∃ s, s < m ∧ eRow N kf ou X d L m = eSB N kf ou X d L s
  | 0, h => by simp [eRow] at h
  | m + 1, h => by
    rw [eRow] at h ⊢
    by_cases q : eSB N kf ou X d L m ≤ eRow N kf ou X d L m
    · exact ⟨m, by omega, by rw [Nat.min_eq_right q]⟩
    · rw [Nat.min_eq_left (by omega)] at h ⊢
      obtain ⟨s, h1, h2⟩ := eRow_ex m h
      exact ⟨s, by omega, h2⟩
theorem eD_le {N : Nat} {kf : Nat → Int32} {ou : Int32} {X : Nat} : ∀ k L, eD N kf ou X k L ≤ 1000
  | 0, _ => Nat.le_refl _
  | k + 1, L => by
    rw [eD]
    dsimp only
    split
    · exact eRow_le1 5
    · exact eD_le k L
theorem eD_sound {N : Nat} {kf : Nat → Int32} {ou : Int32} {X : Nat} : ∀ k L, eD N kf ou X k L < 1000 → 1 ≤ eD N kf ou X k L ∧ eR N kf ou X (eD N kf ou X k L) L 0
  | 0, L, h => by simp [eD] at h
  | k + 1, L, h => by
    rw [eD] at h ⊢
    dsimp only at h ⊢
    by_cases e : L = k % 7
    · rw [if_pos e] at h ⊢
      obtain ⟨s, h1, h2⟩ := eRow_ex 5 h
      rw [h2] at h ⊢
      unfold eSB at h ⊢
      rw [← e] at h ⊢
      by_cases c : eCn N kf ou L s = true
      · rw [if_pos c] at h ⊢
        by_cases q : eNb N kf L s = X
        · rw [if_pos q]
          exact ⟨by omega, s, (eCn_N c).1, c, q⟩
        · rw [if_neg q] at h ⊢
          have hd : eD N kf ou X k (eNx kf s) < 1000 := by omega
          obtain ⟨a1, a2⟩ := eD_sound k (eNx kf s) hd
          rw [Nat.min_eq_right (by omega), Nat.add_comm]
          exact ⟨by omega, s, (eCn_N c).1, c, eR_any a1 a2⟩
      · rw [if_neg c] at h
        omega
    · rw [if_neg e] at h ⊢
      exact eD_sound k L h
def eQ (N : Nat) (kf : Nat → Int32) (ou : Int32) (X i j : Nat) : Prop := ∀ n L, 1 ≤ n → L < 7 → (n ≤ i ∨ (L < j ∧ n ≤ i + 1)) → n ≤ 999 → eR N kf ou X n L 0 → eD N kf ou X (7 * i + j) L ≤ n
theorem eQ_j {N : Nat} {kf : Nat → Int32} {ou : Int32} {X i j : Nat} (h5 : N ≤ 5) (hj : j < 7) (h : eQ N kf ou X i j) : eQ N kf ou X i (j + 1) := by
  intro n L h1 hL h2 h9 hR
  rw [← Nat.add_assoc, eD]
  dsimp only
  rw [show (7 * i + j) % 7 = j from by omega]
  by_cases e : L = j
  · rw [if_pos e]
    subst e
    obtain ⟨m, rfl⟩ : ∃ m, n = m + 1 := ⟨n - 1, by omega⟩
    obtain ⟨s, q1, q2, q3⟩ := hR
    refine Nat.le_trans (eRow_le (s := s) 5 (by omega)) ?_
    unfold eSB
    rw [if_pos q2]
    by_cases q : eNb N kf L s = X
    · rw [if_pos q]; omega
    · rw [if_neg q]
      by_cases hm : m = 0
      · subst hm; exact absurd q3 q
      · have := h m (eNx kf s) (by omega) (eNx_7 h5 q1).1 (Or.inl (by omega)) (by omega) (eR_any (by omega) q3)
        omega
  · rw [if_neg e]
    exact h n L h1 hL (by omega) h9 hR
theorem eQ_0 {N : Nat} {kf : Nat → Int32} {ou : Int32} {X : Nat} (h5 : N ≤ 5) : ∀ i, eQ N kf ou X i 0
  | 0 => fun n L h1 hL h2 => by omega
  | i + 1 => by
    have a : eQ N kf ou X i 7 := eQ_j h5 (by omega) (eQ_j h5 (by omega) (eQ_j h5 (by omega) (eQ_j h5 (by omega) (eQ_j h5 (by omega) (eQ_j h5 (by omega) (eQ_j (j := 0) h5 (by omega) (eQ_0 h5 i)))))))
    intro n L h1 hL h2 h9 hR
    exact a n L h1 hL (by omega) h9 hR
theorem jMin_nI {a b : Nat} (ha : a < 2147483648) (hb : b < 2147483648) : jMin (nI a) (nI b) = nI (min a b) := by
  unfold jMin
  by_cases h : b < a
  · rw [if_pos (nI_lt h (by omega)), Nat.min_eq_right (by omega)]
  · rw [if_neg (nI_nlt (by omega) (by omega)), Nat.min_eq_left (by omega)]
theorem eSB_eq {N : Nat} {kf : Nat → Int32} {ou : Int32} {X L s : Nat} {st : Nat → Int32} {d : Nat → Nat} (h5 : N ≤ 5) (hL : L < 7) (hs : s < 5) (hX : X < 6) (hd : ∀ j, j < 7 → st j = nI (d j)) (hdl : ∀ j, d j ≤ 1000) : jSB (jLT N kf ou) (jBT N kf ou) st s L (pI X) = nI (eSB N kf ou X d L s) := by
  unfold jSB eSB
  by_cases c : eCn N kf ou L s = true
  · have hn := eCn_N c
    rw [if_neg (fun q => by rw [(eLT_no h5 hL hs).mp q] at c; cases c), if_pos c, eBT h5 hL hs, if_pos c, eLT h5 hL hs, if_pos c]
    have e : (pI (eNb N kf L s) = pI X) ↔ eNb N kf L s = X := pI_inj _ (by have := (eNb_6 (kf := kf) (L := L) h5 hn.1).1; omega) _ (by omega)
    by_cases q : eNb N kf L s = X
    · rw [if_pos (e.mpr q), if_pos q]
      rfl
    · rw [if_neg (fun z => q (e.mp z)), if_neg q, pI_s, jAt_nI (eNx_7 h5 hn.1).1 (by decide), hd _ (eNx_7 h5 hn.1).1]
      have hb := hdl (eNx kf s)
      show jMin (nI 1000) (nI 1 + nI (d (eNx kf s))) = _
      rw [nI_add, jMin_nI (by omega) (by omega)]
  · have c' : eCn N kf ou L s = false := by simpa using c
    rw [if_pos ((eLT_no h5 hL hs).mpr c'), if_neg c]
    rfl
theorem eSB_le {N : Nat} {kf : Nat → Int32} {ou : Int32} {X L s : Nat} {d : Nat → Nat} : eSB N kf ou X d L s ≤ 1000 := by
  unfold eSB
  repeat' split
  all_goals omega
theorem eRow_eq {N : Nat} {kf : Nat → Int32} {ou : Int32} {X L : Nat} {st : Nat → Int32} {d : Nat → Nat} (h5 : N ≤ 5) (hL : L < 7) (hX : X < 6) (hd : ∀ j, j < 7 → st j = nI (d j)) (hdl : ∀ j, d j ≤ 1000) : ∀ m, m ≤ 5 → jRow (jLT N kf ou) (jBT N kf ou) st L (pI X) m = nI (eRow N kf ou X d L m)
  | 0, _ => rfl
  | m + 1, hm => by
    rw [jRow, eRow, eRow_eq h5 hL hX hd hdl m (by omega), eSB_eq h5 hL (by omega) hX hd hdl]
    have a := eRow_le1 (N := N) (kf := kf) (ou := ou) (X := X) (d := d) (L := L) m
    have b := eSB_le (N := N) (kf := kf) (ou := ou) (X := X) (L := L) (s := m) (d := d)
    rw [jMin_nI (by omega) (by omega)]
theorem eD_eq {N : Nat} {kf : Nat → Int32} {ou : Int32} {X : Nat} (h5 : N ≤ 5) (hX : X < 6) : ∀ k L, L < 7 → jAim (jLT N kf ou) (jBT N kf ou) (pI X) k L = nI (eD N kf ou X k L)
  | 0, _, _ => rfl
  | k + 1, L, hL => by
    rw [jAim, eD]
    unfold upd
    dsimp only
    by_cases e : L = k % 7
    · rw [if_pos e, if_pos e]
      exact eRow_eq h5 (by omega) hX (eD_eq h5 hX k) (eD_le k) 5 (by omega)
    · rw [if_neg e, if_neg e]
      exact eD_eq h5 hX k L hL
theorem eFew_j {N : Nat} {kf : Nat → Int32} {ou : Int32} {X L B : Nat} (h5 : N ≤ 5) (hX : X < 6) (hL : L < 7) (hB : B < 6) : eFew N kf ou X L B (jFew (jAim (jLT N kf ou) (jBT N kf ou) (pI X) 49) (pI L) (pI B) (pI X)) := by
  unfold jFew
  have e : (pI B = pI X) ↔ B = X := pI_inj _ (by omega) _ (by omega)
  rw [pI_s, jAt_nI hL (by decide), eD_eq h5 hX 49 L hL]
  by_cases c : B = X
  · rw [if_pos (e.mpr c)]
    exact Or.inr ⟨0, by omega, rfl, c, fun m hm => by omega⟩
  · rw [if_neg (fun q => c (e.mp q))]
    have hle := eD_le (N := N) (kf := kf) (ou := ou) (X := X) 49 L
    have h0 : ¬ eR N kf ou X 0 L B := c
    have hq : ∀ n, 1 ≤ n → n ≤ 7 → eR N kf ou X n L 0 → eD N kf ou X 49 L ≤ n := fun n h1 h2 h3 => eQ_0 h5 7 n L h1 hL (Or.inl h2) (by omega) h3
    by_cases q : eD N kf ou X 49 L < 1000
    · rw [if_pos (show nI (eD N kf ou X 49 L) < 1000 from nI_lt (b := 1000) q (by omega))]
      obtain ⟨a1, a2⟩ := eD_sound 49 L q
      obtain ⟨k, k1, k2, k3⟩ := eR_7 h5 a1 hL a2
      have hk := hq k k1 k2 k3
      refine Or.inr ⟨eD N kf ou X 49 L, by omega, rfl, eR_any a1 a2, fun m hm hR => ?_⟩
      by_cases hm0 : m = 0
      · subst hm0; exact h0 hR
      · have := hq m (by omega) (by omega) (eR_any (by omega) hR)
        omega
    · rw [if_neg (show ¬ nI (eD N kf ou X 49 L) < 1000 from nI_nlt (b := 1000) (by omega) (by omega))]
      refine Or.inl ⟨rfl, fun n hR => ?_⟩
      by_cases hn0 : n = 0
      · subst hn0; exact h0 hR
      · obtain ⟨k, k1, k2, k3⟩ := eR_7 h5 (show 1 ≤ n by omega) hL (eR_any (by omega) hR)
        have := hq k k1 k2 k3
        omega
