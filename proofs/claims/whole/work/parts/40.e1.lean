/-! class and reference, side by side -/
def eL (L : Nat) : Nat := if L = 0 then 7 else L - 1
def eB (B : Nat) : Nat := if B = 0 then 7 else B - 1
def eC (L B : Nat) : Nat := 8 * eL L + eB B
/-- the court's kinds and sides, as both have them -/
def eK (N : Nat) (kf sf r : Nat → Int32) : Prop := N ≤ 5 ∧ ∀ s, s < N → r (3 * s) = kf s ∧ r (3 * s + 1) = sf s ∧ (kf s = 0 ∨ kf s = 1 ∨ kf s = 2 ∨ kf s = 3 ∨ kf s = 4) ∧ (sf s = 0 ∨ sf s = 1)
def eVL (N L : Nat) : Prop := L ≤ N ∨ L = 6
def eVB (N B : Nat) : Prop := B ≤ N
def eNx (kf : Nat → Int32) (s : Nat) : Nat := if kf s = 2 then 6 else s + 1
def eNb (N : Nat) (kf : Nat → Int32) (L s : Nat) : Nat := if L = 0 ∨ kf s = 2 then 0 else if kf s = 3 then (if s = 0 then N else s) else s + 1
theorem eC_div {L B : Nat} (hB : B < 7) : eC L B / 8 = eL L := by unfold eC eB; split <;> omega
theorem eC_mod {L B : Nat} (hB : B < 7) : eC L B % 8 = eB B := by unfold eC eB; split <;> omega
theorem eC_lt {L B : Nat} (hL : L < 7) (hB : B < 7) : eC L B < 64 := by unfold eC eL eB; split <;> split <;> omega
theorem eC_V {L B : Nat} (hL : L < 7) (hB : B < 6) : mV (eC L B) := by
  refine ⟨eC_lt hL (by omega), ?_⟩
  rw [eC_mod (by omega)]
  unfold eB
  split <;> omega
theorem eC_inj {L B L' B' : Nat} (hB : B < 7) (hB' : B' < 7) (hL : L < 7) (hL' : L' < 7) (h : eC L B = eC L' B') : L = L' ∧ B = B' := by
  have h1 : eL L = eL L' := by rw [← eC_div hB, ← eC_div hB', h]
  have h2 : eB B = eB B' := by rw [← eC_mod (L := L) hB, ← eC_mod (L := L') hB', h]
  unfold eL at h1
  unfold eB at h2
  constructor
  · split at h1 <;> split at h1 <;> omega
  · split at h2 <;> split at h2 <;> omega
theorem pI_inj : ∀ a : Nat, a < 8 → ∀ b : Nat, b < 8 → (pI a = pI b ↔ a = b) := by decide
theorem eIn : ∀ s : Nat, s < 5 → (0 : Int32) ≤ nI s ∧ nI s < 5 := by decide
theorem eIsIn {s : Nat} (hs : s < 5) (o : Int32) : jIsIn (nI s) o = decide ((o >>> (nI s &&& 31)) &&& 1 = 1) := by
  unfold jIsIn
  rw [decide_eq_true (eIn s hs)]
  rfl
theorem eJK {N : Nat} {kf : Nat → Int32} {s : Nat} (h : s < N) (h5 : N ≤ 5) : jKind N kf (nI s) = kf s := jKind_nI h h5
theorem eJK_no {N : Nat} {kf : Nat → Int32} {s : Nat} (h : ¬ s < N) (hs : s < 5) : jKind N kf (nI s) = -1 := by
  unfold jKind
  rw [if_neg]
  intro q
  exact h ((nI_ltI (by omega) (by omega)).mp q.2 |> fun z => z)
theorem eBit (x : Int32) : x &&& 1 = 0 ∨ x &&& 1 = 1 := by
  have h : ∀ b : BitVec 32, b &&& 1#32 = 0#32 ∨ b &&& 1#32 = 1#32 := by
    intro b
    have h1 : (b &&& 1#32).toNat = b.toNat % 2 := by simp [BitVec.toNat_and, Nat.and_one_is_mod]
    rcases Nat.mod_two_eq_zero_or_one b.toNat with h2 | h2
    · left; apply BitVec.eq_of_toNat_eq; rw [h1, h2]; rfl
    · right; apply BitVec.eq_of_toNat_eq; rw [h1, h2]; rfl
  rcases h x.toBitVec with q | q
  · left; exact Int32.toBitVec_inj.mp q
  · right; exact Int32.toBitVec_inj.mp q
theorem eBeside_fin : ∀ N : Nat, N < 6 → ∀ s : Nat, s < N → ∀ L : Nat, L < 7 → (L ≤ N ∨ L = 6) → jBeside N (pI L) (nI s) = (decide (nI (eL L) < 5) && (decide (nI (eL L) = nI s - 1) || decide (nI (eL L) = nI s + 1))) := by decide +kernel
theorem eCounts {N : Nat} {kf sf r : Nat → Int32} (h : eK N kf sf r) {s L B : Nat} (ou : Int32) (hs : s < N) (hL : L < 7) (hB : B < 7) (hV : eVL N L) : jCounts N kf (nI s) (pI L) ou = mCounts r ou s (eC L B) := by
  obtain ⟨h5, hk⟩ := h
  obtain ⟨a1, a2, a3, a4⟩ := hk s hs
  unfold jCounts mCounts
  rw [jKind_nI hs h5, eIsIn (by omega), eC_div hB, a1, eBeside_fin N (by omega) s hs L hL hV]
  have hne : ¬ kf s = -1 := by rcases a3 with q | q | q | q | q <;> rw [q] <;> decide
  rw [decide_eq_false hne, Bool.false_or]
  have hbit : decide ((ou >>> (nI s &&& 31)) &&& 1 = 0) = !decide ((ou >>> (nI s &&& 31)) &&& 1 = 1) := by
    rcases eBit (ou >>> (nI s &&& 31)) with q | q <;> rw [q] <;> decide
  rw [hbit]
  cases decide (kf s = 4) <;> cases decide ((ou >>> (nI s &&& 31)) &&& 1 = 1) <;> rfl
theorem eCounts_no {N : Nat} {kf : Nat → Int32} {s : Nat} {la ou : Int32} (hs : ¬ s < N) (h : s < 5) : jCounts N kf (nI s) la ou = false := by
  unfold jCounts
  rw [eJK_no hs h]
  rfl
theorem eLast {N : Nat} {kf : Nat → Int32} {s : Nat} (h5 : N ≤ 5) (hs : s < N) : jLast N kf (nI s) = pI (eNx kf s) := by
  unfold jLast eNx
  rw [jKind_nI hs h5]
  split
  · rfl
  · exact pI_up s
theorem eBel {N : Nat} {kf : Nat → Int32} {s L : Nat} (h5 : N ≤ 5) (hs : s < N) (hL : L < 7) : jBel N kf (nI s) (pI L) = pI (eNb N kf L s) := by
  unfold jBel eNb
  rw [jKind_nI hs h5]
  have e1 : (pI L = -1) ↔ L = 0 := pI_m1 L (by omega)
  by_cases c1 : L = 0 ∨ kf s = 2
  · rw [if_pos c1, if_pos (c1.imp e1.mpr id)]
    rfl
  · rw [if_neg c1, if_neg (fun q => c1 (q.imp e1.mp id))]
    by_cases c2 : kf s = 3
    · rw [if_pos c2, if_pos c2]
      by_cases c3 : s = 0
      · subst c3
        rw [if_pos (show nI 0 = 0 from rfl), if_pos rfl]
        rfl
      · have c3' : ¬ nI s = 0 := fun q => c3 ((nI_eq (a := s) (b := 0) (by omega) (by omega)).mp q)
        rw [if_neg c3, if_neg c3']
        rfl
    · rw [if_neg c2, if_neg c2]
      exact pI_up s
theorem eNx_7 {kf : Nat → Int32} {N s : Nat} (h5 : N ≤ 5) (hs : s < N) : eNx kf s < 7 ∧ eVL N (eNx kf s) := by
  unfold eNx eVL
  split <;> omega
theorem eNb_6 {kf : Nat → Int32} {N L s : Nat} (h5 : N ≤ 5) (hs : s < N) : eNb N kf L s < 6 ∧ eVB N (eNb N kf L s) := by
  unfold eNb eVB
  repeat' split
  all_goals omega
theorem eBeh {N : Nat} {kf sf r : Nat → Int32} (h : eK N kf sf r) {s L B : Nat} (hs : s < N) (hL : L < 7) (hB : B < 7) (hne : ¬ L = s + 1) : mBeh r N s (eC L B) = eC (eNx kf s) (eNb N kf L s) := by
  obtain ⟨h5, hk⟩ := h
  obtain ⟨a1, a2, a3, a4⟩ := hk s hs
  unfold mBeh
  rw [eC_div hB, a1]
  have c0 : ¬ eL L = s := by unfold eL; split <;> omega
  rw [if_neg c0]
  unfold eNx eNb eC
  by_cases c2 : kf s = 2
  · rw [if_pos c2, if_pos c2, if_pos (Or.inr c2)]
    rfl
  · rw [if_neg c2, if_neg c2]
    have e1 : (eL L = 7) ↔ L = 0 := by unfold eL; split <;> omega
    have e3 : eL (s + 1) = s := by unfold eL; rw [if_neg (by omega)]; omega
    rw [e3]
    congr 1
    by_cases c1 : L = 0
    · rw [if_pos (e1.mpr c1), if_pos (Or.inl c1)]
      rfl
    · rw [if_neg (fun q : eL L = 7 => c1 (e1.mp q)), if_neg (show ¬ (L = 0 ∨ kf s = 2) from fun q => q.elim c1 c2)]
      by_cases c3 : kf s = 3
      · rw [if_pos c3, if_pos c3]
        by_cases c4 : s = 0
        · rw [if_pos c4, if_pos c4]
          unfold eB
          rw [if_neg (by omega)]
        · rw [if_neg c4, if_neg c4]
          unfold eB
          rw [if_neg c4]
      · rw [if_neg c3, if_neg c3]
        exact e3.symm.trans (by unfold eL eB; rfl)
theorem eBeh_self {N : Nat} {r : Nat → Int32} {s L B : Nat} (hB : B < 7) (he : L = s + 1) : mBeh r N s (eC L B) = eC L B := by
  unfold mBeh
  rw [eC_div hB, if_pos]
  subst he
  unfold eL
  rw [if_neg (by omega)]
  omega
/-- one who can speak a word, and is not the last one -/
def eCn (N : Nat) (kf : Nat → Int32) (ou : Int32) (L s : Nat) : Bool := decide (s < N) && !decide (L = s + 1) && jCounts N kf (nI s) (pI L) ou
theorem eCan {N : Nat} {kf : Nat → Int32} {ou : Int32} {L s : Nat} (hL : L < 7) (hs : s < 5) : jCan N kf ou L s = eCn N kf ou L s := by
  unfold jCan eCn
  have e : (nI s = pI L) ↔ L = s + 1 := pI_ne L (by omega) s (by omega)
  rw [decide_eq_decide.mpr e]
  by_cases c : s < N
  · rw [decide_eq_true c]; rfl
  · rw [eCounts_no c hs, Bool.and_false, Bool.and_false]
theorem eLT {N : Nat} {kf : Nat → Int32} {ou : Int32} {L s : Nat} (h5 : N ≤ 5) (hL : L < 7) (hs : s < 5) : jLT N kf ou (5 * L + s) = if eCn N kf ou L s then pI (eNx kf s) else -2 := by
  rw [jLT_at hs, eCan hL hs]
  by_cases c : eCn N kf ou L s = true
  · rw [if_pos c, if_pos c]
    unfold eCn at c
    simp only [Bool.and_eq_true, decide_eq_true_eq] at c
    exact eLast h5 c.1.1
  · rw [if_neg c, if_neg c]
theorem eBT {N : Nat} {kf : Nat → Int32} {ou : Int32} {L s : Nat} (h5 : N ≤ 5) (hL : L < 7) (hs : s < 5) : jBT N kf ou (5 * L + s) = if eCn N kf ou L s then pI (eNb N kf L s) else -1 := by
  rw [jBT_at hs, eCan hL hs]
  by_cases c : eCn N kf ou L s = true
  · rw [if_pos c, if_pos c]
    unfold eCn at c
    simp only [Bool.and_eq_true, decide_eq_true_eq] at c
    exact eBel h5 c.1.1 hL
  · rw [if_neg c, if_neg c]
theorem eLT_no {N : Nat} {kf : Nat → Int32} {ou : Int32} {L s : Nat} (h5 : N ≤ 5) (hL : L < 7) (hs : s < 5) : (jLT N kf ou (5 * L + s) = -2) ↔ eCn N kf ou L s = false := by
  rw [eLT h5 hL hs]
  by_cases c : eCn N kf ou L s = true
  · rw [if_pos c, c]
    constructor
    · intro q
      unfold eCn at c
      simp only [Bool.and_eq_true, decide_eq_true_eq] at c
      have := (eNx_7 (kf := kf) h5 c.1.1).1
      have h2 : ∀ a : Nat, a < 7 → ¬ pI a = -2 := by decide
      exact absurd q (h2 _ this)
    · intro q; cases q
  · rw [if_neg c]
    simp only [Bool.not_eq_true] at c
    exact ⟨fun _ => c, fun _ => rfl⟩
