/-! when it is heard: the reference's side, and both -/
def zO (r : Nat → Int32) (N : Nat) (ou : Int32) (he : Nat → Int32) (t n k v p : Nat) : Nat := if n + 1 ≤ p / 64 then hO r N ou he t (6 - p / 64) (p % 64) else if p / 64 = n then (if p % 64 < k then hO r N ou he t (6 - n) (p % 64) else if p % 64 = k then v else 0) else 0
theorem zO_1 {r : Nat → Int32} {N : Nat} {ou : Int32} {he : Nat → Int32} {t n k : Nat} {y : Nat → Int32} (h5 : N ≤ 5) (hn : n < 6) (hk : k < 64) (hy : ∀ p, p < 448 → y p = nI (zO r N ou he t n k 0 p)) :
    ∀ s, s ≤ N → ∀ p, p < 448 → mO1 r N ou he t n k y s p = nI (zO r N ou he t n k (zS (fun s => if mOk r N ou he t n k s = true then hO r N ou he t (5 - n) (mBeh r N s k) else 0) s) p)
  | 0, _ => hy
  | s + 1, hs => by
    intro p hp
    have ih := zO_1 h5 hn hk hy s (by omega)
    rw [mO1, zS]
    by_cases c : mOk r N ou he t n k s = true
    · have hx := mBeh_64 (r := r) hk (show s < N by omega) h5
      rw [if_pos c, if_pos c]
      unfold upd
      by_cases e : p = 64 * n + k
      · rw [if_pos e, ih (64 * n + k) (by omega), ih (64 * n + 64 + mBeh r N s k) (by omega), nI_add]
        refine congrArg nI ?_
        rw [e]
        unfold zO
        rw [if_neg (show ¬ n + 1 ≤ (64 * n + k) / 64 by omega), if_neg (show ¬ n + 1 ≤ (64 * n + k) / 64 by omega), if_pos (show (64 * n + k) / 64 = n by omega), if_pos (show (64 * n + k) / 64 = n by omega), if_pos (show n + 1 ≤ (64 * n + 64 + mBeh r N s k) / 64 by omega)]
        rw [if_neg (show ¬ (64 * n + k) % 64 < k by omega), if_neg (show ¬ (64 * n + k) % 64 < k by omega), if_pos (show (64 * n + k) % 64 = k by omega), if_pos (show (64 * n + k) % 64 = k by omega)]
        rw [show 6 - (64 * n + 64 + mBeh r N s k) / 64 = 5 - n from by omega, show (64 * n + 64 + mBeh r N s k) % 64 = mBeh r N s k from by omega]
      · rw [if_neg e, ih p hp]
        refine congrArg nI ?_
        unfold zO
        by_cases a : n + 1 ≤ p / 64
        · rw [if_pos a, if_pos a]
        · rw [if_neg a, if_neg a]
          by_cases b : p / 64 = n
          · rw [if_pos b, if_pos b, if_neg (show ¬ p % 64 = k by omega), if_neg (show ¬ p % 64 = k by omega)]
          · rw [if_neg b, if_neg b]
    · rw [if_neg c, if_neg c, Nat.add_zero]
      exact ih p hp
theorem zO_2 {r : Nat → Int32} {N : Nat} {ou : Int32} {he : Nat → Int32} {t n : Nat} {y : Nat → Int32} (h5 : N ≤ 5) (hn : n < 6) (hy : ∀ p, p < 448 → y p = nI (zO r N ou he t n 0 0 p)) :
    ∀ k, k ≤ 64 → ∀ p, p < 448 → mO2 r N ou he t n y k p = nI (zO r N ou he t n k 0 p)
  | 0, _ => hy
  | k + 1, hk => by
    intro p hp
    rw [mO2, zO_1 h5 hn (show k < 64 by omega) (zO_2 h5 hn hy k (by omega)) N (Nat.le_refl _) p hp]
    refine congrArg nI ?_
    unfold zO
    by_cases a : n + 1 ≤ p / 64
    · rw [if_pos a, if_pos a]
    · rw [if_neg a, if_neg a]
      by_cases b : p / 64 = n
      · rw [if_pos b, if_pos b]
        by_cases c : p % 64 < k
        · rw [if_pos c, if_pos (by omega)]
        · rw [if_neg c]
          by_cases d : p % 64 = k
          · rw [if_pos d, if_pos (show p % 64 < k + 1 by omega), d, show 6 - n = (5 - n) + 1 from by omega, hO]
            dsimp only
            rw [show 5 - (5 - n) = n from by omega]
            rfl
          · rw [if_neg d, if_neg (show ¬ p % 64 < k + 1 by omega)]
            split <;> rfl
      · rw [if_neg b, if_neg b]
theorem zO_3 {r : Nat → Int32} {N : Nat} {ou : Int32} {he : Nat → Int32} {t : Nat} (h5 : N ≤ 5) : ∀ j, j ≤ 6 → ∀ p, p < 448 → mO3 r N ou he t 6 j p = nI (if 6 - j ≤ p / 64 then hO r N ou he t (6 - p / 64) (p % 64) else 0)
  | 0, _ => by
    intro p hp
    rw [mO3]
    unfold mO0
    by_cases a : 64 * 6 ≤ p ∧ p < 64 * 6 + 64
    · rw [if_pos a, if_pos (by omega), show 6 - p / 64 = 0 from by omega]; rfl
    · rw [if_neg a, if_neg (by omega)]; rfl
  | j + 1, hj => by
    intro p hp
    have ih := zO_3 (r := r) (ou := ou) (he := he) (t := t) h5 j (by omega)
    have b0 : ∀ p, p < 448 → mO3 r N ou he t 6 j p = nI (zO r N ou he t (5 - j) 0 0 p) := fun p hp => by
      rw [ih p hp]
      refine congrArg nI ?_
      unfold zO
      by_cases a : 6 - j ≤ p / 64
      · rw [if_pos a, if_pos (by omega)]
      · rw [if_neg a, if_neg (by omega)]
        split
        · rw [if_neg (by omega)]
          split <;> rfl
        · rfl
    rw [mO3, show 6 - 1 - j = 5 - j from by omega, zO_2 h5 (by omega) b0 64 (Nat.le_refl _) p hp]
    refine congrArg nI ?_
    unfold zO
    by_cases a : 5 - j + 1 ≤ p / 64
    · rw [if_pos a, if_pos (by omega)]
    · rw [if_neg a]
      by_cases b : p / 64 = 5 - j
      · rw [if_pos b, if_pos (by omega), if_pos (show 6 - (j + 1) ≤ p / 64 by omega), b]
      · rw [if_neg b, if_neg (by omega)]
theorem eOnM {r : Nat → Int32} {N : Nat} {ou : Int32} {he : Nat → Int32} {t n k : Nat} (h5 : N ≤ 5) (hn : n ≤ 6) (hk : k < 64) : mO3 r N ou he t 6 6 (64 * n + k) = nI (hO r N ou he t (6 - n) k) := by
  rw [zO_3 h5 6 (Nat.le_refl _) _ (by omega), if_pos (by omega), show (64 * n + k) / 64 = n from by omega, show (64 * n + k) % 64 = k from by omega]
theorem eParts {y z : Nat → Int32} {n : Nat} {f g : Nat → Nat} (hy : ∀ k, k < 64 → y (64 * n + k) = nI (f k)) (hz : ∀ k, k < 64 → z (64 * n + k) = nI (g k)) (v : Nat) : ∀ m, m ≤ 64 → mParts y z n m v = nI (zS (fun k => if k % 8 = v then f k * g k else 0) m)
  | 0, _ => rfl
  | m + 1, hm => by
    have ih := eParts hy hz v m (by omega)
    rw [mParts, zS]
    unfold upd
    by_cases e : m % 8 = v
    · rw [if_pos e.symm, if_pos e, e, ih, hy m (by omega), hz m (by omega), nI_mul, nI_add]
    · rw [if_neg (fun z => e z.symm), if_neg e, Nat.add_zero, ih]
theorem eWorst {p : Nat → Int32} {f : Nat → Nat} (h : ∀ v, v < 8 → p v = nI (f v)) (hf : ∀ v, v < 8 → f v < 2147483648) : ∀ v, v ≤ 8 → zM f v < 2147483648 ∧ mWorst p v = nI (zM f v)
  | 0, _ => ⟨Nat.zero_lt_succ _, rfl⟩
  | v + 1, hv => by
    obtain ⟨i1, i2⟩ := eWorst h hf v (by omega)
    have b := hf v (by omega)
    rw [mWorst, i2, h v (by omega), zM]
    refine ⟨by omega, ?_⟩
    exact jMax_nI i1 b
/-- what belongs to one seat, both ways -/
theorem ePart {N : Nat} {kf sf r : Nat → Int32} (h : eK N kf sf r) {t : Nat} {ftw fts he : Nat → Int32} (hh : eH t ftw fts he) {ou : Int32} {L0 B0 a0 n : Nat} (hL0 : L0 < 7) (hB0 : B0 < 6) (hV0 : eVL N L0) (hn : n < 6) (v : Nat) :
    zS (fun k => if k % 8 = v then hc r N ou he t (eC L0 B0) a0 (n + 1) k * hO r N ou he t (5 - n) k else 0) 64 = zS (fun j => if hOk N kf ou (eAl t ftw fts) n (j / 5) (j % 5) = true ∧ eB (eNb N kf (j / 5) (j % 5)) = v then hC N kf ou (eAl t ftw fts) L0 a0 n (j / 5) * hE N kf ou (eAl t ftw fts) (5 - n) (eNx kf (j % 5)) else 0) 35 := by
  have e1 : zS (fun k => if k % 8 = v then hc r N ou he t (eC L0 B0) a0 (n + 1) k * hO r N ou he t (5 - n) k else 0) 64 = zS (fun k => hc r N ou he t (eC L0 B0) a0 (n + 1) k * (if k % 8 = v then hO r N ou he t (5 - n) k else 0)) 64 := zS_congr 64 (fun k _ => by
    by_cases c : k % 8 = v
    · rw [if_pos c, if_pos c]
    · rw [if_neg c, if_neg c, Nat.mul_zero])
  rw [e1, hc_step (X := fun k => if k % 8 = v then hO r N ou he t (5 - n) k else 0) h.1]
  rw [eSame h hh (ou := ou) (a0 := a0) hL0 hB0 hV0 n (fun L => zS (fun s => if hOk N kf ou (eAl t ftw fts) n L s = true then (if eB (eNb N kf L s) = v then hE N kf ou (eAl t ftw fts) (5 - n) (eNx kf s) else 0) else 0) 5) _ (fun L B hL hB hV => by
    rw [eTg h hh hL hB hV]
    refine zS_congr 5 (fun s hs => ?_)
    by_cases q : hOk N kf ou (eAl t ftw fts) n L s = true
    · rw [if_pos q, if_pos q]
      have a := eNx_7 (kf := kf) h.1 (hOk_N q)
      have b := eNb_6 (kf := kf) (L := L) h.1 (hOk_N q)
      rw [eC_mod (show eNb N kf L s < 7 by omega), eOn h hh _ _ _ a.1 b.1 a.2]
    · rw [if_neg q, if_neg q])]
  rw [show (35 : Nat) = 5 * 7 from rfl, zS_flat 7]
  refine zS_congr 7 (fun L hL => ?_)
  rw [Nat.mul_comm (hC N kf ou _ L0 a0 n L) (zS _ 5), zS_mulr]
  refine zS_congr 5 (fun s hs => ?_)
  rw [show (5 * L + s) / 5 = L from by omega, show (5 * L + s) % 5 = s from by omega]
  by_cases q : hOk N kf ou (eAl t ftw fts) n L s = true
  · rw [if_pos q]
    by_cases c : eB (eNb N kf L s) = v
    · rw [if_pos c, if_pos ⟨q, c⟩, Nat.mul_comm]
    · rw [if_neg c, if_neg (fun z => c z.2), Nat.zero_mul]
  · rw [if_neg q, if_neg (fun z => q z.1), Nat.zero_mul]
theorem eSix {N : Nat} {kf : Nat → Int32} {ou : Int32} {al : Nat → Nat → Bool} {L0 a0 n : Nat} (h5 : N ≤ 5) {P : Nat → Nat} (hP : ∀ v, P v = zS (fun j => if hOk N kf ou al n (j / 5) (j % 5) = true ∧ eB (eNb N kf (j / 5) (j % 5)) = v then hC N kf ou al L0 a0 n (j / 5) * hE N kf ou al (5 - n) (eNx kf (j % 5)) else 0) 35) :
    zM P 8 = zM (gL N kf ou al L0 a0 n 35) 6 ∧ ∀ v, v < 8 → P v = 0 ∨ ∃ b, b < 6 ∧ P v = gL N kf ou al L0 a0 n 35 b := by
  have hb : ∀ b, b < 6 → P (eB b) = gL N kf ou al L0 a0 n 35 b := fun b hb => by
    rw [hP]
    unfold gL
    refine zS_congr 35 (fun j hj => ?_)
    by_cases q : hOk N kf ou al n (j / 5) (j % 5) = true
    · have e6 := (eNb_6 (kf := kf) (L := j / 5) h5 (hOk_N q)).1
      refine z_ifc ⟨fun z => ⟨q, eB_inj (by omega) (by omega) z.2⟩, fun z => ⟨q, by rw [z.2]⟩⟩
    · rw [if_neg (fun z => q z.1), if_neg (fun z => q z.1)]
  have hz : ∀ v, v = 5 ∨ v = 6 → P v = 0 := fun v hv => by
    rw [hP]
    refine zS_zero 35 (fun j hj => if_neg (fun z => ?_))
    have e6 := (eNb_6 (kf := kf) (L := j / 5) h5 (hOk_N z.1)).1
    have z2 := z.2
    unfold eB at z2
    split at z2 <;> omega
  have h0 := hb 0 (by omega)
  have h1 := hb 1 (by omega)
  have h2 := hb 2 (by omega)
  have h3 := hb 3 (by omega)
  have h4 := hb 4 (by omega)
  have h5' := hb 5 (by omega)
  have h6 := hz 5 (Or.inl rfl)
  have h7 := hz 6 (Or.inr rfl)
  rw [show eB 0 = 7 from rfl] at h0
  rw [show eB 1 = 0 from rfl] at h1
  rw [show eB 2 = 1 from rfl] at h2
  rw [show eB 3 = 2 from rfl] at h3
  rw [show eB 4 = 3 from rfl] at h4
  rw [show eB 5 = 4 from rfl] at h5'
  refine ⟨?_, fun v hv => ?_⟩
  · simp only [zM]
    rw [h0, h1, h2, h3, h4, h5', h6, h7]
    omega
  · have : v = 0 ∨ v = 1 ∨ v = 2 ∨ v = 3 ∨ v = 4 ∨ v = 5 ∨ v = 6 ∨ v = 7 := by omega
    rcases this with e | e | e | e | e | e | e | e
    · exact Or.inr ⟨1, by omega, by rw [e, h1]⟩
    · exact Or.inr ⟨2, by omega, by rw [e, h2]⟩
    · exact Or.inr ⟨3, by omega, by rw [e, h3]⟩
    · exact Or.inr ⟨4, by omega, by rw [e, h4]⟩
    · exact Or.inr ⟨5, by omega, by rw [e, h5']⟩
    · exact Or.inl (by rw [e, h6])
    · exact Or.inl (by rw [e, h7])
    · exact Or.inr ⟨0, by omega, by rw [e, h0]⟩
theorem eLook {f g : Nat → Int32} {F : Nat → Nat} (hf : ∀ w, 1 ≤ w → w ≤ 6 → f w = nI (F w)) (hg : ∀ w, 1 ≤ w → w ≤ 6 → g w = nI (F w)) (hF : ∀ w, 1 ≤ w → w ≤ 6 → 0 < F w ∧ F w < 2147483648) : ∀ k, k ≤ 5 → mLook g (k + 1) = jLook f k ∧ ∃ a, a ≤ 6 ∧ (jLook f k).1 = nI a
  | 0, _ => by
    have b := hF 1 (by omega) (by omega)
    rw [mLook, mLook, hg 1 (by omega) (by omega), if_pos ⟨(nI_0lt b.2).mpr b.1, Or.inl rfl⟩, jLook, hf 1 (by omega) (by omega)]
    exact ⟨rfl, 1, by omega, rfl⟩
  | k + 1, hk => by
    obtain ⟨i1, a, a1, a2⟩ := eLook hf hg hF k (by omega)
    have b := hF (k + 2) (by omega) (by omega)
    have e : (0 < g (k + 2) ∧ ((jLook f k).1 = -1 ∨ g (k + 2) < (jLook f k).2)) ↔ f (k + 2) < (jLook f k).2 := by
      rw [hg (k + 2) (by omega) (by omega), hf (k + 2) (by omega) (by omega), a2, nI_0lt b.2]
      constructor
      · rintro ⟨_, q | q⟩
        · exact absurd q (nI_m1 (by omega))
        · exact q
      · intro q; exact ⟨b.1, Or.inr q⟩
    rw [mLook, i1, jLook, z_ifc e, hg (k + 2) (by omega) (by omega), ← hf (k + 2) (by omega) (by omega)]
    refine ⟨rfl, ?_⟩
    by_cases c : f (k + 2) < (jLook f k).2
    · rw [if_pos c]; exact ⟨k + 2, by omega, rfl⟩
    · rw [if_neg c]; exact ⟨a, a1, a2⟩
