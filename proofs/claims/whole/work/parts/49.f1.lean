/-! when it is heard -/
def hE (N : Nat) (kf : Nat → Int32) (ou : Int32) (al : Nat → Nat → Bool) : Nat → Nat → Nat
  | 0 => fun _ => 1
  | m + 1 => fun L => hT N kf ou al (5 - m) (hE N kf ou al m) L
def hO (r : Nat → Int32) (N : Nat) (ou : Int32) (he : Nat → Int32) (t : Nat) : Nat → Nat → Nat
  | 0 => fun _ => 1
  | m + 1 => fun k => hTm r N ou he t (5 - m) (hO r N ou he t m) k
theorem eTg {N : Nat} {kf sf r : Nat → Int32} (h : eK N kf sf r) {t : Nat} {ftw fts he : Nat → Int32} (hh : eH t ftw fts he) {ou : Int32} {n L B : Nat} {X : Nat → Nat} (hL : L < 7) (hB : B < 6) (hV : eVL N L) :
    hTm r N ou he t n X (eC L B) = zS (fun s => if hOk N kf ou (eAl t ftw fts) n L s = true then X (eC (eNx kf s) (eNb N kf L s)) else 0) 5 := by
  unfold hTm
  have e5 : zS (fun s => if hOk N kf ou (eAl t ftw fts) n L s = true then X (eC (eNx kf s) (eNb N kf L s)) else 0) 5 = zS (fun s => if hOk N kf ou (eAl t ftw fts) n L s = true then X (eC (eNx kf s) (eNb N kf L s)) else 0) N := by
    have h5 := h.1
    rw [show (5 : Nat) = N + (5 - N) from by omega, zS_app, zS_zero (5 - N) (fun i hi => if_neg (fun q => by have := hOk_N q; omega))]
    rfl
  rw [e5]
  refine zS_congr N (fun s hs => ?_)
  rw [eMok h hh hs hL hB hV]
  by_cases q : hOk N kf ou (eAl t ftw fts) n L s = true
  · rw [if_pos q, if_pos q]
    have q2 := q
    unfold hOk at q2
    simp only [Bool.and_eq_true] at q2
    rw [eBeh h hs hL (show B < 7 by omega) (eCn_N q2.1).2]
  · rw [if_neg q, if_neg q]
theorem eOn {N : Nat} {kf sf r : Nat → Int32} (h : eK N kf sf r) {t : Nat} {ftw fts he : Nat → Int32} (hh : eH t ftw fts he) {ou : Int32} : ∀ m L B, L < 7 → B < 6 → eVL N L → hO r N ou he t m (eC L B) = hE N kf ou (eAl t ftw fts) m L
  | 0, _, _, _, _, _ => rfl
  | m + 1, L, B, hL, hB, hV => by
    rw [hO, hE]
    dsimp only
    rw [eTg h hh hL hB hV]
    unfold hT
    refine zS_congr 5 (fun s hs => ?_)
    by_cases q : hOk N kf ou (eAl t ftw fts) (5 - m) L s = true
    · rw [if_pos q, if_pos q]
      have a := eNx_7 (kf := kf) h.1 (hOk_N q)
      exact eOn h hh m _ _ a.1 (eNb_6 h.1 (hOk_N q)).1 a.2
    · rw [if_neg q, if_neg q]
-- the class's endings
theorem jEnd0_at : ∀ m, m ≤ 7 → ∀ L, L < m → jEnd0 m (42 + L) = 1
  | 0, _, L, hL => by omega
  | m + 1, hm, L, hL => by
    rw [jEnd0, jPut_nI (by omega) (by omega)]
    unfold upd
    by_cases e : L = m
    · rw [if_pos (by omega)]
    · rw [if_neg (by omega)]
      exact jEnd0_at m (by omega) L (by omega)
theorem jE1_eq {N : Nat} {kf : Nat → Int32} {ou : Int32} {t : Nat} {ftw fts : Nat → Int32} {n L : Nat} {y : Nat → Int32} {X : Nat → Nat} (h5 : N ≤ 5) (hL : L < 7) (hn : n < 6) (hy : ∀ L', L' < 7 → y (7 * (n + 1) + L') = nI (X L')) :
    ∀ m, m ≤ 5 → jE1 (jLT N kf ou) (jBT N kf ou) t ftw fts (n + 1) L y m = nI (zS (fun s => if hOk N kf ou (eAl t ftw fts) n L s = true then X (eNx kf s) else 0) m)
  | 0, _ => rfl
  | m + 1, hm => by
    rw [jE1, jOk_eq h5 hL (by omega), jE1_eq h5 hL hn hy m (by omega), zS]
    by_cases c : hOk N kf ou (eAl t ftw fts) n L m = true
    · have hx := (eNx_7 (kf := kf) h5 (hOk_N c)).1
      rw [if_pos c, if_pos c, jTo_eq h5 hL (by omega) c, jAt_nI (by omega) (by omega), hy _ hx, nI_add]
    · rw [if_neg c, if_neg c]; rfl
theorem eEnds {N : Nat} {kf : Nat → Int32} {ou : Int32} {t : Nat} {ftw fts : Nat → Int32} (h5 : N ≤ 5) : ∀ k, k ≤ 35 →
    (∀ L, L < 7 → jEnds (jLT N kf ou) (jBT N kf ou) t ftw fts k (42 + L) = 1) ∧ (∀ w L, L < 7 → 1 ≤ w → w ≤ 5 → 7 * (5 - w) + L < k → jEnds (jLT N kf ou) (jBT N kf ou) t ftw fts k (7 * w + L) = nI (hE N kf ou (eAl t ftw fts) (6 - w) L))
  | 0, _ => ⟨fun L hL => jEnd0_at 7 (Nat.le_refl _) L hL, fun w L _ _ _ h => by omega⟩
  | k + 1, hk => by
    obtain ⟨i1, i2⟩ := eEnds (kf := kf) (ou := ou) (t := t) (ftw := ftw) (fts := fts) h5 k (by omega)
    have hq : k / 7 ≤ 4 := by omega
    have hr : k % 7 < 7 := by omega
    have hy : ∀ L', L' < 7 → jEnds (jLT N kf ou) (jBT N kf ou) t ftw fts k (7 * (5 - k / 7 + 1) + L') = nI (hE N kf ou (eAl t ftw fts) (k / 7) L') := fun L' hL' => by
      by_cases z : k / 7 = 0
      · rw [z]; exact i1 L' hL'
      · have := i2 (5 - k / 7 + 1) L' hL' (by omega) (by omega) (by omega)
        rw [show 6 - (5 - k / 7 + 1) = k / 7 from by omega] at this
        exact this
    have hv := jE1_eq (kf := kf) (ou := ou) (t := t) (ftw := ftw) (fts := fts) h5 hr (show 5 - k / 7 < 6 by omega) hy 5 (Nat.le_refl _)
    rw [jEnds, jPut_nI (by omega) (by omega), show 6 - k / 7 = 5 - k / 7 + 1 from by omega, hv]
    refine ⟨fun L hL => ?_, fun w L hL hw1 hw hlt => ?_⟩
    · unfold upd
      rw [if_neg (by omega)]
      exact i1 L hL
    · unfold upd
      by_cases e : 7 * w + L = 7 * (5 - k / 7) + k % 7
      · rw [if_pos e]
        have ew : w = 5 - k / 7 := by omega
        have el : L = k % 7 := by omega
        rw [show 6 - w = k / 7 + 1 from by omega, el, hE]
        rfl
      · rw [if_neg e]
        exact i2 w L hL hw1 hw (by omega)
theorem eEnds35 {N : Nat} {kf : Nat → Int32} {ou : Int32} {t : Nat} {ftw fts : Nat → Int32} {w L : Nat} (h5 : N ≤ 5) (hL : L < 7) (h1 : 1 ≤ w) (h6 : w ≤ 6) : jEnds (jLT N kf ou) (jBT N kf ou) t ftw fts 35 (7 * w + L) = nI (hE N kf ou (eAl t ftw fts) (6 - w) L) := by
  obtain ⟨a, b⟩ := eEnds (kf := kf) (ou := ou) (t := t) (ftw := ftw) (fts := fts) h5 35 (Nat.le_refl _)
  by_cases e : w = 6
  · subst e; exact a L hL
  · exact b w L hL h1 (by omega) (by omega)
-- conservation
theorem eCons {N : Nat} {kf : Nat → Int32} {ou : Int32} {al : Nat → Nat → Bool} {L0 a0 : Nat} (h5 : N ≤ 5) : ∀ m, m ≤ 6 → zS (fun L => hC N kf ou al L0 a0 (6 - m) L * hE N kf ou al m L) 7 = zS (fun L => hC N kf ou al L0 a0 6 L) 7
  | 0, _ => zS_congr 7 (fun L _ => Nat.mul_one _)
  | m + 1, hm => by
    rw [← eCons h5 m (by omega), show 6 - m = (5 - m) + 1 from by omega, hC_step h5, show 6 - (m + 1) = 5 - m from by omega]
    rfl
def gL (N : Nat) (kf : Nat → Int32) (ou : Int32) (al : Nat → Nat → Bool) (L0 a0 n k b : Nat) : Nat := zS (fun j => if hOk N kf ou al n (j / 5) (j % 5) = true ∧ eNb N kf (j / 5) (j % 5) = b then hC N kf ou al L0 a0 n (j / 5) * hE N kf ou al (5 - n) (eNx kf (j % 5)) else 0) k
def zM (f : Nat → Nat) : Nat → Nat
  | 0 => 0
  | n + 1 => max (zM f n) (f n)
theorem zM_congr {f g : Nat → Nat} : ∀ n, (∀ i, i < n → f i = g i) → zM f n = zM g n
  | 0, _ => rfl
  | n + 1, h => by rw [zM, zM, zM_congr n (fun i hi => h i (by omega)), h n (by omega)]
theorem zM_up {f g : Nat → Nat} {b : Nat} (hb : f b ≤ g b) (hs : ∀ i, ¬ i = b → g i = f i) : ∀ n, b < n → zM g n = max (zM f n) (g b)
  | 0, h => by omega
  | n + 1, h => by
    rw [zM, zM]
    by_cases e : b = n
    · subst e
      rw [zM_congr b (fun i hi => hs i (by omega))]
      omega
    · rw [zM_up hb hs n (by omega), hs n (fun z => e z.symm)]
      omega
theorem gL_sum {N : Nat} {kf : Nat → Int32} {ou : Int32} {al : Nat → Nat → Bool} {L0 a0 n : Nat} (h5 : N ≤ 5) (hn : n < 6) : zS (fun b => gL N kf ou al L0 a0 n 35 b) 6 = zS (fun L => hC N kf ou al L0 a0 6 L) 7 := by
  have e1 := zS_scatter (c := fun j => hOk N kf ou al n (j / 5) (j % 5)) (tg := fun j => eNb N kf (j / 5) (j % 5)) (v := fun j => hC N kf ou al L0 a0 n (j / 5) * hE N kf ou al (5 - n) (eNx kf (j % 5))) (X := fun _ => 1) (n := 6) (J := 35) (fun j _ hj => (eNb_6 (kf := kf) h5 (hOk_N hj)).1)
  simp only [Nat.mul_one] at e1
  have e2 := zS_scatter (c := fun j => hOk N kf ou al n (j / 5) (j % 5)) (tg := fun j => eNx kf (j % 5)) (v := fun j => hC N kf ou al L0 a0 n (j / 5)) (X := hE N kf ou al (5 - n)) (n := 7) (J := 35) (fun j _ hj => (eNx_7 (kf := kf) h5 (hOk_N hj)).1)
  have e3 := eCons (kf := kf) (ou := ou) (al := al) (L0 := L0) (a0 := a0) h5 (5 - n) (by omega)
  rw [show 6 - (5 - n) = n + 1 from by omega] at e3
  exact (e1.trans e2.symm).trans e3
theorem zS_mono {f : Nat → Nat} {a b : Nat} (h : a ≤ b) : zS f a ≤ zS f b := by
  rw [show b = a + (b - a) from by omega, zS_app]
  omega
theorem gL_le {N : Nat} {kf : Nat → Int32} {ou : Int32} {al : Nat → Nat → Bool} {L0 a0 n k b : Nat} (h5 : N ≤ 5) (hn : n < 6) (hk : k ≤ 35) (hb : b < 6) : gL N kf ou al L0 a0 n k b ≤ zS (fun L => hC N kf ou al L0 a0 6 L) 7 := by
  rw [← gL_sum h5 hn]
  exact Nat.le_trans (zS_mono hk) (zS_at (f := fun b => gL N kf ou al L0 a0 n 35 b) 6 b hb)
theorem zM_le {f : Nat → Nat} {c : Nat} : ∀ n, (∀ i, i < n → f i ≤ c) → zM f n ≤ c
  | 0, _ => Nat.zero_le _
  | n + 1, h => by
    rw [zM]
    have := zM_le (f := f) n (fun i hi => h i (by omega))
    have := h n (by omega)
    omega
theorem jMax_nI {a b : Nat} (ha : a < 2147483648) (hb : b < 2147483648) : jMax (nI a) (nI b) = nI (max a b) := by
  unfold jMax
  by_cases c : a < b
  · rw [if_pos (nI_lt c hb), show max a b = b from by omega]
  · rw [if_neg, show max a b = a from by omega]
    rw [Int32.lt_iff_toInt_lt, nI_toInt ha, nI_toInt hb]
    omega
theorem pI_s1 (b : Nat) : pI b + 1 = nI b := by rw [pI_1, ← pI_up]
theorem eMost {N : Nat} {kf : Nat → Int32} {ou : Int32} {t : Nat} {ftw fts : Nat → Int32} {L0 a0 n : Nat} {y z : Nat → Int32} (h5 : N ≤ 5) (hn : n < 6) (hT : zS (fun L => hC N kf ou (eAl t ftw fts) L0 a0 6 L) 7 ≤ 15625)
    (hy : ∀ L', L' < 7 → y (7 * n + L') = nI (hC N kf ou (eAl t ftw fts) L0 a0 n L')) (hz : ∀ L', L' < 7 → z (7 * (n + 1) + L') = nI (hE N kf ou (eAl t ftw fts) (5 - n) L')) :
    ∀ k, k ≤ 35 → (∀ b, b < 6 → (jMost (jLT N kf ou) (jBT N kf ou) t ftw fts y z (n + 1) k).1 b = nI (gL N kf ou (eAl t ftw fts) L0 a0 n k b)) ∧ (jMost (jLT N kf ou) (jBT N kf ou) t ftw fts y z (n + 1) k).2 = nI (zM (gL N kf ou (eAl t ftw fts) L0 a0 n k) 6)
  | 0, _ => ⟨fun _ _ => rfl, rfl⟩
  | k + 1, hk => by
    obtain ⟨i1, i2⟩ := eMost h5 hn hT hy hz k (by omega)
    have hL : k / 5 < 7 := by omega
    have hs : k % 5 < 5 := by omega
    rw [jMost, jOk_eq h5 hL hs]
    by_cases c : hOk N kf ou (eAl t ftw fts) n (k / 5) (k % 5) = true
    · have hx := (eNx_7 (kf := kf) h5 (hOk_N c)).1
      have hb := (eNb_6 (kf := kf) (L := k / 5) h5 (hOk_N c)).1
      have c1 : eCn N kf ou (k / 5) (k % 5) = true := by
        have q := c
        unfold hOk at q
        simp only [Bool.and_eq_true] at q
        exact q.1
      rw [if_pos c, eBT h5 hL hs, if_pos c1, pI_s1, jTo_eq h5 hL hs c, jPut_nI hb (by omega), jAt_nI hb (by omega), jAt_nI (by omega) (by omega), jAt_nI (by omega) (by omega), show n + 1 - 1 = n from rfl, hy _ hL, hz _ hx, i1 _ hb, i2, nI_mul, nI_add]
      have st : ∀ b, gL N kf ou (eAl t ftw fts) L0 a0 n (k + 1) b = if eNb N kf (k / 5) (k % 5) = b then gL N kf ou (eAl t ftw fts) L0 a0 n k b + hC N kf ou (eAl t ftw fts) L0 a0 n (k / 5) * hE N kf ou (eAl t ftw fts) (5 - n) (eNx kf (k % 5)) else gL N kf ou (eAl t ftw fts) L0 a0 n k b := fun b => by
        unfold gL
        rw [zS.eq_2]
        by_cases e : eNb N kf (k / 5) (k % 5) = b
        · rw [if_pos e, if_pos ⟨c, e⟩]
        · rw [if_neg e, if_neg (fun z => e z.2), Nat.add_zero]
      have stb := st (eNb N kf (k / 5) (k % 5))
      rw [if_pos rfl] at stb
      have m1 := zM_up (f := gL N kf ou (eAl t ftw fts) L0 a0 n k) (g := gL N kf ou (eAl t ftw fts) L0 a0 n (k + 1)) (b := eNb N kf (k / 5) (k % 5)) (by omega) (fun i hi => by rw [st i, if_neg (fun z => hi z.symm)]) 6 hb
      have b1 := gL_le (kf := kf) (ou := ou) (al := eAl t ftw fts) (L0 := L0) (a0 := a0) h5 hn hk hb
      have b2 := zM_le (f := gL N kf ou (eAl t ftw fts) L0 a0 n k) 6 (fun i hi => gL_le (kf := kf) (ou := ou) (al := eAl t ftw fts) (L0 := L0) (a0 := a0) h5 hn (show k ≤ 35 by omega) hi)
      refine ⟨fun b hb' => ?_, ?_⟩
      · dsimp only
        unfold upd
        rw [st b]
        by_cases e : eNb N kf (k / 5) (k % 5) = b
        · rw [if_pos e.symm, if_pos e, e]
        · rw [if_neg (fun z => e z.symm), if_neg e, i1 b hb']
      · dsimp only
        rw [← stb, jMax_nI (by omega) (by omega), m1]
    · rw [if_neg c]
      have st : ∀ b, gL N kf ou (eAl t ftw fts) L0 a0 n (k + 1) b = gL N kf ou (eAl t ftw fts) L0 a0 n k b := fun b => by
        unfold gL
        rw [zS.eq_2, if_neg (fun z => c z.1), Nat.add_zero]
      rw [show gL N kf ou (eAl t ftw fts) L0 a0 n (k + 1) = gL N kf ou (eAl t ftw fts) L0 a0 n k from funext st]
      exact ⟨i1, i2⟩
