/-! by how few words: the reference -/
def fTo (r : Nat → Int32) (N : Nat) (ou : Int32) (s k : Nat) : Nat := if mCounts r ou s k then mBeh r N s k else k
def fP (r : Nat → Int32) (N : Nat) (ou : Int32) (a : Nat) : Nat → Nat → Prop
  | 0, k => k = a
  | n + 1, k => ∃ k', fP r N ou a n k' ∧ ∃ s, s < N ∧ k = fTo r N ou s k'
theorem fTo_64 {r : Nat → Int32} {N : Nat} {ou : Int32} {s k : Nat} (h5 : N ≤ 5) (hs : s < N) (hk : k < 64) : fTo r N ou s k < 64 := by
  unfold fTo
  split
  · exact mBeh_64 hk hs h5
  · exact hk
theorem fP_64 {r : Nat → Int32} {N : Nat} {ou : Int32} {a : Nat} (h5 : N ≤ 5) (ha : a < 64) : ∀ n k, fP r N ou a n k → k < 64
  | 0, k, h => by rw [h]; exact ha
  | n + 1, k, ⟨k', h1, s, h2, h3⟩ => by rw [h3]; exact fTo_64 h5 h2 (fP_64 h5 ha n k' h1)
theorem mF1_to {r : Nat → Int32} {N : Nat} {ou : Int32} {st k s : Nat} {g : Nat → Int32} : mF1 r N ou st k g (s + 1) = if mF1 r N ou st k g s k = nI st then upd (mF1 r N ou st k g s) (fTo r N ou s k) (if mF1 r N ou st k g s (fTo r N ou s k) = -1 then nI (st + 1) else mF1 r N ou st k g s (fTo r N ou s k)) else mF1 r N ou st k g s := rfl
/-- all steps before st are walked, and of step st so much -/
def fJ (r : Nat → Int32) (N : Nat) (ou : Int32) (a st : Nat) (done : Nat → Nat → Prop) (g : Nat → Int32) : Prop :=
  (∀ k, k < 64 → (g k = -1 ∧ ∀ d, d ≤ st → ¬ fP r N ou a d k) ∨ (∃ d, d ≤ st ∧ g k = nI d ∧ fP r N ou a d k ∧ ∀ m, m < d → ¬ fP r N ou a m k) ∨ (g k = nI (st + 1) ∧ fP r N ou a (st + 1) k ∧ ∀ d, d ≤ st → ¬ fP r N ou a d k)) ∧
  (∀ k s, k < 64 → s < N → done k s → g k = nI st → ¬ g (fTo r N ou s k) = -1)
theorem nI_m1 {n : Nat} (h : n < 2147483648) : ¬ nI n = -1 := by
  intro q
  have := nI_pos (n := n) (by omega)
  rw [q] at this
  exact this (by decide)
theorem fJ_step {r : Nat → Int32} {N : Nat} {ou : Int32} {a st k s : Nat} {done : Nat → Nat → Prop} {g : Nat → Int32} (h5 : N ≤ 5) (hst : st < 64) (hk : k < 64) (hs : s < N) (h : fJ r N ou a st done g) :
    fJ r N ou a st (fun k' s' => done k' s' ∨ (k' = k ∧ s' = s)) (if g k = nI st then upd g (fTo r N ou s k) (if g (fTo r N ou s k) = -1 then nI (st + 1) else g (fTo r N ou s k)) else g) := by
  have hto := fTo_64 (r := r) (ou := ou) h5 hs hk
  by_cases e : g k = nI st
  · rw [if_pos e]
    by_cases q : g (fTo r N ou s k) = -1
    · rw [if_pos q]
      constructor
      · intro j hj
        by_cases ej : j = fTo r N ou s k
        · have hu : upd g (fTo r N ou s k) (nI (st + 1)) j = nI (st + 1) := by unfold upd; rw [if_pos ej]
          rw [hu]
          right; right
          have hp : fP r N ou a st k := by
            rcases h.1 k hk with ⟨c, -⟩ | ⟨d, c1, c2, c3, -⟩ | ⟨c, -⟩
            · rw [c] at e; exact absurd e.symm (nI_m1 (by omega))
            · rw [c2] at e
              have := (nI_eq (by omega) (by omega)).mp e
              rw [← this]; exact c3
            · rw [c] at e
              have := (nI_eq (by omega) (by omega)).mp e
              omega
          refine ⟨rfl, ⟨k, hp, s, hs, ej⟩, ?_⟩
          rcases h.1 j hj with ⟨c, c2⟩ | ⟨d, c1, c2, -⟩ | ⟨c, -⟩
          · exact c2
          · rw [ej] at c2; rw [c2] at q; exact absurd q (nI_m1 (by omega))
          · rw [ej] at c; rw [c] at q; exact absurd q (nI_m1 (by omega))
        · have hu : upd g (fTo r N ou s k) (nI (st + 1)) j = g j := by unfold upd; rw [if_neg ej]
          rw [hu]
          exact h.1 j hj
      · intro j t hj ht hd hg
        unfold upd at hg ⊢
        by_cases e1 : fTo r N ou t j = fTo r N ou s k
        · rw [if_pos e1]
          exact nI_m1 (by omega)
        · rw [if_neg e1]
          by_cases e2 : j = fTo r N ou s k
          · rw [if_pos e2] at hg
            have := (nI_eq (by omega) (by omega)).mp hg
            omega
          · rw [if_neg e2] at hg
            rcases hd with hd | ⟨d1, d2⟩
            · exact h.2 j t hj ht hd hg
            · rw [d1, d2] at e1; exact absurd rfl e1
    · rw [if_neg q]
      have hu : upd g (fTo r N ou s k) (g (fTo r N ou s k)) = g := by
        funext j
        unfold upd
        split
        · rename_i e1; rw [e1]
        · rfl
      rw [hu]
      refine ⟨h.1, fun j t hj ht hd hg => ?_⟩
      rcases hd with hd | ⟨d1, d2⟩
      · exact h.2 j t hj ht hd hg
      · rw [d1, d2]; exact q
  · rw [if_neg e]
    refine ⟨h.1, fun j t hj ht hd hg => ?_⟩
    rcases hd with hd | ⟨d1, d2⟩
    · exact h.2 j t hj ht hd hg
    · rw [d1] at hg; exact absurd hg e
theorem fJ_weaken {r : Nat → Int32} {N : Nat} {ou : Int32} {a st : Nat} {d d' : Nat → Nat → Prop} {g : Nat → Int32} (h : fJ r N ou a st d g) (hd : ∀ k s, k < 64 → s < N → d' k s → d k s) : fJ r N ou a st d' g :=
  ⟨h.1, fun k s hk hs q => h.2 k s hk hs (hd k s hk hs q)⟩
theorem fJ_1 {r : Nat → Int32} {N : Nat} {ou : Int32} {a st k : Nat} {g : Nat → Int32} (h5 : N ≤ 5) (hst : st < 64) (hk : k < 64) (h : fJ r N ou a st (fun k' _ => k' < k) g) : ∀ s, s ≤ N → fJ r N ou a st (fun k' s' => k' < k ∨ (k' = k ∧ s' < s)) (mF1 r N ou st k g s)
  | 0, _ => fJ_weaken h (fun k' s' _ _ q => by omega)
  | s + 1, hs => by
    rw [mF1_to]
    refine fJ_weaken (fJ_step h5 hst hk (show s < N by omega) (fJ_1 h5 hst hk h s (by omega))) (fun k' s' _ _ q => ?_)
    omega
theorem fJ_2 {r : Nat → Int32} {N : Nat} {ou : Int32} {a st : Nat} {g : Nat → Int32} (h5 : N ≤ 5) (hst : st < 64) (h : fJ r N ou a st (fun _ _ => False) g) : ∀ k, k ≤ 64 → fJ r N ou a st (fun k' _ => k' < k) (mF2 r N ou st g k)
  | 0, _ => fJ_weaken h (fun k' s' _ _ q => by omega)
  | k + 1, hk => by
    rw [mF2]
    refine fJ_weaken (fJ_1 h5 hst (by omega) (fJ_2 h5 hst h k (by omega)) N (Nat.le_refl N)) (fun k' s' _ hs q => ?_)
    omega
def fI (r : Nat → Int32) (N : Nat) (ou : Int32) (a st : Nat) (g : Nat → Int32) : Prop :=
  ∀ k, k < 64 → (g k = -1 ∧ ∀ d, d ≤ st → ¬ fP r N ou a d k) ∨ (∃ d, d ≤ st ∧ g k = nI d ∧ fP r N ou a d k ∧ ∀ m, m < d → ¬ fP r N ou a m k)
theorem fI_step {r : Nat → Int32} {N : Nat} {ou : Int32} {a st : Nat} {g : Nat → Int32} (h5 : N ≤ 5) (hst : st < 64) (ha : a < 64) (h : fI r N ou a st g) : fI r N ou a (st + 1) (mF2 r N ou st g 64) := by
  have h0 : fJ r N ou a st (fun _ _ => False) g := ⟨fun k hk => (h k hk).imp id Or.inl, fun _ _ _ _ q => q.elim⟩
  have hJ := fJ_2 h5 hst h0 64 (Nat.le_refl 64)
  intro k hk
  rcases hJ.1 k hk with ⟨c1, c2⟩ | ⟨d, c1, c2, c3, c4⟩ | ⟨c1, c2, c3⟩
  · left
    refine ⟨c1, fun d hd hp => ?_⟩
    by_cases e : d ≤ st
    · exact c2 d e hp
    · have : d = st + 1 := by omega
      subst this
      obtain ⟨k', p1, s, p2, p3⟩ := hp
      have hk' := fP_64 h5 ha st k' p1
      have hg : mF2 r N ou st g 64 k' = nI st := by
        rcases hJ.1 k' hk' with ⟨q1, q2⟩ | ⟨d, q1, q2, q3, q4⟩ | ⟨q1, q2, q3⟩
        · exact absurd p1 (q2 st (Nat.le_refl st))
        · have : d = st := by
            rcases Nat.lt_or_ge d st with z | z
            · exfalso
              exact c2 (d + 1) (by omega) ⟨k', q3, s, p2, p3⟩
            · omega
          rw [q2, this]
        · exact absurd p1 (q3 st (Nat.le_refl st))
      exact hJ.2 k' s hk' p2 (by omega) hg (by rw [← p3]; exact c1)
  · exact Or.inr ⟨d, by omega, c2, c3, c4⟩
  · exact Or.inr ⟨st + 1, Nat.le_refl _, c1, c2, fun m hm => c3 m (by omega)⟩
theorem fI_all {r : Nat → Int32} {N : Nat} {ou : Int32} {a : Nat} (h5 : N ≤ 5) (ha : a < 64) : ∀ st, st ≤ 64 → fI r N ou a st (mF3 r N ou a st)
  | 0, _ => by
    intro k hk
    by_cases e : k = a
    · right
      exact ⟨0, Nat.le_refl 0, by show upd (fun _ => -1) a 0 k = _; unfold upd; rw [if_pos e]; rfl, e, fun m hm => by omega⟩
    · left
      refine ⟨by show upd (fun _ => -1) a 0 k = _; unfold upd; rw [if_neg e], fun d hd hp => ?_⟩
      have : d = 0 := by omega
      subst this
      exact e hp
  | st + 1, h => fI_step h5 (by omega) ha (fI_all h5 ha st (by omega))
-- the least of them
def fHit (g : Nat → Int32) (Y : Nat) (m k d : Nat) : Prop := k < m ∧ k % 8 = Y ∧ g k = nI d
theorem fFew {g : Nat → Int32} {Y : Nat} (hY : Y < 8) (hg : ∀ k, k < 64 → g k = -1 ∨ ∃ d, d ≤ 64 ∧ g k = nI d) : ∀ m, m ≤ 64 → (mFew g (nI Y) m = -1 ∧ ∀ k d, d ≤ 64 → ¬ fHit g Y m k d) ∨ (∃ k d, d ≤ 64 ∧ mFew g (nI Y) m = nI d ∧ fHit g Y m k d ∧ ∀ k' d', d' ≤ 64 → fHit g Y m k' d' → d ≤ d')
  | 0, _ => Or.inl ⟨rfl, fun k d _ h => by have := h.1; omega⟩
  | m + 1, hm => by
    have e : (nI (m % 8) = nI Y) ↔ m % 8 = Y := nI_eq (by omega) (by omega)
    rw [mFew]
    have up : ∀ {k d : Nat}, fHit g Y m k d → fHit g Y (m + 1) k d := fun h => ⟨by have := h.1; omega, h.2⟩
    have down : ∀ {k d : Nat}, fHit g Y (m + 1) k d → (k = m ∨ fHit g Y m k d) := fun {k d} h => by
      by_cases q : k = m
      · exact Or.inl q
      · exact Or.inr ⟨by have := h.1; omega, h.2⟩
    rcases hg m (by omega) with h1 | ⟨d0, h0, h1⟩
    · rw [if_neg (fun q => q.2.1 h1)]
      have no : ∀ d, d ≤ 64 → ¬ fHit g Y (m + 1) m d := fun d hd h => absurd (h1.symm.trans h.2.2).symm (nI_m1 (by omega))
      rcases fFew hY hg m (by omega) with ⟨a1, a2⟩ | ⟨k, d, a1, a2, a3, a4⟩
      · refine Or.inl ⟨a1, fun k d hd h => ?_⟩
        rcases down h with q | q
        · subst q; exact no d hd h
        · exact a2 k d hd q
      · refine Or.inr ⟨k, d, a1, a2, up a3, fun k' d' hd' h => ?_⟩
        rcases down h with q | q
        · subst q; exact absurd h (no d' hd')
        · exact a4 k' d' hd' q
    · have hne : ¬ g m = -1 := by rw [h1]; exact nI_m1 (by omega)
      by_cases c : m % 8 = Y
      · have hit : fHit g Y (m + 1) m d0 := ⟨by omega, c, h1⟩
        have same : ∀ {d}, d ≤ 64 → fHit g Y (m + 1) m d → d = d0 := fun {d} hd h => (nI_eq (by omega) (by omega)).mp (h.2.2.symm.trans h1)
        rcases fFew hY hg m (by omega) with ⟨a1, a2⟩ | ⟨k, d, a1, a2, a3, a4⟩
        · rw [if_pos ⟨e.mpr c, hne, Or.inl a1⟩]
          refine Or.inr ⟨m, d0, h0, h1, hit, fun k' d' hd' h => ?_⟩
          rcases down h with q | q
          · subst q; rw [same hd' h]; exact Nat.le_refl _
          · exact absurd q (a2 k' d' hd')
        · rw [a2, h1]
          by_cases lt : d0 < d
          · rw [if_pos ⟨e.mpr c, nI_m1 (by omega), Or.inr (nI_lt lt (by omega))⟩]
            refine Or.inr ⟨m, d0, h0, rfl, hit, fun k' d' hd' h => ?_⟩
            rcases down h with q | q
            · subst q; rw [same hd' h]; exact Nat.le_refl _
            · have := a4 k' d' hd' q; omega
          · rw [if_neg (fun q => q.2.2.elim (fun z => nI_m1 (by omega) z) (fun z => nI_nlt (by omega) (by omega) z))]
            refine Or.inr ⟨k, d, a1, rfl, up a3, fun k' d' hd' h => ?_⟩
            rcases down h with q | q
            · subst q; rw [same hd' h]; omega
            · exact a4 k' d' hd' q
      · rw [if_neg (fun q => c (e.mp q.1))]
        have no : ∀ d, ¬ fHit g Y (m + 1) m d := fun d h => c h.2.1
        rcases fFew hY hg m (by omega) with ⟨a1, a2⟩ | ⟨k, d, a1, a2, a3, a4⟩
        · refine Or.inl ⟨a1, fun k d hd h => ?_⟩
          rcases down h with q | q
          · subst q; exact no d h
          · exact a2 k d hd q
        · refine Or.inr ⟨k, d, a1, a2, up a3, fun k' d' hd' h => ?_⟩
          rcases down h with q | q
          · subst q; exact absurd h (no d')
          · exact a4 k' d' hd' q
-- ways from the front and from behind
theorem fP_front {r : Nat → Int32} {N : Nat} {ou : Int32} {a s : Nat} (hs : s < N) : ∀ n k, fP r N ou (fTo r N ou s a) n k → fP r N ou a (n + 1) k
  | 0, k, h => ⟨a, rfl, s, hs, h⟩
  | n + 1, k, ⟨k', h1, t, h2, h3⟩ => ⟨k', fP_front hs n k' h1, t, h2, h3⟩
theorem fP_split {r : Nat → Int32} {N : Nat} {ou : Int32} {a : Nat} : ∀ n k, fP r N ou a (n + 1) k → ∃ s, s < N ∧ fP r N ou (fTo r N ou s a) n k
  | 0, k, ⟨k', h1, s, h2, h3⟩ => ⟨s, h2, by have h1 : k' = a := h1; rw [h1] at h3; exact h3⟩
  | n + 1, k, ⟨k', h1, t, h2, h3⟩ => by
    obtain ⟨s, q1, q2⟩ := fP_split n k' h1
    exact ⟨s, q1, k', q2, t, h2, h3⟩
theorem fTo_eq {N : Nat} {kf sf r : Nat → Int32} (h : eK N kf sf r) {ou : Int32} {s L B : Nat} (hs : s < N) (hL : L < 7) (hB : B < 7) (hV : eVL N L) : fTo r N ou s (eC L B) = if eCn N kf ou L s then eC (eNx kf s) (eNb N kf L s) else eC L B := by
  unfold fTo
  rw [← eCounts h ou hs hL hB hV]
  unfold eCn
  rw [decide_eq_true hs, Bool.true_and]
  by_cases e : L = s + 1
  · rw [decide_eq_true e]
    simp only [Bool.not_true, Bool.false_and, Bool.false_eq_true, if_false]
    split
    · exact eBeh_self hB e
    · rfl
  · rw [decide_eq_false e]
    simp only [Bool.not_false, Bool.true_and]
    split
    · exact eBeh h hs hL hB e
    · rfl
theorem eR_P {N : Nat} {kf sf r : Nat → Int32} (h : eK N kf sf r) {ou : Int32} {X : Nat} (hX : X < 7) : ∀ n L B, L < 7 → B < 7 → eVL N L → eR N kf ou X n L B → ∃ k, k % 8 = eB X ∧ fP r N ou (eC L B) n k
  | 0, L, B, hL, hB, hV, hR => ⟨eC L B, by rw [eC_mod hB]; exact congrArg eB hR, rfl⟩
  | n + 1, L, B, hL, hB, hV, ⟨s, h1, h2, h3⟩ => by
    have a := eNx_7 (kf := kf) h.1 h1
    have b := eNb_6 (kf := kf) (L := L) h.1 h1
    obtain ⟨k, q1, q2⟩ := eR_P h hX n _ _ a.1 (by omega) a.2 h3
    refine ⟨k, q1, fP_front h1 n k ?_⟩
    rw [fTo_eq h h1 hL hB hV, if_pos h2]
    exact q2
theorem eB_inj {a b : Nat} (ha : a < 7) (hb : b < 7) (h : eB a = eB b) : a = b := by
  unfold eB at h
  split at h <;> split at h <;> omega
theorem eP_R {N : Nat} {kf sf r : Nat → Int32} (h : eK N kf sf r) {ou : Int32} {X : Nat} (hX : X < 7) : ∀ n L B k, L < 7 → B < 7 → eVL N L → k % 8 = eB X → fP r N ou (eC L B) n k → ∃ m, m ≤ n ∧ eR N kf ou X m L B
  | 0, L, B, k, hL, hB, hV, h8, hP => ⟨0, Nat.le_refl 0, by
      have hP : k = eC L B := hP
      rw [hP, eC_mod hB] at h8
      exact eB_inj hB hX h8⟩
  | n + 1, L, B, k, hL, hB, hV, h8, hP => by
    obtain ⟨s, h1, h2⟩ := fP_split n k hP
    rw [fTo_eq h h1 hL hB hV] at h2
    by_cases c : eCn N kf ou L s = true
    · rw [if_pos c] at h2
      have a := eNx_7 (kf := kf) h.1 h1
      have b := eNb_6 (kf := kf) (L := L) h.1 h1
      obtain ⟨m, q1, q2⟩ := eP_R h hX n _ _ k a.1 (by omega) a.2 h8 h2
      exact ⟨m + 1, by omega, s, h1, c, q2⟩
    · rw [if_neg c] at h2
      obtain ⟨m, q1, q2⟩ := eP_R h hX n L B k hL hB hV h8 h2
      exact ⟨m, by omega, q2⟩
theorem eFew_m {N : Nat} {kf sf r : Nat → Int32} (h : eK N kf sf r) {ou : Int32} {X L B : Nat} (hX : X < 6) (hL : L < 7) (hB : B < 6) (hV : eVL N L) : eFew N kf ou X L B (mFewest r N ou (eC L B) (nI (eB X))) := by
  have hk := eC_lt hL (show B < 7 by omega)
  have hI := fI_all (r := r) (ou := ou) h.1 hk 64 (Nat.le_refl 64)
  have hY : eB X < 8 := by unfold eB; split <;> omega
  unfold mFewest
  rcases fFew hY (fun k hk' => (hI k hk').imp And.left (fun ⟨d, a, b, _⟩ => ⟨d, a, b⟩)) 64 (Nat.le_refl 64) with ⟨a1, a2⟩ | ⟨k, d, a1, a2, a3, a4⟩
  · left
    refine ⟨a1, fun n hR => ?_⟩
    have : ∃ m, m ≤ 7 ∧ eR N kf ou X m L B := by
      by_cases hn : n = 0
      · subst hn; exact ⟨0, by omega, hR⟩
      · obtain ⟨m, q1, q2, q3⟩ := eR_7 h.1 (show 1 ≤ n by omega) hL (eR_any (by omega) hR)
        exact ⟨m, q2, eR_any q1 q3⟩
    obtain ⟨m, m1, m2⟩ := this
    obtain ⟨k, k1, k2⟩ := eR_P h (by omega) m L B hL (by omega) hV m2
    have hk64 := fP_64 h.1 hk m k k2
    rcases hI k hk64 with ⟨b1, b2⟩ | ⟨d, b1, b2, b3, b4⟩
    · exact b2 m (by omega) k2
    · exact a2 k d b1 ⟨hk64, k1, b2⟩
  · right
    rw [a2]
    have hd : fP r N ou (eC L B) d k := by
      rcases hI k a3.1 with ⟨b1, b2⟩ | ⟨d', b1, b2, b3, b4⟩
      · exact absurd (b1.symm.trans a3.2.2).symm (nI_m1 (by omega))
      · have : d' = d := (nI_eq (by omega) (by omega)).mp (b2.symm.trans a3.2.2)
        rw [← this]; exact b3
    have low : ∀ m, m < d → ¬ eR N kf ou X m L B := by
      intro m hm hR
      obtain ⟨k2, q1, q2⟩ := eR_P h (by omega) m L B hL (by omega) hV hR
      have hk2 := fP_64 h.1 hk m k2 q2
      rcases hI k2 hk2 with ⟨b1, b2⟩ | ⟨d', b1, b2, b3, b4⟩
      · exact b2 m (by omega) q2
      · have c1 := a4 k2 d' b1 ⟨hk2, q1, b2⟩
        exact b4 m (by omega) q2
    obtain ⟨m, q1, q2⟩ := eP_R h (by omega) d L B k hL (by omega) hV a3.2.1 hd
    have hmd : m = d := by
      rcases Nat.lt_or_ge m d with z | z
      · exact absurd q2 (low m z)
      · omega
    subst hmd
    refine ⟨m, ?_, rfl, q2, low⟩
    by_cases hm0 : m = 0
    · omega
    · obtain ⟨m', p1, p2, p3⟩ := eR_7 h.1 (show 1 ≤ m by omega) hL (eR_any (by omega) q2)
      rcases Nat.lt_or_ge m' m with z | z
      · exact absurd (eR_any p1 p3) (low m' z)
      · omega
/-- GET, how few: the same -/
theorem eFew_eq {N : Nat} {kf sf r : Nat → Int32} (h : eK N kf sf r) {ou : Int32} {X L B : Nat} (hX : X < 6) (hL : L < 7) (hB : B < 6) (hV : eVL N L) : jFew (jAim (jLT N kf ou) (jBT N kf ou) (pI X) 49) (pI L) (pI B) (pI X) = mFewest r N ou (eC L B) (nI (eB X)) :=
  eFew_one (eFew_j h.1 hX hL hB) (eFew_m h hX hL hB hV)
