/-! sums -/
def zS (f : Nat → Nat) : Nat → Nat
  | 0 => 0
  | n + 1 => zS f n + f n
theorem zS_congr {f g : Nat → Nat} : ∀ n, (∀ i, i < n → f i = g i) → zS f n = zS g n
  | 0, _ => rfl
  | n + 1, h => by rw [zS, zS, zS_congr n (fun i hi => h i (by omega)), h n (by omega)]
theorem zS_le {f g : Nat → Nat} : ∀ n, (∀ i, i < n → f i ≤ g i) → zS f n ≤ zS g n
  | 0, _ => Nat.le_refl _
  | n + 1, h => by
    rw [zS, zS]
    have := zS_le n (fun i hi => h i (by omega))
    have := h n (by omega)
    omega
theorem zS_zero {f : Nat → Nat} : ∀ n, (∀ i, i < n → f i = 0) → zS f n = 0
  | 0, _ => rfl
  | n + 1, h => by rw [zS, zS_zero n (fun i hi => h i (by omega)), h n (by omega)]
theorem zS_at {f : Nat → Nat} : ∀ n i, i < n → f i ≤ zS f n
  | 0, i, h => by omega
  | n + 1, i, h => by
    rw [zS]
    by_cases e : i = n
    · subst e; omega
    · have := zS_at (f := f) n i (show i < n by omega)
      omega
theorem zS_add {f g : Nat → Nat} : ∀ n, zS (fun i => f i + g i) n = zS f n + zS g n
  | 0 => rfl
  | n + 1 => by rw [zS, zS, zS, zS_add n]; omega
theorem zS_mulr {f : Nat → Nat} {c : Nat} : ∀ n, zS f n * c = zS (fun i => f i * c) n
  | 0 => Nat.zero_mul c
  | n + 1 => by rw [zS, zS, Nat.add_mul, zS_mulr n]
theorem zS_swap {f : Nat → Nat → Nat} {m : Nat} : ∀ n, zS (fun i => zS (fun j => f i j) m) n = zS (fun j => zS (fun i => f i j) n) m
  | 0 => (zS_zero m (fun _ _ => rfl)).symm
  | n + 1 => by
    rw [zS, zS_swap n]
    exact (zS_add (f := fun j => zS (fun i => f i j) n) (g := fun j => f n j) m).symm
theorem zS_delta {f : Nat → Nat} {a : Nat} : ∀ n, zS (fun i => if a = i then f i else 0) n = if a < n then f a else 0
  | 0 => by rw [if_neg (by omega)]; rfl
  | n + 1 => by
    rw [zS, zS_delta n]
    by_cases e : a = n
    · subst e; rw [if_neg (by omega), if_pos rfl, if_pos (by omega)]; omega
    · rw [if_neg e]
      by_cases q : a < n
      · rw [if_pos q, if_pos (by omega), Nat.add_zero]
      · rw [if_neg q, if_neg (by omega)]
theorem zS_app {f : Nat → Nat} {m : Nat} : ∀ n, zS f (m + n) = zS f m + zS (fun i => f (m + i)) n
  | 0 => rfl
  | n + 1 => by rw [← Nat.add_assoc, zS, zS, zS_app n]; omega
theorem zS_flat {f : Nat → Nat} {n : Nat} : ∀ m, zS f (n * m) = zS (fun i => zS (fun j => f (n * i + j)) n) m
  | 0 => rfl
  | m + 1 => by rw [Nat.mul_succ, zS_app, zS_flat m]; rfl
theorem zS_scatter {c : Nat → Bool} {tg v X : Nat → Nat} {n J : Nat} (h : ∀ j, j < J → c j = true → tg j < n) :
    zS (fun p => zS (fun j => if c j = true ∧ tg j = p then v j else 0) J * X p) n = zS (fun j => if c j = true then v j * X (tg j) else 0) J := by
  rw [zS_congr n (fun p _ => zS_mulr J), zS_swap n]
  refine zS_congr J (fun j hj => ?_)
  by_cases q : c j = true
  · rw [if_pos q, zS_congr n (g := fun p => if tg j = p then v j * X p else 0) (fun p _ => by
      by_cases e : tg j = p
      · rw [if_pos ⟨q, e⟩, if_pos e]
      · rw [if_neg (fun z => e z.2), if_neg e, Nat.zero_mul]), zS_delta, if_pos (h j hj q)]
  · rw [if_neg q]
    refine zS_zero n (fun p _ => ?_)
    rw [if_neg (fun z => q z.1), Nat.zero_mul]
/-! in how many ways -/
def hOk (N : Nat) (kf : Nat → Int32) (ou : Int32) (al : Nat → Nat → Bool) (n L s : Nat) : Bool := eCn N kf ou L s && al (n + 1) (eNb N kf L s)
def hC (N : Nat) (kf : Nat → Int32) (ou : Int32) (al : Nat → Nat → Bool) (L0 a0 : Nat) : Nat → Nat → Nat
  | 0 => fun L => if L0 = L then a0 else 0
  | n + 1 => fun L' => zS (fun j => if hOk N kf ou al n (j / 5) (j % 5) = true ∧ eNx kf (j % 5) = L' then hC N kf ou al L0 a0 n (j / 5) else 0) 35
def hT (N : Nat) (kf : Nat → Int32) (ou : Int32) (al : Nat → Nat → Bool) (n : Nat) (X : Nat → Nat) (L : Nat) : Nat := zS (fun s => if hOk N kf ou al n L s = true then X (eNx kf s) else 0) 5
theorem hOk_N {N : Nat} {kf : Nat → Int32} {ou : Int32} {al : Nat → Nat → Bool} {n L s : Nat} (h : hOk N kf ou al n L s = true) : s < N := by
  unfold hOk at h
  simp only [Bool.and_eq_true] at h
  exact (eCn_N h.1).1
theorem hC_step {N : Nat} {kf : Nat → Int32} {ou : Int32} {al : Nat → Nat → Bool} {L0 a0 n : Nat} {X : Nat → Nat} (h5 : N ≤ 5) : zS (fun L => hC N kf ou al L0 a0 (n + 1) L * X L) 7 = zS (fun L => hC N kf ou al L0 a0 n L * hT N kf ou al n X L) 7 := by
  have e := zS_scatter (c := fun j => hOk N kf ou al n (j / 5) (j % 5)) (tg := fun j => eNx kf (j % 5)) (v := fun j => hC N kf ou al L0 a0 n (j / 5)) (X := X) (n := 7) (J := 35) (fun j _ hj => (eNx_7 (kf := kf) h5 (hOk_N hj)).1)
  refine Eq.trans e ?_
  rw [show (35 : Nat) = 5 * 7 from rfl, zS_flat 7]
  refine zS_congr 7 (fun L hL => ?_)
  unfold hT
  rw [Nat.mul_comm (hC N kf ou al L0 a0 n L) (zS _ 5), zS_mulr]
  refine zS_congr 5 (fun s hs => ?_)
  rw [show (5 * L + s) / 5 = L from by omega, show (5 * L + s) % 5 = s from by omega]
  by_cases q : hOk N kf ou al n L s = true
  · rw [if_pos q, if_pos q, Nat.mul_comm]
  · rw [if_neg q, if_neg q, Nat.zero_mul]
theorem hC_0 {N : Nat} {kf : Nat → Int32} {ou : Int32} {al : Nat → Nat → Bool} {L0 a0 : Nat} {X : Nat → Nat} (h : L0 < 7) : zS (fun L => hC N kf ou al L0 a0 0 L * X L) 7 = a0 * X L0 := by
  rw [zS_congr 7 (g := fun L => if L0 = L then a0 * X L else 0) (fun L _ => by
    show (if L0 = L then a0 else 0) * X L = _
    by_cases e : L0 = L
    · rw [if_pos e, if_pos e]
    · rw [if_neg e, if_neg e, Nat.zero_mul]), zS_delta, if_pos h]
-- the reference's
def mhOk (r : Nat → Int32) (N : Nat) (ou : Int32) (he : Nat → Int32) (t n k s : Nat) : Bool := mOk r N ou he t n k s
def hc (r : Nat → Int32) (N : Nat) (ou : Int32) (he : Nat → Int32) (t k0 a0 : Nat) : Nat → Nat → Nat
  | 0 => fun k => if k0 = k then a0 else 0
  | n + 1 => fun k' => zS (fun k => zS (fun s => if mOk r N ou he t n k s = true ∧ mBeh r N s k = k' then hc r N ou he t k0 a0 n k else 0) N) 64
def hTm (r : Nat → Int32) (N : Nat) (ou : Int32) (he : Nat → Int32) (t n : Nat) (X : Nat → Nat) (k : Nat) : Nat := zS (fun s => if mOk r N ou he t n k s = true then X (mBeh r N s k) else 0) N
theorem hc_step {r : Nat → Int32} {N : Nat} {ou : Int32} {he : Nat → Int32} {t k0 a0 n : Nat} {X : Nat → Nat} (h5 : N ≤ 5) : zS (fun k => hc r N ou he t k0 a0 (n + 1) k * X k) 64 = zS (fun k => hc r N ou he t k0 a0 n k * hTm r N ou he t n X k) 64 := by
  have e1 : ∀ p, hc r N ou he t k0 a0 (n + 1) p * X p = zS (fun k => zS (fun s => if mOk r N ou he t n k s = true ∧ mBeh r N s k = p then hc r N ou he t k0 a0 n k else 0) N * X p) 64 := fun p => zS_mulr 64
  rw [zS_congr 64 (fun p _ => e1 p), zS_swap 64]
  refine zS_congr 64 (fun k hk => ?_)
  have e2 := zS_scatter (c := fun s => mOk r N ou he t n k s) (tg := fun s => mBeh r N s k) (v := fun _ => hc r N ou he t k0 a0 n k) (X := X) (n := 64) (J := N) (fun s hs _ => mBeh_64 hk hs h5)
  refine Eq.trans e2 ?_
  unfold hTm
  rw [Nat.mul_comm (hc r N ou he t k0 a0 n k) (zS _ N), zS_mulr]
  refine zS_congr N (fun s hs => ?_)
  by_cases q : mOk r N ou he t n k s = true
  · rw [if_pos q, if_pos q, Nat.mul_comm]
  · rw [if_neg q, if_neg q, Nat.zero_mul]
theorem hc_0 {r : Nat → Int32} {N : Nat} {ou : Int32} {he : Nat → Int32} {t k0 a0 : Nat} {X : Nat → Nat} (h : k0 < 64) : zS (fun k => hc r N ou he t k0 a0 0 k * X k) 64 = a0 * X k0 := by
  rw [zS_congr 64 (g := fun k => if k0 = k then a0 * X k else 0) (fun k _ => by
    show (if k0 = k then a0 else 0) * X k = _
    by_cases e : k0 = k
    · rw [if_pos e, if_pos e]
    · rw [if_neg e, if_neg e, Nat.zero_mul]), zS_delta, if_pos h]
/-- what was heard, on both sides -/
def eH (t : Nat) (ftw fts he : Nat → Int32) : Prop := ∀ i, i < t → he (2 * i) = ftw i ∧ ∃ b, b < 6 ∧ fts i = pI b ∧ he (2 * i + 1) = nI (eB b)
theorem eHeard {t : Nat} {ftw fts he : Nat → Int32} (h : eH t ftw fts he) {x : Int32} {L B : Nat} (hB : B < 6) : ∀ m, m ≤ t → (mHeard he x (eC L B) m = true ↔ ∀ i, i < m → ftw i = x → fts i = pI B)
  | 0, _ => ⟨fun _ i hi => by omega, fun _ => rfl⟩
  | m + 1, hm => by
    obtain ⟨a1, b, b1, b2, b3⟩ := h m (by omega)
    have e : (nI (eB b) = nI (eB B)) ↔ fts m = pI B := by
      rw [b2, nI_eq (by unfold eB; split <;> omega) (by unfold eB; split <;> omega)]
      constructor
      · intro q; rw [eB_inj (by omega) (by omega) q]
      · intro q; rw [(pI_inj b (by omega) B (by omega)).mp q]
    rw [mHeard, eC_mod (show B < 7 by omega), a1, b3]
    simp only [Bool.and_eq_true, Bool.or_eq_true, Bool.not_eq_true', decide_eq_true_eq, decide_eq_false_iff_not]
    rw [eHeard h hB m (by omega), e]
    constructor
    · rintro ⟨q1, q2⟩ i hi hx
      by_cases z : i = m
      · subst z; exact q2.resolve_left (fun z => z hx)
      · exact q1 i (by omega) hx
    · intro q
      refine ⟨fun i hi hx => q i (by omega) hx, ?_⟩
      by_cases z : ftw m = x
      · exact Or.inr (q m (by omega) z)
      · exact Or.inl z
theorem eAllows {t : Nat} {ftw fts he : Nat → Int32} (h : eH t ftw fts he) {x : Int32} {L B : Nat} (hB : B < 6) : mHeard he x (eC L B) t = jAllows t ftw fts x (pI B) := by
  rw [Bool.eq_iff_iff, eHeard h hB t (Nat.le_refl t)]
  unfold jAllows
  rw [decide_eq_true_eq]
def eAl (t : Nat) (ftw fts : Nat → Int32) (w B : Nat) : Bool := jAllows t ftw fts (nI w) (pI B)
theorem eMok {N : Nat} {kf sf r : Nat → Int32} (h : eK N kf sf r) {t : Nat} {ftw fts he : Nat → Int32} (hh : eH t ftw fts he) {ou : Int32} {n s L B : Nat} (hs : s < N) (hL : L < 7) (hB : B < 6) (hV : eVL N L) : mOk r N ou he t n (eC L B) s = hOk N kf ou (eAl t ftw fts) n L s := by
  unfold mOk hOk eCn
  rw [← eCounts h ou hs hL (show B < 7 by omega) hV, eC_div (show B < 7 by omega), decide_eq_true hs, Bool.true_and]
  have e1 : (eL L = s) ↔ L = s + 1 := by unfold eL; have := h.1; split <;> omega
  rw [decide_eq_decide.mpr e1]
  by_cases l : L = s + 1
  · rw [decide_eq_true l]; simp
  · rw [decide_eq_false l, eBeh h hs hL (show B < 7 by omega) l, eAllows hh (eNb_6 (kf := kf) (L := L) h.1 hs).1]
    unfold eAl
    cases jCounts N kf (nI s) (pI L) ou <;> rfl
/-- of what hangs on the last one alone, both sums are the same -/
theorem eSame {N : Nat} {kf sf r : Nat → Int32} (h : eK N kf sf r) {t : Nat} {ftw fts he : Nat → Int32} (hh : eH t ftw fts he) {ou : Int32} {L0 B0 a0 : Nat} (hL0 : L0 < 7) (hB0 : B0 < 6) (hV0 : eVL N L0) :
    ∀ (n : Nat) (X X' : Nat → Nat), (∀ L B, L < 7 → B < 6 → eVL N L → X' (eC L B) = X L) → zS (fun k => hc r N ou he t (eC L0 B0) a0 n k * X' k) 64 = zS (fun L => hC N kf ou (eAl t ftw fts) L0 a0 n L * X L) 7
  | 0, X, X', hX => by rw [hc_0 (eC_lt hL0 (by omega)), hC_0 hL0, hX L0 B0 hL0 hB0 hV0]
  | n + 1, X, X', hX => by
    rw [hc_step h.1, hC_step h.1]
    refine eSame h hh hL0 hB0 hV0 n _ _ (fun L B hL hB hV => ?_)
    unfold hTm hT
    have e5 : zS (fun s => if hOk N kf ou (eAl t ftw fts) n L s = true then X (eNx kf s) else 0) 5 = zS (fun s => if hOk N kf ou (eAl t ftw fts) n L s = true then X (eNx kf s) else 0) N := by
      have h5 := h.1
      rw [show (5 : Nat) = N + (5 - N) from by omega, zS_app, zS_zero (5 - N) (fun i hi => if_neg (fun q => by have := hOk_N q; omega))]
      rfl
    rw [e5]
    refine zS_congr N (fun s hs => ?_)
    rw [eMok h hh hs hL hB hV]
    by_cases q : hOk N kf ou (eAl t ftw fts) n L s = true
    · rw [if_pos q, if_pos q]
      have q2 := q
      unfold hOk at q2
      simp only [Bool.and_eq_true] at q2
      have a := eNx_7 (kf := kf) h.1 hs
      have b := eNb_6 (kf := kf) (L := L) h.1 hs
      rw [eBeh h hs hL (show B < 7 by omega) (eCn_N q2.1).2, hX _ _ a.1 b.1 a.2]
    · rw [if_neg q, if_neg q]
