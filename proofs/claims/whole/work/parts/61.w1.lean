/-! the relation that the law's loop keeps -/
def wT (N : Nat) (kf sf : Nat → Int32) (p L B a : Nat) (fw r : Nat → Int32) : Prop := L < 7 ∧ B < 6 ∧ eVL N L ∧ eVB N B ∧ a < p ∧ eK N kf sf r ∧ ∀ s, s < N → r (3 * s + 2) = fw s
theorem wT_of {N : Nat} {kf sf : Nat → Int32} {p : Nat} {g : jT} {g' : mT} (h : eT N kf sf p g g') : ∃ (L B a : Nat) (ou en w0 w1 br : Int32) (fw r : Nat → Int32), g = (pI L, pI B, ou, nI a, en, w0, w1, br, fw) ∧ g' = (eC L B, ou, nI a, en, w0, w1, br, r) ∧ wT N kf sf p L B a fw r := by
  obtain ⟨la, be, ou, si, en, w0, w1, br, fw⟩ := g
  obtain ⟨k, ou', si', en', w0', w1', br', r⟩ := g'
  obtain ⟨L, B, a, hL, hB, hV, hb, ha, e1, e2, e3, e4, e5, e6, e7, e8, e9, e10, hK, hw⟩ := h
  dsimp only at e1 e2 e3 e4 e5 e6 e7 e8 e9 e10 hK hw
  subst e1 e2 e3
  subst e5 e6
  replace e4 := e4.symm
  replace e7 := e7.symm
  replace e8 := e8.symm
  replace e9 := e9.symm
  replace e10 := e10.symm
  subst e4 e7 e8 e9 e10
  exact ⟨L, B, a, ou, en, w0, w1, br, fw, r, rfl, rfl, hL, hB, hV, hb, ha, hK, hw⟩
theorem eT_of {N : Nat} {kf sf : Nat → Int32} {p L B a : Nat} {fw r : Nat → Int32} (h : wT N kf sf p L B a fw r) (ou en w0 w1 br : Int32) : eT N kf sf p (pI L, pI B, ou, nI a, en, w0, w1, br, fw) (eC L B, ou, nI a, en, w0, w1, br, r) := by
  obtain ⟨h1, h2, h3, h4, h5, h6, h7⟩ := h
  exact ⟨L, B, a, h1, h2, h3, h4, h5, rfl, rfl, rfl, rfl, rfl, rfl, rfl, rfl, rfl, rfl, h6, h7⟩
theorem wBreath {N : Nat} {kf sf : Nat → Int32} {p L B a : Nat} {fw r : Nat → Int32} {ou en w0 w1 br : Int32} (hp : p ≤ 9) (h : wT N kf sf p L B a fw r) (x : Int32) :
    mMany N r ou x (eC L B) = (jBr N kf ou (pI L) x 5).1 ∧ ∃ (L' B' a' : Nat) (ou' en' w0' w1' br' : Int32) (fw' r' : Nat → Int32), jBreathe N kf sf (nI p) x (pI L) (pI B) ou (nI a) en w0 w1 br fw = (pI L', pI B', ou', nI a', en', w0', w1', br', fw') ∧ mGoes N (nI p) x (eC L B) ou (nI a) en w0 w1 br r = (eC L' B', ou', nI a', en', w0', w1', br', r') ∧ wT N kf sf p L' B' a' fw' r' := by
  obtain ⟨b1, b2⟩ := eBreath hp x (eT_of h ou en w0 w1 br)
  exact ⟨b2, wT_of b1⟩
theorem wSess {N : Nat} {kf sf : Nat → Int32} {p L B a : Nat} {fw r : Nat → Int32} {pt ou en w0 w1 br : Int32} (hp : p ≤ 9) (h : wT N kf sf p L B a fw r) (hpt : N = 0 ∨ pt = nI p) (b sd wh : Int32) :
    jSess N kf sf pt (pI L, pI B, ou, nI a, en, w0, w1, br, fw) b sd wh = mSess N pt (eC L B, ou, nI a, en, w0, w1, br, r) b sd wh := by
  rcases hpt with e | e
  · have q := eSess hp (eT_of h ou en w0 w1 br) b sd wh
    subst e
    unfold jSess mSess at q ⊢
    by_cases c : b < 1 ∨ 60 < b ∨ sd < 0 ∨ wh < 0 ∨ 3 ≤ wh
    · rw [if_pos c] at q ⊢
      by_cases d : mIn b 1 60 = true ∧ ¬ sd < 0 ∧ mIn wh 0 2 = true
      · rw [if_pos d, if_pos rfl] at q ⊢; exact q
      · rw [if_neg d]
    · rw [if_neg c, if_pos (by omega)] at q ⊢
      by_cases d : mIn b 1 60 = true ∧ ¬ sd < 0 ∧ mIn wh 0 2 = true
      · rw [if_pos d, if_pos rfl]
      · rw [if_neg d] at q ⊢; exact q
  · rw [e]
    exact eSess hp (eT_of h ou en w0 w1 br) b sd wh
theorem wCourt {f r kf sf : Nat → Int32} {n : Nat} (hw : jWhole n f = true) : ∃ p, 1 ≤ p ∧ p ≤ 9 ∧ f (n - 1) - 48 = nI p ∧ wT (jSeats n) (jSitK n f kf) (jSitS n f sf) p 0 0 0 (fun _ => 0) (mRows n f r) := by
  obtain ⟨p, p1, p2, p3, L, B, a, h1, h2, h3, h4, h5, -, -, -, -, -, -, -, -, -, -, h6, h7⟩ := eCourt (r := r) (kf := kf) (sf := sf) hw
  exact ⟨p, p1, p2, p3, by omega, by omega, Or.inl (Nat.zero_le _), Nat.zero_le _, by omega, h6, h7⟩
theorem wT_0 {kf sf fw r : Nat → Int32} : wT 0 kf sf 1 0 0 0 fw r := ⟨by omega, by omega, Or.inl (Nat.zero_le _), Nat.zero_le _, by omega, ⟨by omega, fun s hs => by omega⟩, fun s hs => by omega⟩
/-- the image, on both sides: kept or not -/
def wI (N : Nat) (kf sf : Nat → Int32) (p c : Nat) (ik cr kc kt la1 be1 ou1 si1 en1 w01 w11 br1 td1 : Int32) (fw1 ftw1 fts1 kn kr kh : Nat → Int32) : Prop :=
  cr = nI c ∧ ((ik = 0 ∧ (kc = -1 ∨ ∃ c', c' < c ∧ kc = nI c')) ∨ (ik = 1 ∧ kc = nI c ∧ ∃ L B a t, t ≤ 8 ∧ la1 = pI L ∧ be1 = pI B ∧ si1 = nI a ∧ td1 = nI t ∧ kt = nI t ∧ kn 0 = nI (eC L B) ∧ kn 1 = ou1 ∧ kn 2 = nI a ∧ kn 3 = en1 ∧ kn 4 = w01 ∧ kn 5 = w11 ∧ kn 6 = br1 ∧ wT N kf sf p L B a fw1 kr ∧ eH t ftw1 fts1 kh))
theorem wI_no {N : Nat} {kf sf : Nat → Int32} {p c : Nat} {ik cr kc kt la1 be1 ou1 si1 en1 w01 w11 br1 td1 : Int32} {fw1 ftw1 fts1 kn kr kh : Nat → Int32} (hc : c < 1000) (h : wI N kf sf p c ik cr kc kt la1 be1 ou1 si1 en1 w01 w11 br1 td1 fw1 ftw1 fts1 kn kr kh) : ik = 0 ↔ ¬ kc = cr := by
  obtain ⟨rfl, ⟨rfl, h⟩ | ⟨rfl, rfl, h⟩⟩ := h
  · refine ⟨fun _ => ?_, fun _ => rfl⟩
    rcases h with rfl | ⟨c', h1, rfl⟩
    · exact fun q => nI_m1 (by omega) q.symm
    · intro q
      have := (nI_eq (by omega) (by omega)).mp q
      omega
  · exact ⟨fun q => absurd q (by decide), fun q => absurd rfl q⟩
theorem wI_court {N N' : Nat} {kf sf kf' sf' : Nat → Int32} {p p' c : Nat} {ik cr kc kt la1 be1 ou1 si1 en1 w01 w11 br1 td1 : Int32} {fw1 ftw1 fts1 kn kr kh : Nat → Int32} (h : wI N kf sf p c ik cr kc kt la1 be1 ou1 si1 en1 w01 w11 br1 td1 fw1 ftw1 fts1 kn kr kh) : wI N' kf' sf' p' (c + 1) 0 (cr + 1) kc kt la1 be1 ou1 si1 en1 w01 w11 br1 td1 fw1 ftw1 fts1 kn kr kh := by
  obtain ⟨rfl, ⟨rfl, h⟩ | ⟨rfl, rfl, h⟩⟩ := h
  · refine ⟨nI_1 c, Or.inl ⟨rfl, ?_⟩⟩
    rcases h with e | ⟨c', h1, e⟩
    · exact Or.inl e
    · exact Or.inr ⟨c', by omega, e⟩
  · exact ⟨nI_1 c, Or.inl ⟨rfl, Or.inr ⟨c, by omega, rfl⟩⟩⟩
theorem wI_0 {N : Nat} {kf sf : Nat → Int32} {p : Nat} {kt la1 be1 ou1 si1 en1 w01 w11 br1 td1 : Int32} {fw1 ftw1 fts1 kn kr kh : Nat → Int32} : wI N kf sf p 0 0 0 (-1) kt la1 be1 ou1 si1 en1 w01 w11 br1 td1 fw1 ftw1 fts1 kn kr kh := ⟨rfl, Or.inl ⟨rfl, Or.inl rfl⟩⟩
theorem wI_image {N : Nat} {kf sf : Nat → Int32} {p c L B a t : Nat} {ou en w0 w1 br : Int32} {fw ftw fts r he kn : Nat → Int32} (ht : t ≤ 8) (h : wT N kf sf p L B a fw r) (hh : eH t ftw fts he) : wI N kf sf p c 1 (nI c) (nI c) (nI t) (pI L) (pI B) ou (nI a) en w0 w1 br (nI t) fw ftw fts (mAll kn (nI (eC L B)) ou (nI a) en w0 w1 br) r he :=
  ⟨rfl, Or.inr ⟨rfl, rfl, L, B, a, t, ht, rfl, rfl, rfl, rfl, rfl, rfl, rfl, rfl, rfl, rfl, rfl, rfl, h, hh⟩⟩
