theorem z_out0_17 {x : Int32} (h0 : ¬ x = 0) (h1 : ¬ x = 1) (h2 : ¬ x = 2) (h3 : ¬ x = 3) (h4 : ¬ x = 4) (h5 : ¬ x = 5) (h6 : ¬ x = 6) (h7 : ¬ x = 7) (h8 : ¬ x = 8) (h9 : ¬ x = 9) (h10 : ¬ x = 10) (h11 : ¬ x = 11) (h12 : ¬ x = 12) (h13 : ¬ x = 13) (h14 : ¬ x = 14) (h15 : ¬ x = 15) (h16 : ¬ x = 16) (h17 : ¬ x = 17) : x.toInt < 0 ∨ 17 < x.toInt := by
  have a0 : ¬ x.toInt = 0 := fun h => h0 (z_toInt h 0 rfl)
  have a1 : ¬ x.toInt = 1 := fun h => h1 (z_toInt h 1 rfl)
  have a2 : ¬ x.toInt = 2 := fun h => h2 (z_toInt h 2 rfl)
  have a3 : ¬ x.toInt = 3 := fun h => h3 (z_toInt h 3 rfl)
  have a4 : ¬ x.toInt = 4 := fun h => h4 (z_toInt h 4 rfl)
  have a5 : ¬ x.toInt = 5 := fun h => h5 (z_toInt h 5 rfl)
  have a6 : ¬ x.toInt = 6 := fun h => h6 (z_toInt h 6 rfl)
  have a7 : ¬ x.toInt = 7 := fun h => h7 (z_toInt h 7 rfl)
  have a8 : ¬ x.toInt = 8 := fun h => h8 (z_toInt h 8 rfl)
  have a9 : ¬ x.toInt = 9 := fun h => h9 (z_toInt h 9 rfl)
  have a10 : ¬ x.toInt = 10 := fun h => h10 (z_toInt h 10 rfl)
  have a11 : ¬ x.toInt = 11 := fun h => h11 (z_toInt h 11 rfl)
  have a12 : ¬ x.toInt = 12 := fun h => h12 (z_toInt h 12 rfl)
  have a13 : ¬ x.toInt = 13 := fun h => h13 (z_toInt h 13 rfl)
  have a14 : ¬ x.toInt = 14 := fun h => h14 (z_toInt h 14 rfl)
  have a15 : ¬ x.toInt = 15 := fun h => h15 (z_toInt h 15 rfl)
  have a16 : ¬ x.toInt = 16 := fun h => h16 (z_toInt h 16 rfl)
  have a17 : ¬ x.toInt = 17 := fun h => h17 (z_toInt h 17 rfl)
  omega
theorem w_end : ∀ n : Nat, n < 4 → ∀ i : Nat, i < 4 → nI n - 4 < nI i := by decide
theorem w_room {n i : Nat} (hn : n ≤ 256) (hi : i ≤ n) (h : ¬ nI n - 4 < nI i) : i + 4 ≤ n := by
  by_cases h4 : n < 4
  · exact absurd (w_end n h4 i (by omega)) h
  · obtain ⟨k, rfl⟩ : ∃ k, n = k + 4 := ⟨n - 4, by omega⟩
    have e : nI (k + 4) - 4 = nI k := by
      rw [← show nI k + 4 = nI (k + 4) from nI_add k 4]
      exact Int32.add_sub_cancel _ _
    rw [e] at h
    have : ¬ k < i := fun q => h ((nI_ltI (by omega) (by omega)).mpr q)
    omega
theorem wHear {N t : Nat} {ftw fts he : Nat → Int32} (h5 : N ≤ 5) (ht : t ≤ 8) (h : eH t ftw fts he) (x y : Int32) : (if jHearOk N t x y then t + 1 else t) ≤ 8 ∧ eH (if jHearOk N t x y then t + 1 else t) (if jHearOk N t x y then upd ftw t x else ftw) (if jHearOk N t x y then upd fts t y else fts) (if jHearOk N t x y then upd (upd he (2 * t) x) (2 * t + 1) (if y = -1 then 7 else y) else he) := by
  by_cases ok : jHearOk N t x y = true
  · simp only [if_pos ok]
    rw [eHearOk h5] at ok
    have := eHeard1 h5 h ok
    exact ⟨by omega, this.1⟩
  · simp only [if_neg ok]
    exact ⟨ht, h⟩
theorem wLet {n : Nat} (hn : n ≤ 18) (x : Int32) : (if jLetOk n x then n + 1 else n) ≤ 18 := by
  by_cases ok : jLetOk n x = true
  · rw [if_pos ok]
    unfold jLetOk at ok
    simp only [Bool.and_eq_true, decide_eq_true_eq] at ok
    omega
  · rw [if_neg ok]
    exact hn
/-- what the loop keeps -/
def lwI (cA : ClassId) (q : Nat → Nat) (i : Nat) (V : va_W) : Prop := ∃ (n : Nat) (N : Nat) (t : Nat) (L : Nat) (B : Nat) (a : Nat) (f : Nat → Int32) (kf : Nat → Int32) (sf : Nat → Int32) (pt : Int32) (ou : Int32) (en : Int32) (w0 : Int32) (w1 : Int32) (br : Int32) (fw : Nat → Int32) (ftw : Nat → Int32) (fts : Nat → Int32) (ik : Int32) (cr : Int32) (la1 : Int32) (be1 : Int32) (ou1 : Int32) (si1 : Int32) (en1 : Int32) (w01 : Int32) (w11 : Int32) (br1 : Int32) (td1 : Int32) (fw1 : Nat → Int32) (ftw1 : Nat → Int32) (fts1 : Nat → Int32) (I2 : Nat → Int32) (F2 : Nat → Nat → Int32) (G : Nat → Nat → Int32) (J : Nat → Int32) (kt : Int32) (kc : Int32) (ha : Int64) (r : Nat → Int32) (he : Nat → Int32) (kr : Nat → Int32) (kn : Nat → Int32) (kh : Nat → Int32) (K : Nat → Nat → Int32) (pp cc : Nat), V = lw cA q n N t L B a f kf sf pt ou en w0 w1 br fw ftw fts ik cr la1 be1 ou1 si1 en1 w01 w11 br1 td1 fw1 ftw1 fts1 I2 F2 G J kt kc ha r he kr kn kh K ∧ n ≤ 18 ∧ t ≤ 8 ∧ 1 ≤ pp ∧ pp ≤ 9 ∧ (N = 0 ∨ pt = nI pp) ∧ wT N kf sf pp L B a fw r ∧ eH t ftw fts he ∧ wI N kf sf pp cc ik cr kc kt la1 be1 ou1 si1 en1 w01 w11 br1 td1 fw1 ftw1 fts1 kn kr kh ∧ 4 * cc ≤ i
theorem lwI_mk {i : Nat} {cA : ClassId} {q : Nat → Nat} {n : Nat} {N : Nat} {t : Nat} {L : Nat} {B : Nat} {a : Nat} {f : Nat → Int32} {kf : Nat → Int32} {sf : Nat → Int32} {pt : Int32} {ou : Int32} {en : Int32} {w0 : Int32} {w1 : Int32} {br : Int32} {fw : Nat → Int32} {ftw : Nat → Int32} {fts : Nat → Int32} {ik : Int32} {cr : Int32} {la1 : Int32} {be1 : Int32} {ou1 : Int32} {si1 : Int32} {en1 : Int32} {w01 : Int32} {w11 : Int32} {br1 : Int32} {td1 : Int32} {fw1 : Nat → Int32} {ftw1 : Nat → Int32} {fts1 : Nat → Int32} {I2 : Nat → Int32} {F2 : Nat → Nat → Int32} {G : Nat → Nat → Int32} {J : Nat → Int32} {kt : Int32} {kc : Int32} {ha : Int64} {r : Nat → Int32} {he : Nat → Int32} {kr : Nat → Int32} {kn : Nat → Int32} {kh : Nat → Int32} {K : Nat → Nat → Int32} {pp cc : Nat} (h0 : n ≤ 18) (h1 : t ≤ 8) (h2 : 1 ≤ pp) (h3 : pp ≤ 9) (h4 : N = 0 ∨ pt = nI pp) (h5 : wT N kf sf pp L B a fw r) (h6 : eH t ftw fts he) (h7 : wI N kf sf pp cc ik cr kc kt la1 be1 ou1 si1 en1 w01 w11 br1 td1 fw1 ftw1 fts1 kn kr kh) (h8 : 4 * cc ≤ i) : lwI cA q i (lw cA q n N t L B a f kf sf pt ou en w0 w1 br fw ftw fts ik cr la1 be1 ou1 si1 en1 w01 w11 br1 td1 fw1 ftw1 fts1 I2 F2 G J kt kc ha r he kr kn kh K) := ⟨_, _, _, _, _, _, _, _, _, _, _, _, _, _, _, _, _, _, _, _, _, _, _, _, _, _, _, _, _, _, _, _, _, _, _, _, _, _, _, _, _, _, _, _, _, _, _, rfl, h0, h1, h2, h3, h4, h5, h6, h7, h8⟩
set_option maxHeartbeats 8000000 in
set_option maxRecDepth 100000 in
theorem law_loop {p : Program} {l : Launch} {e : Env} {s : State} {m : MethodId} {below : List Frame} {meth : Method} {c : Code} {b Ln : Nat} {xs : Nat → Int32} {D : va_G} {cA : ClassId} {q : Nat → Nat} (hLn : Ln ≤ 256) (C0 : lw_At p s m meth c b Ln xs) (hK : va_K D vwCl [(cA, .int)] s) :
    ∀ (k i : Nat), i ≤ Ln → Ln + 1 ≤ i + k → ∀ (V : va_W) (H : Heap) (locs : List Loc), lwI cA q i V → va_P D vwCl V H → va_D (fun q : Nat => s.heap.size ≤ q) V → va_S (fun q : Nat => s.heap.size ≤ q) s.heap H locs → ∀ (ls : Array Slot), lv_has ls 4 [(3, .int (nI i)), (2, .ref (q 27)), (1, .ref (q 0)), (0, .ref b)] → W p l e room_1 s m #[Value.ref b] below meth c H locs 43 1668 (lw_Z below #[Value.ref b] s) (F0 m 18 ls []) := by
  obtain ⟨hx, hb, hr, hml, hown, hts, hX, hbl, hlocks, hgv⟩ := id C0
  have hA : ∀ q : Nat, s.heap.size ≤ q → (fun q : Nat => s.heap.size ≤ q) q := fun _ h => h
  have hbA : ¬ (fun q : Nat => s.heap.size ≤ q) b := Nat.not_le.mpr hbl
  intro k
  induction k with
  | zero => exact fun i h1 h2 => absurd h2 (by omega)
  | succ k ih =>
    intro i hi0 hik V H locs hV hP hD hS ls hl
    obtain ⟨n, N, t, L, B, a, f, kf, sf, pt, ou, en, w0, w1, br, fw, ftw, fts, ik, cr, la1, be1, ou1, si1, en1, w01, w11, br1, td1, fw1, ftw1, fts1, I2, F2, G, J, kt, kc, ha, r, he, kr, kn, kh, K, pp, cc, rfl, hn, ht, hp1, hpp, hpt, hT, hh, hI, hcc⟩ := hV
    refine lv_iload_n hx hb dL_law_18 rfl (lv_at hl 0 rfl) ?_
    refine lv_aload_n hx hb dL_law_19 rfl (lv_at hl 3 rfl) ?_
    refine va_slen hx hb hX hbl hbA hS dL_law_20 ?_
    refine lv_iconst (v := 4) hx hb dL_law_21 (by decide) ?_
    refine lv_isub hx hb dL_law_22 ?_
    refine lv_icmp_gt (tgt := 541) hx hb dL_law_23 (by decide) (fun cz => ?_) (fun cz => ?_)
    · refine lv_iconst (v := 1) hx hb dL_law_541 (by decide) ?_
      refine va_forget (fun q hq => hS.2.2 q hq) ?_
      exact lw_ret hx hb hr hlocks dL_law_542
    have hi : i + 4 ≤ Ln := w_room hLn hi0 cz
    have tail : ∀ (V : va_W) (H : Heap) (locs : List Loc), lwI cA q (i + 4) V → va_P D vwCl V H → va_D (fun q : Nat => s.heap.size ≤ q) V → va_S (fun q : Nat => s.heap.size ≤ q) s.heap H locs → W p l e room_1 s m #[Value.ref b] below meth c H locs 43 1668 (lw_Z below #[Value.ref b] s) (F0 m 535 ls []) := fun V H locs hV hP hD hS => by
      refine lv_iinc (v := nI (i + 4)) (lv' := [(3, .int (nI (i + 4))), (2, .ref (q 27)), (1, .ref (q 0)), (0, .ref b)]) hx hb dL_law_535 hl (k := 0) rfl (nI_add i 4) (by decide) rfl (fun ls hl => ?_)
      refine lv_goto (tgt := 18) hx hb dL_law_538 (by decide) ?_
      exact ih (i + 4) hi (by omega) V H locs hV hP hD hS ls hl
    have hE := hT.2.2.2.2.2.1
    have hw := hT.2.2.2.2.2.2
    have hL := hT.1
    have hB := hT.2.1
    have hV := hT.2.2.1
    have h5 := hE.1
    have hc4 : 4 * cc ≤ i + 4 := by omega
    have hc4' : 4 * (cc + 1) ≤ i + 4 := by omega
    have hcr := hI.1
    refine lv_aload_n hx hb dL_law_26 rfl (lv_at hl 3 rfl) ?_
    refine lv_iload_n hx hb dL_law_27 rfl (lv_at hl 0 rfl) ?_
    refine va_sld hx hb hX hbl hbA hS (vp_in_nI (show i < Ln by omega) (by omega)) dL_law_28 ?_
    refine lv_bipush (v := 31) hx hb dL_law_29 (by decide) ?_
    refine lv_iand hx hb dL_law_31 ?_
    generalize xs (nI i).toNatClampNeg &&& 31 = x
    by_cases v0 : x = 0
    · refine lv_tableIn (off := 88) (tgt := 120) hx hb dL_law_32 (by rw [v0]; decide) (by rw [v0]; decide) (by rw [v0]; rfl) (by decide) ?_
      exact law_c0 C0 hLn hi hn hK hP hD hS hl (fun H locs hP hD hS => tail _ H locs (lwI_mk (wLet hn _) ht hp1 hpp hpt hT hh hI hc4) hP hD hS)
    by_cases v1 : x = 1
    · refine lv_tableIn (off := 111) (tgt := 143) hx hb dL_law_32 (by rw [v1]; decide) (by rw [v1]; decide) (by rw [v1]; rfl) (by decide) ?_
      exact law_c1 C0 hLn hi hK hP hD hS hl (fun H locs hP hD hS => tail _ H locs (lwI_mk (Nat.zero_le _) ht hp1 hpp hpt hT hh hI hc4) hP hD hS)
    by_cases v2 : x = 2
    · refine lv_tableIn (off := 124) (tgt := 156) hx hb dL_law_32 (by rw [v2]; decide) (by rw [v2]; decide) (by rw [v2]; rfl) (by decide) ?_
      exact law_c2 C0 hLn hi hn hK hP hD hS hl (fun _ _ _ _ _ _ H locs hP hD hS => tail _ H locs (lwI_mk hn ht hp1 hpp hpt hT hh hI hc4) hP hD hS)
    by_cases v3 : x = 3
    · refine lv_tableIn (off := 137) (tgt := 169) hx hb dL_law_32 (by rw [v3]; decide) (by rw [v3]; decide) (by rw [v3]; rfl) (by decide) ?_
      cases hw3 : jWhole n f with
      | false => exact law_c3_no C0 hLn hi hn hw3 hK hP hD hS hl (fun _ _ H locs hP hD hS => tail _ H locs (lwI_mk hn ht hp1 hpp hpt hT hh hI hc4) hP hD hS)
      | true =>
        obtain ⟨p9, a1, a9, e9, hT9⟩ := wCourt (r := r) (kf := kf) (sf := sf) hw3
        exact law_c3_yes C0 hLn hi hn hw3 hK hP hD hS hl (fun _ _ H locs hP hD hS => tail _ H locs (lwI_mk (Nat.zero_le _) (Nat.zero_le _) a1 a9 (Or.inr e9) hT9 (fun z hz => absurd hz (Nat.not_lt_zero z)) (wI_court hI) hc4') hP hD hS)
    by_cases v4 : x = 4
    · refine lv_tableIn (off := 150) (tgt := 182) hx hb dL_law_32 (by rw [v4]; decide) (by rw [v4]; decide) (by rw [v4]; rfl) (by decide) ?_
      exact law_c4 C0 hLn hi hE hw hL hB hV hK hP hD hS hl (fun _ _ _ _ _ _ H locs hP hD hS => tail _ H locs (lwI_mk hn ht hp1 hpp hpt hT hh hI hc4) hP hD hS)
    by_cases v5 : x = 5
    · refine lv_tableIn (off := 183) (tgt := 215) hx hb dL_law_32 (by rw [v5]; decide) (by rw [v5]; decide) (by rw [v5]; rfl) (by decide) ?_
      exact law_c5 C0 hLn hi hE hK hP hD hS hl (fun _ _ _ _ _ _ H locs hP hD hS => tail _ H locs (lwI_mk hn ht hp1 hpp hpt hT hh hI hc4) hP hD hS)
    by_cases v6 : x = 6
    · refine lv_tableIn (off := 216) (tgt := 248) hx hb dL_law_32 (by rw [v6]; decide) (by rw [v6]; decide) (by rw [v6]; rfl) (by decide) ?_
      by_cases hw6 : jNames N (xs (i + 1)) = false ∨ N = 0
      · exact law_c6_no C0 hLn hi h5 hw6 hK hP hD hS hl (fun H locs hP hD hS => tail _ H locs (lwI_mk hn ht hp1 hpp hpt hT hh hI hc4) hP hD hS)
      · exact law_c6_yes C0 hLn hi hpp hpt hT (by cases z : jNames N (xs (i + 1)) with | false => exact absurd (Or.inl z) hw6 | true => rfl) (Nat.pos_of_ne_zero (fun z => hw6 (Or.inr z))) hK hP hD hS hl (fun _ _ _ _ _ _ _ _ _ _ H locs hT hP hD hS => tail _ H locs (lwI_mk hn ht hp1 hpp hpt hT hh hI hc4) hP hD hS)
    by_cases v7 : x = 7
    · refine lv_tableIn (off := 239) (tgt := 271) hx hb dL_law_32 (by rw [v7]; decide) (by rw [v7]; decide) (by rw [v7]; rfl) (by decide) ?_
      exact law_c7 C0 hLn hi hE hw hL hB hV hK hP hD hS hl (fun _ _ _ _ _ _ H locs hP hD hS => tail _ H locs (lwI_mk hn ht hp1 hpp hpt hT hh hI hc4) hP hD hS)
    by_cases v8 : x = 8
    · refine lv_tableIn (off := 272) (tgt := 304) hx hb dL_law_32 (by rw [v8]; decide) (by rw [v8]; decide) (by rw [v8]; rfl) (by decide) ?_
      exact law_c8 C0 hLn hi hE ht hh hL hB hV hK hP hD hS hl (fun _ _ _ _ _ _ H locs hP hD hS => tail _ H locs (lwI_mk hn ht hp1 hpp hpt hT hh hI hc4) hP hD hS)
    by_cases v9 : x = 9
    · refine lv_tableIn (off := 305) (tgt := 337) hx hb dL_law_32 (by rw [v9]; decide) (by rw [v9]; decide) (by rw [v9]; rfl) (by decide) ?_
      exact law_c9 C0 hLn hi h5 ht hK hP hD hS hl (fun H locs hP hD hS => tail _ H locs (lwI_mk hn (wHear h5 ht hh _ _).1 hp1 hpp hpt hT (wHear h5 ht hh _ _).2 hI hc4) hP hD hS)
    by_cases v10 : x = 10
    · refine lv_tableIn (off := 338) (tgt := 370) hx hb dL_law_32 (by rw [v10]; decide) (by rw [v10]; decide) (by rw [v10]; rfl) (by decide) ?_
      exact law_c10 C0 hLn hi hK hP hD hS hl (fun H locs hP hD hS => tail _ H locs (lwI_mk hn (Nat.zero_le _) hp1 hpp hpt hT (fun z hz => absurd hz (Nat.not_lt_zero z)) hI hc4) hP hD hS)
    by_cases v11 : x = 11
    · refine lv_tableIn (off := 351) (tgt := 383) hx hb dL_law_32 (by rw [v11]; decide) (by rw [v11]; decide) (by rw [v11]; rfl) (by decide) ?_
      exact law_c11 C0 hLn hi hE ht hh hL hB hV hK hP hD hS hl (fun _ _ _ _ _ _ H locs hP hD hS => tail _ H locs (lwI_mk hn ht hp1 hpp hpt hT hh hI hc4) hP hD hS)
    by_cases v12 : x = 12
    · refine lv_tableIn (off := 384) (tgt := 416) hx hb dL_law_32 (by rw [v12]; decide) (by rw [v12]; decide) (by rw [v12]; rfl) (by decide) ?_
      exact law_c12 C0 hLn hi hE ht hh hL hB hV hK hP hD hS hl (fun _ _ _ _ _ _ H locs hP hD hS => tail _ H locs (lwI_mk hn ht hp1 hpp hpt hT hh hI hc4) hP hD hS)
    by_cases v13 : x = 13
    · refine lv_tableIn (off := 397) (tgt := 429) hx hb dL_law_32 (by rw [v13]; decide) (by rw [v13]; decide) (by rw [v13]; rfl) (by decide) ?_
      exact law_c13 C0 hLn hi hpp hpt hT hK hP hD hS hl (fun _ _ _ _ _ _ H locs hP hD hS => tail _ H locs (lwI_mk hn ht hp1 hpp hpt hT hh hI hc4) hP hD hS)
    by_cases v14 : x = 14
    · refine lv_tableIn (off := 440) (tgt := 472) hx hb dL_law_32 (by rw [v14]; decide) (by rw [v14]; decide) (by rw [v14]; rfl) (by decide) ?_
      by_cases hN0 : N = 0
      · exact law_c14_no C0 hLn hi h5 hN0 hK hP hD hS hl (fun H locs hP hD hS => tail _ H locs (lwI_mk hn ht hp1 hpp hpt hT hh hI hc4) hP hD hS)
      · subst hcr
        exact law_c14_yes C0 hLn hi h5 (Nat.pos_of_ne_zero hN0) hK hP hD hS hl (fun H locs hP hD hS => tail _ H locs (lwI_mk hn ht hp1 hpp hpt hT hh (wI_image ht hT hh) hc4) hP hD hS)
    by_cases v15 : x = 15
    · refine lv_tableIn (off := 453) (tgt := 485) hx hb dL_law_32 (by rw [v15]; decide) (by rw [v15]; decide) (by rw [v15]; rfl) (by decide) ?_
      have hI0 := hI
      have hno := wI_no (show cc < 1000 by omega) hI
      by_cases h1 : ik = 0
      · exact law_c15_no C0 hLn hi h1 (hno.mp h1) hK hP hD hS hl (fun H locs hP hD hS => tail _ H locs (lwI_mk hn ht hp1 hpp hpt hT hh hI hc4) hP hD hS)
      · obtain ⟨-, ⟨h2, -⟩ | ⟨e1, e2, L1, B1, a1, t1, ht1, rfl, rfl, rfl, rfl, rfl, k0, k1, k2, k3, k4, k5, k6, hT1, hh1⟩⟩ := hI
        · exact absurd h2 h1
        · subst hcr
          subst e2
          exact law_c15_yes C0 hLn hi h1 k0 k1 k2 k3 k4 k5 k6 hK hP hD hS hl (fun H locs hP hD hS => tail _ H locs (lwI_mk hn ht1 hp1 hpp hpt hT1 hh1 hI0 hc4) hP hD hS)
    by_cases v16 : x = 16
    · refine lv_tableIn (off := 466) (tgt := 498) hx hb dL_law_32 (by rw [v16]; decide) (by rw [v16]; decide) (by rw [v16]; rfl) (by decide) ?_
      exact law_c16 C0 hLn hi hL hB hK hP hD hS hl (fun _ _ _ _ _ _ H locs hP hD hS => tail _ H locs (lwI_mk hn ht hp1 hpp hpt hT hh hI hc4) hP hD hS)
    by_cases v17 : x = 17
    · refine lv_tableIn (off := 489) (tgt := 521) hx hb dL_law_32 (by rw [v17]; decide) (by rw [v17]; decide) (by rw [v17]; rfl) (by decide) ?_
      exact law_c17 C0 hLn hn hE hw ht hh hL hB hV hK hP hD hS hl (fun _ _ _ _ _ _ H locs hP hD hS => tail _ H locs (lwI_mk hn ht hp1 hpp hpt hT hh hI hc4) hP hD hS)
    refine lv_tableOut (tgt := 535) hx hb dL_law_32 (z_out0_17 v0 v1 v2 v3 v4 v5 v6 v7 v8 v9 v10 v11 v12 v13 v14 v15 v16 v17) (by decide) ?_
    exact tail _ _ _ (lwI_mk hn ht hp1 hpp hpt hT hh hI hc4) hP hD hS
