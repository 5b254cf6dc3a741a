abbrev rm_c_X1_wordPlace : Room := { frames := 0, cells := 0, slots := 0, locals := 0 }
set_option maxHeartbeats 400000 in
set_option maxRecDepth 20000 in
theorem c_X1_wordPlace {l : Launch} {D : va_G} {cA : ClassId} {x : Int32} {y : Int32} : zMi l yX1_wordPlace wsX1_wordPlace rm_c_X1_wordPlace D cA [] [.int x, .int y] (fun (r : Int32) (_ : Unit) => r = (x + 1) * 5 + y) (fun (_ : Unit) => []) := by
  refine z_enteri (cc := cX1_wordPlace) (maxL := 2) (ty := .int) (by decide) rfl (Nat.le_of_ble_eq_true rfl) (fun p e s m args below meth c ls A H0 H locs Q hi_ hA hK hP hD hS hl hret => ?_)
  obtain ⟨hx, hb, hr, hml, hown, hts, hlocks, hN⟩ := hi_
  have hl : lv_has ls 2 [(0, .int x), (1, .int y)] := hl
  refine lv_iload_n hx hb dX1_wordPlace_0 rfl (lv_at hl 0 rfl) ?_
  refine lv_iconst (v := 1) hx hb dX1_wordPlace_1 (by decide) ?_
  refine lv_iadd hx hb dX1_wordPlace_2 ?_
  refine lv_iconst (v := 5) hx hb dX1_wordPlace_3 (by decide) ?_
  refine lv_imul hx hb dX1_wordPlace_4 ?_
  refine lv_iload_n hx hb dX1_wordPlace_5 rfl (lv_at hl 1 rfl) ?_
  refine lv_iadd hx hb dX1_wordPlace_6 ?_
  -- path 1
  exact hret (((x + 1) * 5) + y) () _ _ _ _ dX1_wordPlace_7 (rfl) (by rfl) hP hD hS
abbrev rm_c_X1_worthPlace : Room := { frames := 0, cells := 0, slots := 0, locals := 0 }
set_option maxHeartbeats 400000 in
set_option maxRecDepth 20000 in
theorem c_X1_worthPlace {l : Launch} {D : va_G} {cA : ClassId} {x : Int32} {y : Int32} : zMi l yX1_worthPlace wsX1_worthPlace rm_c_X1_worthPlace D cA [] [.int x, .int y] (fun (r : Int32) (_ : Unit) => r = (x + 1) * 6 + y + 1) (fun (_ : Unit) => []) := by
  refine z_enteri (cc := cX1_worthPlace) (maxL := 2) (ty := .int) (by decide) rfl (Nat.le_of_ble_eq_true rfl) (fun p e s m args below meth c ls A H0 H locs Q hi_ hA hK hP hD hS hl hret => ?_)
  obtain ⟨hx, hb, hr, hml, hown, hts, hlocks, hN⟩ := hi_
  have hl : lv_has ls 2 [(0, .int x), (1, .int y)] := hl
  refine lv_iload_n hx hb dX1_worthPlace_0 rfl (lv_at hl 0 rfl) ?_
  refine lv_iconst (v := 1) hx hb dX1_worthPlace_1 (by decide) ?_
  refine lv_iadd hx hb dX1_worthPlace_2 ?_
  refine lv_bipush (v := 6) hx hb dX1_worthPlace_3 (by decide) ?_
  refine lv_imul hx hb dX1_worthPlace_5 ?_
  refine lv_iload_n hx hb dX1_worthPlace_6 rfl (lv_at hl 1 rfl) ?_
  refine lv_iadd hx hb dX1_worthPlace_7 ?_
  refine lv_iconst (v := 1) hx hb dX1_worthPlace_8 (by decide) ?_
  refine lv_iadd hx hb dX1_worthPlace_9 ?_
  -- path 1
  exact hret ((((x + 1) * 6) + y) + 1) () _ _ _ _ dX1_worthPlace_10 (rfl) (by rfl) hP hD hS
abbrev rm_c_X1_rowPlace : Room := { frames := 0, cells := 0, slots := 0, locals := 0 }
set_option maxHeartbeats 400000 in
set_option maxRecDepth 20000 in
theorem c_X1_rowPlace {l : Launch} {D : va_G} {cA : ClassId} {x : Int32} {y : Int32} : zMi l yX1_rowPlace wsX1_rowPlace rm_c_X1_rowPlace D cA [] [.int x, .int y] (fun (r : Int32) (_ : Unit) => r = x * 7 + y + 1) (fun (_ : Unit) => []) := by
  refine z_enteri (cc := cX1_rowPlace) (maxL := 2) (ty := .int) (by decide) rfl (Nat.le_of_ble_eq_true rfl) (fun p e s m args below meth c ls A H0 H locs Q hi_ hA hK hP hD hS hl hret => ?_)
  obtain ⟨hx, hb, hr, hml, hown, hts, hlocks, hN⟩ := hi_
  have hl : lv_has ls 2 [(0, .int x), (1, .int y)] := hl
  refine lv_iload_n hx hb dX1_rowPlace_0 rfl (lv_at hl 0 rfl) ?_
  refine lv_bipush (v := 7) hx hb dX1_rowPlace_1 (by decide) ?_
  refine lv_imul hx hb dX1_rowPlace_3 ?_
  refine lv_iload_n hx hb dX1_rowPlace_4 rfl (lv_at hl 1 rfl) ?_
  refine lv_iadd hx hb dX1_rowPlace_5 ?_
  refine lv_iconst (v := 1) hx hb dX1_rowPlace_6 (by decide) ?_
  refine lv_iadd hx hb dX1_rowPlace_7 ?_
  -- path 1
  exact hret (((x * 7) + y) + 1) () _ _ _ _ dX1_rowPlace_8 (rfl) (by rfl) hP hD hS
abbrev rm_c_X1_better : Room := { frames := 1, cells := 0, slots := 0, locals := 13 }
set_option maxHeartbeats 400000 in
set_option maxRecDepth 20000 in
theorem c_X1_better {l : Launch} {D : va_G} {cA : ClassId} {sd : Int32} {x : Int32} {y : Int32} : zMi l yX1_better wsX1_better rm_c_X1_better D cA [] [.int sd, .int x, .int y] (fun (r : Int32) (_ : Unit) => r = jBetter sd x y) (fun (_ : Unit) => []) := by
  refine z_enteri (cc := cX1_better) (maxL := 3) (ty := .int) (by decide) rfl (Nat.le_of_ble_eq_true rfl) (fun p e s m args below meth c ls A H0 H locs Q hi_ hA hK hP hD hS hl hret => ?_)
  obtain ⟨hx, hb, hr, hml, hown, hts, hlocks, hN⟩ := hi_
  have hl : lv_has ls 3 [(0, .int sd), (1, .int x), (2, .int y)] := hl
  refine lv_iload_n hx hb dX1_better_0 rfl (lv_at hl 0 rfl) ?_
  refine lv_if_ne (tgt := 12) hx hb dX1_better_1 (by decide) (fun c1_1 => ?_) (fun c1_1 => ?_)
  · skip
    refine lv_iload_n hx hb dX1_better_12 rfl (lv_at hl 1 rfl) ?_
    refine lv_iload_n hx hb dX1_better_13 rfl (lv_at hl 2 rfl) ?_
    refine va_mmin (x := x) (y := y) hx hb (hml.trans hl.1.symm) hown (hts (.methodLink RX1 82 Lib.Math.min.name) (by decide +kernel)) (hts (.static Lib.Math.min.name) (by decide +kernel)) (hts (.initialized "java/lang/Math") (by decide +kernel)) (hts (.code Lib.Math.min.name Lib.Math.min.code 2 (some .int)) (List.mem_of_getElem? (i := 7) (by decide +kernel))) (Nat.le_of_ble_eq_true rfl) (Nat.le_of_ble_eq_true rfl) (Nat.zero_le _) (Nat.zero_le _) dX1_better_14 ?_
    refine z_top (y := jMin x y) rfl ?_
    -- path 1
    exact hret (jMin x y) () _ _ _ _ dX1_better_17 (rfl) (by clear hret hl hS hD hP hK hA hN hts hx hb hr hml hown hlocks ; simp_all [jBetter]) hP hD hS
  · skip
    refine lv_iload_n hx hb dX1_better_4 rfl (lv_at hl 1 rfl) ?_
    refine lv_iload_n hx hb dX1_better_5 rfl (lv_at hl 2 rfl) ?_
    refine va_mmax (x := x) (y := y) hx hb (hml.trans hl.1.symm) hown (hts (.methodLink RX1 130 Lib.Math.max.name) (by decide +kernel)) (hts (.static Lib.Math.max.name) (by decide +kernel)) (hts (.initialized "java/lang/Math") (by decide +kernel)) (hts (.code Lib.Math.max.name Lib.Math.max.code 2 (some .int)) (List.mem_of_getElem? (i := 4) (by decide +kernel))) (Nat.le_of_ble_eq_true rfl) (Nat.le_of_ble_eq_true rfl) (Nat.zero_le _) (Nat.zero_le _) dX1_better_6 ?_
    refine z_top (y := jMax x y) rfl ?_
    refine lv_goto (tgt := 17) hx hb dX1_better_9 (by decide) ?_
    -- path 2
    exact hret (jMax x y) () _ _ _ _ dX1_better_17 (rfl) (by clear hret hl hS hD hP hK hA hN hts hx hb hr hml hown hlocks ; simp_all [jBetter]) hP hD hS
abbrev rm_c_X1_tableWords : Room := { frames := 2, cells := 0, slots := 0, locals := 46 }
set_option maxHeartbeats 1000000 in
set_option maxRecDepth 20000 in
theorem c_X1_tableWords {l : Launch} {D : va_G} {cA : ClassId} {o0 : Nat} {b0 : Nat} {t0 : Nat} {aL : Nat} {aB : Nat} {aS : Nat} {aW : Nat} {aE : Nat} {aY : Nat} {aZ : Nat} {aF : Nat} {qk : Nat} {qs : Nat} {N : Nat} {pt : Int32} {kf : Nat → Int32} {wd : Nat} {tw : Nat} {ts : Nat} {la : Int32} {be : Int32} {ou : Int32} {si : Int32} {en : Int32} {w0 : Int32} {w1 : Int32} {br : Int32} {td : Int32} {lt : Nat → Int32} {bt : Nat → Int32} (h5 : N ≤ 5) : zMv l yX1_tableWords wsX1_tableWords rm_c_X1_tableWords D cA [(o0, .inr (1, [.ref b0, .ref t0, .ref aL, .ref aB, .ref aS, .ref aW, .ref aE, .ref aY, .ref aZ, .ref aF])), (b0, .inr (0, [.ref qk, .ref qs, .int (nI N), .int pt])), (qk, .inl (cA, 5, .inl kf)), (t0, .inr (3, [.int la, .int be, .int ou, .int si, .int en, .int w0, .int w1, .int br, .ref wd, .int td, .ref tw, .ref ts])), (aL, .inl (cA, 35, .inl lt)), (aB, .inl (cA, 35, .inl bt))] [.ref o0] (fun (_ : Unit) => True) (fun (_ : Unit) => [(o0, .inr (1, [.ref b0, .ref t0, .ref aL, .ref aB, .ref aS, .ref aW, .ref aE, .ref aY, .ref aZ, .ref aF])), (b0, .inr (0, [.ref qk, .ref qs, .int (nI N), .int pt])), (qk, .inl (cA, 5, .inl kf)), (t0, .inr (3, [.int la, .int be, .int ou, .int si, .int en, .int w0, .int w1, .int br, .ref wd, .int td, .ref tw, .ref ts])), (aL, .inl (cA, 35, .inl (jLT N kf ou))), (aB, .inl (cA, 35, .inl (jBT N kf ou)))]) := by
  refine z_enterv (cc := cX1_tableWords) (maxL := 4) (by decide) rfl (Nat.le_of_ble_eq_true rfl) (fun p e s m args below meth c ls A H0 H locs Q hi_ hA hK hP hD hS hl hret => ?_)
  obtain ⟨hx, hb, hr, hml, hown, hts, hlocks, hN⟩ := hi_
  have hl : lv_has ls 4 [(0, .ref o0)] := hl
  have hiX1 : ∀ w ∈ wsX10, w ∈ wsX1_tableWords := by decide +kernel
  have hiX3 : ∀ w ∈ wsX30, w ∈ wsX1_tableWords := by decide +kernel
  refine lv_iconst (v := pI 0) hx hb dX1_tableWords_0 (by decide) ?_
  refine lv_istore_n (lv' := [(1, .int (pI 0)), (0, .ref o0)]) hx hb dX1_tableWords_1 rfl hl (by decide) rfl (fun ls hl => ?_)
  have L2 : ∀ (n_ : Nat) (L : Nat) (g1 : Nat → Int32) (g2 : Nat → Int32) (hm_ : 8 ≤ L + n_) (hL : L ≤ 7) (h1 : ∀ p, p < 5 * L → g1 p = jLT N kf ou p) (h2 : ∀ p, p < 5 * L → g2 p = jBT N kf ou p) (H : Heap) (locs : List Loc) (ls : Array Slot), va_P D vwCl [(o0, .inr (1, [.ref b0, .ref t0, .ref aL, .ref aB, .ref aS, .ref aW, .ref aE, .ref aY, .ref aZ, .ref aF])), (b0, .inr (0, [.ref qk, .ref qs, .int (nI N), .int pt])), (qk, .inl (cA, 5, .inl kf)), (t0, .inr (3, [.int la, .int be, .int ou, .int si, .int en, .int w0, .int w1, .int br, .ref wd, .int td, .ref tw, .ref ts])), (aL, .inl (cA, 35, .inl g1)), (aB, .inl (cA, 35, .inl g2))] H → va_D A [(o0, .inr (1, [.ref b0, .ref t0, .ref aL, .ref aB, .ref aS, .ref aW, .ref aE, .ref aY, .ref aZ, .ref aF])), (b0, .inr (0, [.ref qk, .ref qs, .int (nI N), .int pt])), (qk, .inl (cA, 5, .inl kf)), (t0, .inr (3, [.int la, .int be, .int ou, .int si, .int en, .int w0, .int w1, .int br, .ref wd, .int td, .ref tw, .ref ts])), (aL, .inl (cA, 35, .inl g1)), (aB, .inl (cA, 35, .inl g2))] → va_S A H0 H locs → lv_has ls 4 [(0, .ref o0), (1, .int (pI L))] → W p l e rm_c_X1_tableWords s m args below meth c H locs 0 0 Q (F0 m 2 ls []) := by
    intro n_
    induction n_ with
    | zero =>
      intro L g1 g2 hm_ hL h1 h2
      exact absurd hm_ (by omega)
    | succ n_ ih_ =>
      intro L g1 g2 hm_ hL h1 h2 H locs ls hP hD hS hl
      have ih1 := ih_
      clear ih_
      refine lv_iload_n hx hb dX1_tableWords_2 rfl (lv_at hl 1 rfl) ?_
      refine lv_iconst (v := 5) hx hb dX1_tableWords_3 (by decide) ?_
      refine lv_icmp_gt (tgt := 114) hx hb dX1_tableWords_4 (by decide) (fun c4_2 => ?_) (fun c4_2 => ?_)
      · skip
        have ht_ : L = 7 := by have := (pI_7 L (by omega)).mp c4_2; omega
        -- path 1
        have hP : va_P D vwCl [(o0, .inr (1, [.ref b0, .ref t0, .ref aL, .ref aB, .ref aS, .ref aW, .ref aE, .ref aY, .ref aZ, .ref aF])), (b0, .inr (0, [.ref qk, .ref qs, .int (nI N), .int pt])), (qk, .inl (cA, 5, .inl kf)), (t0, .inr (3, [.int la, .int be, .int ou, .int si, .int en, .int w0, .int w1, .int br, .ref wd, .int td, .ref tw, .ref ts])), (aL, .inl (cA, 35, .inl (jLT N kf ou))), (aB, .inl (cA, 35, .inl g2))] H := z_arrP hP 4 (g := (jLT N kf ou)) rfl (by clear hret hl hS hD hP hK hA hN hts hx hb hr hml hown hlocks hiX1 hiX3 ih1; intro p hp; first | exact h1 p (by omega) | exact h2 p (by omega)) rfl
        have hD : va_D A [(o0, .inr (1, [.ref b0, .ref t0, .ref aL, .ref aB, .ref aS, .ref aW, .ref aE, .ref aY, .ref aZ, .ref aF])), (b0, .inr (0, [.ref qk, .ref qs, .int (nI N), .int pt])), (qk, .inl (cA, 5, .inl kf)), (t0, .inr (3, [.int la, .int be, .int ou, .int si, .int en, .int w0, .int w1, .int br, .ref wd, .int td, .ref tw, .ref ts])), (aL, .inl (cA, 35, .inl (jLT N kf ou))), (aB, .inl (cA, 35, .inl g2))] := z_arrD hD 4 rfl rfl
        have hP : va_P D vwCl [(o0, .inr (1, [.ref b0, .ref t0, .ref aL, .ref aB, .ref aS, .ref aW, .ref aE, .ref aY, .ref aZ, .ref aF])), (b0, .inr (0, [.ref qk, .ref qs, .int (nI N), .int pt])), (qk, .inl (cA, 5, .inl kf)), (t0, .inr (3, [.int la, .int be, .int ou, .int si, .int en, .int w0, .int w1, .int br, .ref wd, .int td, .ref tw, .ref ts])), (aL, .inl (cA, 35, .inl (jLT N kf ou))), (aB, .inl (cA, 35, .inl (jBT N kf ou)))] H := z_arrP hP 5 (g := (jBT N kf ou)) rfl (by clear hret hl hS hD hP hK hA hN hts hx hb hr hml hown hlocks hiX1 hiX3 ih1; intro p hp; first | exact h1 p (by omega) | exact h2 p (by omega)) rfl
        have hD : va_D A [(o0, .inr (1, [.ref b0, .ref t0, .ref aL, .ref aB, .ref aS, .ref aW, .ref aE, .ref aY, .ref aZ, .ref aF])), (b0, .inr (0, [.ref qk, .ref qs, .int (nI N), .int pt])), (qk, .inl (cA, 5, .inl kf)), (t0, .inr (3, [.int la, .int be, .int ou, .int si, .int en, .int w0, .int w1, .int br, .ref wd, .int td, .ref tw, .ref ts])), (aL, .inl (cA, 35, .inl (jLT N kf ou))), (aB, .inl (cA, 35, .inl (jBT N kf ou)))] := z_arrD hD 5 rfl rfl
        exact hret () _ _ _ _ dX1_tableWords_114 (by trivial) hP hD hS
      · skip
        have hltL : L < 7 := Nat.lt_of_not_le (fun q_ => c4_2 ((pI_7 L (by omega)).mpr q_))
        refine lv_iconst (v := nI 0) hx hb dX1_tableWords_7 (by decide) ?_
        refine lv_istore_n (lv' := [(2, .int (nI 0)), (0, .ref o0), (1, .int (pI L))]) hx hb dX1_tableWords_8 rfl hl (by decide) rfl (fun ls hl => ?_)
        have L9 : ∀ (n_ : Nat) (sx : Nat) (k1 : Nat → Int32) (k2 : Nat → Int32) (hm_ : 6 ≤ sx + n_) (hs : sx ≤ 5) (k1_ : ∀ p, p < 5 * L + sx → k1 p = jLT N kf ou p) (k2_ : ∀ p, p < 5 * L + sx → k2 p = jBT N kf ou p) (H : Heap) (locs : List Loc) (ls : Array Slot), va_P D vwCl [(o0, .inr (1, [.ref b0, .ref t0, .ref aL, .ref aB, .ref aS, .ref aW, .ref aE, .ref aY, .ref aZ, .ref aF])), (b0, .inr (0, [.ref qk, .ref qs, .int (nI N), .int pt])), (qk, .inl (cA, 5, .inl kf)), (t0, .inr (3, [.int la, .int be, .int ou, .int si, .int en, .int w0, .int w1, .int br, .ref wd, .int td, .ref tw, .ref ts])), (aL, .inl (cA, 35, .inl k1)), (aB, .inl (cA, 35, .inl k2))] H → va_D A [(o0, .inr (1, [.ref b0, .ref t0, .ref aL, .ref aB, .ref aS, .ref aW, .ref aE, .ref aY, .ref aZ, .ref aF])), (b0, .inr (0, [.ref qk, .ref qs, .int (nI N), .int pt])), (qk, .inl (cA, 5, .inl kf)), (t0, .inr (3, [.int la, .int be, .int ou, .int si, .int en, .int w0, .int w1, .int br, .ref wd, .int td, .ref tw, .ref ts])), (aL, .inl (cA, 35, .inl k1)), (aB, .inl (cA, 35, .inl k2))] → va_S A H0 H locs → lv_has ls 4 [(0, .ref o0), (1, .int (pI L)), (2, .int (nI sx))] → W p l e rm_c_X1_tableWords s m args below meth c H locs 0 0 Q (F0 m 9 ls []) := by
          intro n_
          induction n_ with
          | zero =>
            intro sx k1 k2 hm_ hs k1_ k2_
            exact absurd hm_ (by omega)
          | succ n_ ih_ =>
            intro sx k1 k2 hm_ hs k1_ k2_ H locs ls hP hD hS hl
            have ih3 := ih_
            clear ih_
            refine lv_iload_n hx hb dX1_tableWords_9 rfl (lv_at hl 2 rfl) ?_
            refine lv_iconst (v := 5) hx hb dX1_tableWords_10 (by decide) ?_
            refine lv_icmp_ge (tgt := 108) hx hb dX1_tableWords_11 (by decide) (fun c11_4 => ?_) (fun c11_4 => ?_)
            · skip
              have ht_ : sx = 5 := by have := (nI_leI (a := 5) (b := sx) (by omega) (by omega)).mp c11_4; omega
              refine lv_iinc (v := pI (L + 1)) (lv' := [(1, .int (pI (L + 1))), (0, .ref o0), (2, .int (nI sx))]) hx hb dX1_tableWords_108 hl (k := 1) rfl (pI_1 L) (by decide) rfl (fun ls hl => ?_)
              refine lv_goto (tgt := 2) hx hb dX1_tableWords_111 (by decide) ?_
              exact ih1 (L + 1) k1 k2 (by omega) (by first | assumption | omega) (by clear hret hl hS hD hP hK hA hN hts hx hb hr hml hown hlocks hiX1 hiX3 ih1 ih3; intro p hp; exact k1_ p (by omega)) (by clear hret hl hS hD hP hK hA hN hts hx hb hr hml hown hlocks hiX1 hiX3 ih1 ih3; intro p hp; exact k2_ p (by omega)) _ _ _ hP hD hS (lv_sub hl [1, 0] rfl)
            · skip
              have hltsx : sx < 5 := Nat.lt_of_not_le (fun q_ => c11_4 ((nI_leI (a := 5) (b := sx) (by omega) (by omega)).mpr q_))
              refine lv_iload_n hx hb dX1_tableWords_14 rfl (lv_at hl 2 rfl) ?_
              refine lv_iload_n hx hb dX1_tableWords_15 rfl (lv_at hl 1 rfl) ?_
              refine lv_icmp_eq (tgt := 42) hx hb dX1_tableWords_16 (by decide) (fun c16_5 => ?_) (fun c16_5 => ?_)
              · skip
                refine lv_iconst (v := 0) hx hb dX1_tableWords_42 (by decide) ?_
                refine lv_istore_n (lv' := [(3, .int 0), (0, .ref o0), (1, .int (pI L)), (2, .int (nI sx))]) hx hb dX1_tableWords_43 rfl hl (by decide) rfl (fun ls hl => ?_)
                refine lv_aload_n hx hb dX1_tableWords_44 rfl (lv_at hl 1 rfl) ?_
                refine va_get (D := D) (ci := 1) (v := .ref aL) (C := RX1) (T := TX1) (N := 10) hx hb hts hiX1 hown hK hP 0 rfl rfl 2 (by decide) (hts (.fieldLink RX1 9 "HeardSecond$Outlook" "lastThen" "[I") (by decide +kernel)) (fun _ h9 => h9) rfl dX1_tableWords_45 ?_
                refine lv_iload_n hx hb dX1_tableWords_48 rfl (lv_at hl 2 rfl) ?_
                refine lv_iload_n hx hb dX1_tableWords_49 rfl (lv_at hl 3 rfl) ?_
                refine z_bri (z_runS (As := [.int (pI L), .int (nI sx)]) (rest := [.ref aL]) ⟨hx, hb, hml, hown, hts⟩ (c_X1_wordPlace (x := pI L) (y := nI sx) _) (va_cwS 2 hts gX1_tableWords_X1_wordPlace rfl rfl rfl (by decide +kernel) ⟨Nat.le_of_ble_eq_true rfl, Nat.le_of_ble_eq_true rfl⟩) hK hP hD hN [] rfl rfl rfl hl.1 rfl (Nat.le_of_ble_eq_true rfl) dX1_tableWords_50 ⟨Nat.zero_le _, Nat.zero_le _⟩) hP hD hS hA [] rfl (fun r7 u8 H locs hw6 hP hS => ?_)
                obtain rfl : r7 = ((pI L) + 1) * 5 + (nI sx) := hw6
                refine z_top (y := nI (5 * L + sx)) (wp_eq L sx) ?_
                refine lv_iload_n hx hb dX1_tableWords_53 rfl (lv_at hl 0 rfl) ?_
                refine lv_if_eq (tgt := 68) hx hb dX1_tableWords_54 (by decide) (fun c54_9 => ?_) (fun c54_9 => ?_)
                · skip
                  refine lv_bipush (v := (-2)) hx hb dX1_tableWords_68 (by decide) ?_
                  refine z_bwv (wr := [(o0, .inr (1, [.ref b0, .ref t0, .ref aL, .ref aB, .ref aS, .ref aW, .ref aE, .ref aY, .ref aZ, .ref aF])), (b0, .inr (0, [.ref qk, .ref qs, .int (nI N), .int pt])), (qk, .inl (cA, 5, .inl kf)), (t0, .inr (3, [.int la, .int be, .int ou, .int si, .int en, .int w0, .int w1, .int br, .ref wd, .int td, .ref tw, .ref ts])), (aB, .inl (cA, 35, .inl k2))]) (ws' := fun (_ : Unit) => [(o0, .inr (1, [.ref b0, .ref t0, .ref aL, .ref aB, .ref aS, .ref aW, .ref aE, .ref aY, .ref aZ, .ref aF])), (b0, .inr (0, [.ref qk, .ref qs, .int (nI N), .int pt])), (qk, .inl (cA, 5, .inl kf)), (t0, .inr (3, [.int la, .int be, .int ou, .int si, .int en, .int w0, .int w1, .int br, .ref wd, .int td, .ref tw, .ref ts])), (aL, .inl (cA, 35, .inl (jPut 35 k1 (nI (5 * L + sx)) (-2)))), (aB, .inl (cA, 35, .inl k2))]) (z_runSN (As := [.ref aL, .int (nI (5 * L + sx)), .int (-2)]) (rest := []) ⟨hx, hb, hml, hown, hts⟩ (c_X4_put (n := 35) (q := aL) (f := k1) (x := nI (5 * L + sx)) (v := -2) (by first | assumption | omega) _) (va_cnB (own := RX1) (host := "HeardSecond") (index := 64) 3 hts ggX1_tableWords_X4_put rfl rfl rfl (hN.get 26 rfl) (hts (.initialized RX4) (by decide +kernel)) (by decide +kernel) ⟨Nat.le_of_ble_eq_true rfl, Nat.le_of_ble_eq_true rfl⟩) (hts (.static yX4_put) (by decide +kernel)) hK hP hD hN [4] rfl rfl rfl hl.1 rfl (Nat.le_of_ble_eq_true rfl) dX1_tableWords_70 ⟨Nat.zero_le _, Nat.zero_le _⟩) hP hD hS hA [4] [0, 1, 2, 3, 5] [0, 1, 2, 3, 5, 4] rfl rfl rfl (by decide) rfl (fun _ => rfl) (fun u12 H locs hw10 hP hD hS => ?_)
                  have hP : va_P D vwCl [(o0, .inr (1, [.ref b0, .ref t0, .ref aL, .ref aB, .ref aS, .ref aW, .ref aE, .ref aY, .ref aZ, .ref aF])), (b0, .inr (0, [.ref qk, .ref qs, .int (nI N), .int pt])), (qk, .inl (cA, 5, .inl kf)), (t0, .inr (3, [.int la, .int be, .int ou, .int si, .int en, .int w0, .int w1, .int br, .ref wd, .int td, .ref tw, .ref ts])), (aL, .inl (cA, 35, .inl (jPut 35 k1 (nI (5 * L + sx)) (-2)))), (aB, .inl (cA, 35, .inl k2))] H := hP
                  have hD : va_D A [(o0, .inr (1, [.ref b0, .ref t0, .ref aL, .ref aB, .ref aS, .ref aW, .ref aE, .ref aY, .ref aZ, .ref aF])), (b0, .inr (0, [.ref qk, .ref qs, .int (nI N), .int pt])), (qk, .inl (cA, 5, .inl kf)), (t0, .inr (3, [.int la, .int be, .int ou, .int si, .int en, .int w0, .int w1, .int br, .ref wd, .int td, .ref tw, .ref ts])), (aL, .inl (cA, 35, .inl (jPut 35 k1 (nI (5 * L + sx)) (-2)))), (aB, .inl (cA, 35, .inl k2))] := hD
                  refine lv_aload_n hx hb dX1_tableWords_73 rfl (lv_at hl 1 rfl) ?_
                  refine va_get (D := D) (ci := 1) (v := .ref aB) (C := RX1) (T := TX1) (N := 10) hx hb hts hiX1 hown hK hP 0 rfl rfl 3 (by decide) (hts (.fieldLink RX1 15 "HeardSecond$Outlook" "believedThen" "[I") (by decide +kernel)) (fun _ h9 => h9) rfl dX1_tableWords_74 ?_
                  refine lv_iload_n hx hb dX1_tableWords_77 rfl (lv_at hl 2 rfl) ?_
                  refine lv_iload_n hx hb dX1_tableWords_78 rfl (lv_at hl 3 rfl) ?_
                  refine z_bri (z_runS (As := [.int (pI L), .int (nI sx)]) (rest := [.ref aB]) ⟨hx, hb, hml, hown, hts⟩ (c_X1_wordPlace (x := pI L) (y := nI sx) _) (va_cwS 2 hts gX1_tableWords_X1_wordPlace rfl rfl rfl (by decide +kernel) ⟨Nat.le_of_ble_eq_true rfl, Nat.le_of_ble_eq_true rfl⟩) hK hP hD hN [] rfl rfl rfl hl.1 rfl (Nat.le_of_ble_eq_true rfl) dX1_tableWords_79 ⟨Nat.zero_le _, Nat.zero_le _⟩) hP hD hS hA [] rfl (fun r14 u15 H locs hw13 hP hS => ?_)
                  obtain rfl : r14 = ((pI L) + 1) * 5 + (nI sx) := hw13
                  refine z_top (y := nI (5 * L + sx)) (wp_eq L sx) ?_
                  refine lv_iload_n hx hb dX1_tableWords_82 rfl (lv_at hl 0 rfl) ?_
                  refine lv_if_eq (tgt := 98) hx hb dX1_tableWords_83 (by decide) (fun c83_16 => ?_) (fun c83_16 => ?_)
                  · skip
                    refine lv_iconst (v := (-1)) hx hb dX1_tableWords_98 (by decide) ?_
                    refine z_bwv (wr := [(o0, .inr (1, [.ref b0, .ref t0, .ref aL, .ref aB, .ref aS, .ref aW, .ref aE, .ref aY, .ref aZ, .ref aF])), (b0, .inr (0, [.ref qk, .ref qs, .int (nI N), .int pt])), (qk, .inl (cA, 5, .inl kf)), (t0, .inr (3, [.int la, .int be, .int ou, .int si, .int en, .int w0, .int w1, .int br, .ref wd, .int td, .ref tw, .ref ts])), (aL, .inl (cA, 35, .inl (jPut 35 k1 (nI (5 * L + sx)) (-2))))]) (ws' := fun (_ : Unit) => [(o0, .inr (1, [.ref b0, .ref t0, .ref aL, .ref aB, .ref aS, .ref aW, .ref aE, .ref aY, .ref aZ, .ref aF])), (b0, .inr (0, [.ref qk, .ref qs, .int (nI N), .int pt])), (qk, .inl (cA, 5, .inl kf)), (t0, .inr (3, [.int la, .int be, .int ou, .int si, .int en, .int w0, .int w1, .int br, .ref wd, .int td, .ref tw, .ref ts])), (aL, .inl (cA, 35, .inl (jPut 35 k1 (nI (5 * L + sx)) (-2)))), (aB, .inl (cA, 35, .inl (jPut 35 k2 (nI (5 * L + sx)) (-1))))]) (z_runSN (As := [.ref aB, .int (nI (5 * L + sx)), .int (-1)]) (rest := []) ⟨hx, hb, hml, hown, hts⟩ (c_X4_put (n := 35) (q := aB) (f := k2) (x := nI (5 * L + sx)) (v := -1) (by first | assumption | omega) _) (va_cnB (own := RX1) (host := "HeardSecond") (index := 64) 3 hts ggX1_tableWords_X4_put rfl rfl rfl (hN.get 26 rfl) (hts (.initialized RX4) (by decide +kernel)) (by decide +kernel) ⟨Nat.le_of_ble_eq_true rfl, Nat.le_of_ble_eq_true rfl⟩) (hts (.static yX4_put) (by decide +kernel)) hK hP hD hN [5] rfl rfl rfl hl.1 rfl (Nat.le_of_ble_eq_true rfl) dX1_tableWords_99 ⟨Nat.zero_le _, Nat.zero_le _⟩) hP hD hS hA [5] [0, 1, 2, 3, 4] [0, 1, 2, 3, 4, 5] rfl rfl rfl (by decide) rfl (fun _ => rfl) (fun u19 H locs hw17 hP hD hS => ?_)
                    have hP : va_P D vwCl [(o0, .inr (1, [.ref b0, .ref t0, .ref aL, .ref aB, .ref aS, .ref aW, .ref aE, .ref aY, .ref aZ, .ref aF])), (b0, .inr (0, [.ref qk, .ref qs, .int (nI N), .int pt])), (qk, .inl (cA, 5, .inl kf)), (t0, .inr (3, [.int la, .int be, .int ou, .int si, .int en, .int w0, .int w1, .int br, .ref wd, .int td, .ref tw, .ref ts])), (aL, .inl (cA, 35, .inl (jPut 35 k1 (nI (5 * L + sx)) (-2)))), (aB, .inl (cA, 35, .inl (jPut 35 k2 (nI (5 * L + sx)) (-1))))] H := hP
                    have hD : va_D A [(o0, .inr (1, [.ref b0, .ref t0, .ref aL, .ref aB, .ref aS, .ref aW, .ref aE, .ref aY, .ref aZ, .ref aF])), (b0, .inr (0, [.ref qk, .ref qs, .int (nI N), .int pt])), (qk, .inl (cA, 5, .inl kf)), (t0, .inr (3, [.int la, .int be, .int ou, .int si, .int en, .int w0, .int w1, .int br, .ref wd, .int td, .ref tw, .ref ts])), (aL, .inl (cA, 35, .inl (jPut 35 k1 (nI (5 * L + sx)) (-2)))), (aB, .inl (cA, 35, .inl (jPut 35 k2 (nI (5 * L + sx)) (-1))))] := hD
                    refine lv_iinc (v := nI (sx + 1)) (lv' := [(2, .int (nI (sx + 1))), (3, .int 0), (0, .ref o0), (1, .int (pI L))]) hx hb dX1_tableWords_102 hl (k := 3) rfl (nI_1 sx) (by decide) rfl (fun ls hl => ?_)
                    refine lv_goto (tgt := 9) hx hb dX1_tableWords_105 (by decide) ?_
                    exact ih3 (sx + 1) (jPut 35 k1 (nI (5 * L + sx)) (-2)) (jPut 35 k2 (nI (5 * L + sx)) (-1)) (by omega) (by first | assumption | omega) (by clear hret hl hS hD hP hK hA hN hts hx hb hr hml hown hlocks hiX1 hiX3 ih1 ih3; intro p hp; exact z_fs (k := 5 * L + sx) (by omega) (by decide) k1_ (by rw [jLT_at (by omega)]; simp_all [jCan]) p (by omega)) (by clear hret hl hS hD hP hK hA hN hts hx hb hr hml hown hlocks hiX1 hiX3 ih1 ih3; intro p hp; exact z_fs (k := 5 * L + sx) (by omega) (by decide) k2_ (by rw [jBT_at (by omega)]; simp_all [jCan]) p (by omega)) _ _ _ hP hD hS (lv_sub hl [2, 3, 0] rfl)
                  · skip
                    exact absurd (by decide) c83_16
                · skip
                  exact absurd (by decide) c54_9
              · skip
                refine lv_aload_n hx hb dX1_tableWords_19 rfl (lv_at hl 0 rfl) ?_
                refine va_get (D := D) (ci := 1) (v := .ref b0) (C := RX1) (T := TX1) (N := 10) hx hb hts hiX1 hown hK hP 0 rfl rfl 0 (by decide) (hts (.fieldLink RX1 36 "HeardSecond$Outlook" "bench" "LHeardSecond$Bench;") (by decide +kernel)) (fun _ h9 => h9) rfl dX1_tableWords_20 ?_
                refine lv_iload_n hx hb dX1_tableWords_23 rfl (lv_at hl 2 rfl) ?_
                refine lv_iload_n hx hb dX1_tableWords_24 rfl (lv_at hl 1 rfl) ?_
                refine lv_aload_n hx hb dX1_tableWords_25 rfl (lv_at hl 0 rfl) ?_
                refine va_get (D := D) (ci := 1) (v := .ref t0) (C := RX1) (T := TX1) (N := 10) hx hb hts hiX1 hown hK hP 0 rfl rfl 1 (by decide) (hts (.fieldLink RX1 40 "HeardSecond$Outlook" "now" "LHeardSecond$Trial;") (by decide +kernel)) (fun _ h9 => h9) rfl dX1_tableWords_26 ?_
                refine va_getN (D := D) (ci := 3) (v := .int ou) (C := RX3) (T := TX3) (N := 12) hx hb hts hiX3 hown hK hP 3 rfl rfl 2 (by decide) (hN.getb 9 rfl) (fun _ h9 => h9) rfl dX1_tableWords_29 ?_
                refine z_bri (z_runV (As := [.int (nI sx), .int (pI L), .int ou]) (rest := []) (ci := 0) ⟨hx, hb, hml, hown, hts⟩ (c_X0_counts (b0 := b0) (qk := qk) (qs := qs) (N := N) (pt := pt) (kf := kf) (x := nI sx) (last := pI L) (o := ou) (by first | assumption | omega) _) (cwV 3 hts gX1_tableWords_X0_counts rfl rfl rfl (by decide +kernel) ⟨Nat.le_of_ble_eq_true rfl, Nat.le_of_ble_eq_true rfl⟩) hK hP hD hN [1, 2] rfl rfl rfl rfl rfl hl.1 rfl (Nat.le_of_ble_eq_true rfl) dX1_tableWords_32 ⟨Nat.zero_le _, Nat.zero_le _⟩) hP hD hS hA [1, 2] rfl (fun r21 u22 H locs hw20 hP hS => ?_)
                obtain rfl : r21 = bI (jCounts N kf (nI sx) (pI L) ou) := hw20
                refine lv_if_eq (tgt := 42) hx hb dX1_tableWords_35 (by decide) (fun c35_23 => ?_) (fun c35_23 => ?_)
                · skip
                  have c35_23 := bI_0.mp c35_23
                  refine lv_iconst (v := 0) hx hb dX1_tableWords_42 (by decide) ?_
                  refine lv_istore_n (lv' := [(3, .int 0), (0, .ref o0), (1, .int (pI L)), (2, .int (nI sx))]) hx hb dX1_tableWords_43 rfl hl (by decide) rfl (fun ls hl => ?_)
                  refine lv_aload_n hx hb dX1_tableWords_44 rfl (lv_at hl 1 rfl) ?_
                  refine va_get (D := D) (ci := 1) (v := .ref aL) (C := RX1) (T := TX1) (N := 10) hx hb hts hiX1 hown hK hP 0 rfl rfl 2 (by decide) (hts (.fieldLink RX1 9 "HeardSecond$Outlook" "lastThen" "[I") (by decide +kernel)) (fun _ h9 => h9) rfl dX1_tableWords_45 ?_
                  refine lv_iload_n hx hb dX1_tableWords_48 rfl (lv_at hl 2 rfl) ?_
                  refine lv_iload_n hx hb dX1_tableWords_49 rfl (lv_at hl 3 rfl) ?_
                  refine z_bri (z_runS (As := [.int (pI L), .int (nI sx)]) (rest := [.ref aL]) ⟨hx, hb, hml, hown, hts⟩ (c_X1_wordPlace (x := pI L) (y := nI sx) _) (va_cwS 2 hts gX1_tableWords_X1_wordPlace rfl rfl rfl (by decide +kernel) ⟨Nat.le_of_ble_eq_true rfl, Nat.le_of_ble_eq_true rfl⟩) hK hP hD hN [] rfl rfl rfl hl.1 rfl (Nat.le_of_ble_eq_true rfl) dX1_tableWords_50 ⟨Nat.zero_le _, Nat.zero_le _⟩) hP hD hS hA [] rfl (fun r25 u26 H locs hw24 hP hS => ?_)
                  obtain rfl : r25 = ((pI L) + 1) * 5 + (nI sx) := hw24
                  refine z_top (y := nI (5 * L + sx)) (wp_eq L sx) ?_
                  refine lv_iload_n hx hb dX1_tableWords_53 rfl (lv_at hl 0 rfl) ?_
                  refine lv_if_eq (tgt := 68) hx hb dX1_tableWords_54 (by decide) (fun c54_27 => ?_) (fun c54_27 => ?_)
                  · skip
                    refine lv_bipush (v := (-2)) hx hb dX1_tableWords_68 (by decide) ?_
                    refine z_bwv (wr := [(o0, .inr (1, [.ref b0, .ref t0, .ref aL, .ref aB, .ref aS, .ref aW, .ref aE, .ref aY, .ref aZ, .ref aF])), (b0, .inr (0, [.ref qk, .ref qs, .int (nI N), .int pt])), (qk, .inl (cA, 5, .inl kf)), (t0, .inr (3, [.int la, .int be, .int ou, .int si, .int en, .int w0, .int w1, .int br, .ref wd, .int td, .ref tw, .ref ts])), (aB, .inl (cA, 35, .inl k2))]) (ws' := fun (_ : Unit) => [(o0, .inr (1, [.ref b0, .ref t0, .ref aL, .ref aB, .ref aS, .ref aW, .ref aE, .ref aY, .ref aZ, .ref aF])), (b0, .inr (0, [.ref qk, .ref qs, .int (nI N), .int pt])), (qk, .inl (cA, 5, .inl kf)), (t0, .inr (3, [.int la, .int be, .int ou, .int si, .int en, .int w0, .int w1, .int br, .ref wd, .int td, .ref tw, .ref ts])), (aL, .inl (cA, 35, .inl (jPut 35 k1 (nI (5 * L + sx)) (-2)))), (aB, .inl (cA, 35, .inl k2))]) (z_runSN (As := [.ref aL, .int (nI (5 * L + sx)), .int (-2)]) (rest := []) ⟨hx, hb, hml, hown, hts⟩ (c_X4_put (n := 35) (q := aL) (f := k1) (x := nI (5 * L + sx)) (v := -2) (by first | assumption | omega) _) (va_cnB (own := RX1) (host := "HeardSecond") (index := 64) 3 hts ggX1_tableWords_X4_put rfl rfl rfl (hN.get 26 rfl) (hts (.initialized RX4) (by decide +kernel)) (by decide +kernel) ⟨Nat.le_of_ble_eq_true rfl, Nat.le_of_ble_eq_true rfl⟩) (hts (.static yX4_put) (by decide +kernel)) hK hP hD hN [4] rfl rfl rfl hl.1 rfl (Nat.le_of_ble_eq_true rfl) dX1_tableWords_70 ⟨Nat.zero_le _, Nat.zero_le _⟩) hP hD hS hA [4] [0, 1, 2, 3, 5] [0, 1, 2, 3, 5, 4] rfl rfl rfl (by decide) rfl (fun _ => rfl) (fun u30 H locs hw28 hP hD hS => ?_)
                    have hP : va_P D vwCl [(o0, .inr (1, [.ref b0, .ref t0, .ref aL, .ref aB, .ref aS, .ref aW, .ref aE, .ref aY, .ref aZ, .ref aF])), (b0, .inr (0, [.ref qk, .ref qs, .int (nI N), .int pt])), (qk, .inl (cA, 5, .inl kf)), (t0, .inr (3, [.int la, .int be, .int ou, .int si, .int en, .int w0, .int w1, .int br, .ref wd, .int td, .ref tw, .ref ts])), (aL, .inl (cA, 35, .inl (jPut 35 k1 (nI (5 * L + sx)) (-2)))), (aB, .inl (cA, 35, .inl k2))] H := hP
                    have hD : va_D A [(o0, .inr (1, [.ref b0, .ref t0, .ref aL, .ref aB, .ref aS, .ref aW, .ref aE, .ref aY, .ref aZ, .ref aF])), (b0, .inr (0, [.ref qk, .ref qs, .int (nI N), .int pt])), (qk, .inl (cA, 5, .inl kf)), (t0, .inr (3, [.int la, .int be, .int ou, .int si, .int en, .int w0, .int w1, .int br, .ref wd, .int td, .ref tw, .ref ts])), (aL, .inl (cA, 35, .inl (jPut 35 k1 (nI (5 * L + sx)) (-2)))), (aB, .inl (cA, 35, .inl k2))] := hD
                    refine lv_aload_n hx hb dX1_tableWords_73 rfl (lv_at hl 1 rfl) ?_
                    refine va_get (D := D) (ci := 1) (v := .ref aB) (C := RX1) (T := TX1) (N := 10) hx hb hts hiX1 hown hK hP 0 rfl rfl 3 (by decide) (hts (.fieldLink RX1 15 "HeardSecond$Outlook" "believedThen" "[I") (by decide +kernel)) (fun _ h9 => h9) rfl dX1_tableWords_74 ?_
                    refine lv_iload_n hx hb dX1_tableWords_77 rfl (lv_at hl 2 rfl) ?_
                    refine lv_iload_n hx hb dX1_tableWords_78 rfl (lv_at hl 3 rfl) ?_
                    refine z_bri (z_runS (As := [.int (pI L), .int (nI sx)]) (rest := [.ref aB]) ⟨hx, hb, hml, hown, hts⟩ (c_X1_wordPlace (x := pI L) (y := nI sx) _) (va_cwS 2 hts gX1_tableWords_X1_wordPlace rfl rfl rfl (by decide +kernel) ⟨Nat.le_of_ble_eq_true rfl, Nat.le_of_ble_eq_true rfl⟩) hK hP hD hN [] rfl rfl rfl hl.1 rfl (Nat.le_of_ble_eq_true rfl) dX1_tableWords_79 ⟨Nat.zero_le _, Nat.zero_le _⟩) hP hD hS hA [] rfl (fun r32 u33 H locs hw31 hP hS => ?_)
                    obtain rfl : r32 = ((pI L) + 1) * 5 + (nI sx) := hw31
                    refine z_top (y := nI (5 * L + sx)) (wp_eq L sx) ?_
                    refine lv_iload_n hx hb dX1_tableWords_82 rfl (lv_at hl 0 rfl) ?_
                    refine lv_if_eq (tgt := 98) hx hb dX1_tableWords_83 (by decide) (fun c83_34 => ?_) (fun c83_34 => ?_)
                    · skip
                      refine lv_iconst (v := (-1)) hx hb dX1_tableWords_98 (by decide) ?_
                      refine z_bwv (wr := [(o0, .inr (1, [.ref b0, .ref t0, .ref aL, .ref aB, .ref aS, .ref aW, .ref aE, .ref aY, .ref aZ, .ref aF])), (b0, .inr (0, [.ref qk, .ref qs, .int (nI N), .int pt])), (qk, .inl (cA, 5, .inl kf)), (t0, .inr (3, [.int la, .int be, .int ou, .int si, .int en, .int w0, .int w1, .int br, .ref wd, .int td, .ref tw, .ref ts])), (aL, .inl (cA, 35, .inl (jPut 35 k1 (nI (5 * L + sx)) (-2))))]) (ws' := fun (_ : Unit) => [(o0, .inr (1, [.ref b0, .ref t0, .ref aL, .ref aB, .ref aS, .ref aW, .ref aE, .ref aY, .ref aZ, .ref aF])), (b0, .inr (0, [.ref qk, .ref qs, .int (nI N), .int pt])), (qk, .inl (cA, 5, .inl kf)), (t0, .inr (3, [.int la, .int be, .int ou, .int si, .int en, .int w0, .int w1, .int br, .ref wd, .int td, .ref tw, .ref ts])), (aL, .inl (cA, 35, .inl (jPut 35 k1 (nI (5 * L + sx)) (-2)))), (aB, .inl (cA, 35, .inl (jPut 35 k2 (nI (5 * L + sx)) (-1))))]) (z_runSN (As := [.ref aB, .int (nI (5 * L + sx)), .int (-1)]) (rest := []) ⟨hx, hb, hml, hown, hts⟩ (c_X4_put (n := 35) (q := aB) (f := k2) (x := nI (5 * L + sx)) (v := -1) (by first | assumption | omega) _) (va_cnB (own := RX1) (host := "HeardSecond") (index := 64) 3 hts ggX1_tableWords_X4_put rfl rfl rfl (hN.get 26 rfl) (hts (.initialized RX4) (by decide +kernel)) (by decide +kernel) ⟨Nat.le_of_ble_eq_true rfl, Nat.le_of_ble_eq_true rfl⟩) (hts (.static yX4_put) (by decide +kernel)) hK hP hD hN [5] rfl rfl rfl hl.1 rfl (Nat.le_of_ble_eq_true rfl) dX1_tableWords_99 ⟨Nat.zero_le _, Nat.zero_le _⟩) hP hD hS hA [5] [0, 1, 2, 3, 4] [0, 1, 2, 3, 4, 5] rfl rfl rfl (by decide) rfl (fun _ => rfl) (fun u37 H locs hw35 hP hD hS => ?_)
                      have hP : va_P D vwCl [(o0, .inr (1, [.ref b0, .ref t0, .ref aL, .ref aB, .ref aS, .ref aW, .ref aE, .ref aY, .ref aZ, .ref aF])), (b0, .inr (0, [.ref qk, .ref qs, .int (nI N), .int pt])), (qk, .inl (cA, 5, .inl kf)), (t0, .inr (3, [.int la, .int be, .int ou, .int si, .int en, .int w0, .int w1, .int br, .ref wd, .int td, .ref tw, .ref ts])), (aL, .inl (cA, 35, .inl (jPut 35 k1 (nI (5 * L + sx)) (-2)))), (aB, .inl (cA, 35, .inl (jPut 35 k2 (nI (5 * L + sx)) (-1))))] H := hP
                      have hD : va_D A [(o0, .inr (1, [.ref b0, .ref t0, .ref aL, .ref aB, .ref aS, .ref aW, .ref aE, .ref aY, .ref aZ, .ref aF])), (b0, .inr (0, [.ref qk, .ref qs, .int (nI N), .int pt])), (qk, .inl (cA, 5, .inl kf)), (t0, .inr (3, [.int la, .int be, .int ou, .int si, .int en, .int w0, .int w1, .int br, .ref wd, .int td, .ref tw, .ref ts])), (aL, .inl (cA, 35, .inl (jPut 35 k1 (nI (5 * L + sx)) (-2)))), (aB, .inl (cA, 35, .inl (jPut 35 k2 (nI (5 * L + sx)) (-1))))] := hD
                      refine lv_iinc (v := nI (sx + 1)) (lv' := [(2, .int (nI (sx + 1))), (3, .int 0), (0, .ref o0), (1, .int (pI L))]) hx hb dX1_tableWords_102 hl (k := 3) rfl (nI_1 sx) (by decide) rfl (fun ls hl => ?_)
                      refine lv_goto (tgt := 9) hx hb dX1_tableWords_105 (by decide) ?_
                      exact ih3 (sx + 1) (jPut 35 k1 (nI (5 * L + sx)) (-2)) (jPut 35 k2 (nI (5 * L + sx)) (-1)) (by omega) (by first | assumption | omega) (by clear hret hl hS hD hP hK hA hN hts hx hb hr hml hown hlocks hiX1 hiX3 ih1 ih3; intro p hp; exact z_fs (k := 5 * L + sx) (by omega) (by decide) k1_ (by rw [jLT_at (by omega)]; simp_all [jCan]) p (by omega)) (by clear hret hl hS hD hP hK hA hN hts hx hb hr hml hown hlocks hiX1 hiX3 ih1 ih3; intro p hp; exact z_fs (k := 5 * L + sx) (by omega) (by decide) k2_ (by rw [jBT_at (by omega)]; simp_all [jCan]) p (by omega)) _ _ _ hP hD hS (lv_sub hl [2, 3, 0] rfl)
                    · skip
                      exact absurd (by decide) c83_34
                  · skip
                    exact absurd (by decide) c54_27
                · skip
                  have c35_23 := bI_n0.mp c35_23
                  refine lv_iconst (v := 1) hx hb dX1_tableWords_38 (by decide) ?_
                  refine lv_goto (tgt := 43) hx hb dX1_tableWords_39 (by decide) ?_
                  refine lv_istore_n (lv' := [(3, .int 1), (0, .ref o0), (1, .int (pI L)), (2, .int (nI sx))]) hx hb dX1_tableWords_43 rfl hl (by decide) rfl (fun ls hl => ?_)
                  refine lv_aload_n hx hb dX1_tableWords_44 rfl (lv_at hl 1 rfl) ?_
                  refine va_get (D := D) (ci := 1) (v := .ref aL) (C := RX1) (T := TX1) (N := 10) hx hb hts hiX1 hown hK hP 0 rfl rfl 2 (by decide) (hts (.fieldLink RX1 9 "HeardSecond$Outlook" "lastThen" "[I") (by decide +kernel)) (fun _ h9 => h9) rfl dX1_tableWords_45 ?_
                  refine lv_iload_n hx hb dX1_tableWords_48 rfl (lv_at hl 2 rfl) ?_
                  refine lv_iload_n hx hb dX1_tableWords_49 rfl (lv_at hl 3 rfl) ?_
                  refine z_bri (z_runS (As := [.int (pI L), .int (nI sx)]) (rest := [.ref aL]) ⟨hx, hb, hml, hown, hts⟩ (c_X1_wordPlace (x := pI L) (y := nI sx) _) (va_cwS 2 hts gX1_tableWords_X1_wordPlace rfl rfl rfl (by decide +kernel) ⟨Nat.le_of_ble_eq_true rfl, Nat.le_of_ble_eq_true rfl⟩) hK hP hD hN [] rfl rfl rfl hl.1 rfl (Nat.le_of_ble_eq_true rfl) dX1_tableWords_50 ⟨Nat.zero_le _, Nat.zero_le _⟩) hP hD hS hA [] rfl (fun r39 u40 H locs hw38 hP hS => ?_)
                  obtain rfl : r39 = ((pI L) + 1) * 5 + (nI sx) := hw38
                  refine z_top (y := nI (5 * L + sx)) (wp_eq L sx) ?_
                  refine lv_iload_n hx hb dX1_tableWords_53 rfl (lv_at hl 0 rfl) ?_
                  refine lv_if_eq (tgt := 68) hx hb dX1_tableWords_54 (by decide) (fun c54_41 => ?_) (fun c54_41 => ?_)
                  · skip
                    exact absurd c54_41 (by decide)
                  · skip
                    refine lv_aload_n hx hb dX1_tableWords_57 rfl (lv_at hl 1 rfl) ?_
                    refine va_get (D := D) (ci := 1) (v := .ref b0) (C := RX1) (T := TX1) (N := 10) hx hb hts hiX1 hown hK hP 0 rfl rfl 0 (by decide) (hts (.fieldLink RX1 36 "HeardSecond$Outlook" "bench" "LHeardSecond$Bench;") (by decide +kernel)) (fun _ h9 => h9) rfl dX1_tableWords_58 ?_
                    refine lv_iload_n hx hb dX1_tableWords_61 rfl (lv_at hl 3 rfl) ?_
                    refine z_bri (z_runV (As := [.int (nI sx)]) (rest := [.int (nI (5 * L + sx)), .ref aL]) (ci := 0) ⟨hx, hb, hml, hown, hts⟩ (c_X0_lastBehind (b0 := b0) (qk := qk) (qs := qs) (N := N) (pt := pt) (kf := kf) (x := nI sx) (by first | assumption | omega) _) (cwV 1 hts gX1_tableWords_X0_lastBehind rfl rfl rfl (by decide +kernel) ⟨Nat.le_of_ble_eq_true rfl, Nat.le_of_ble_eq_true rfl⟩) hK hP hD hN [1, 2] rfl rfl rfl rfl rfl hl.1 rfl (Nat.le_of_ble_eq_true rfl) dX1_tableWords_62 ⟨Nat.zero_le _, Nat.zero_le _⟩) hP hD hS hA [1, 2] rfl (fun r43 u44 H locs hw42 hP hS => ?_)
                    obtain rfl : r43 = jLast N kf (nI sx) := hw42
                    refine lv_goto (tgt := 70) hx hb dX1_tableWords_65 (by decide) ?_
                    refine z_bwv (wr := [(o0, .inr (1, [.ref b0, .ref t0, .ref aL, .ref aB, .ref aS, .ref aW, .ref aE, .ref aY, .ref aZ, .ref aF])), (b0, .inr (0, [.ref qk, .ref qs, .int (nI N), .int pt])), (qk, .inl (cA, 5, .inl kf)), (t0, .inr (3, [.int la, .int be, .int ou, .int si, .int en, .int w0, .int w1, .int br, .ref wd, .int td, .ref tw, .ref ts])), (aB, .inl (cA, 35, .inl k2))]) (ws' := fun (_ : Unit) => [(o0, .inr (1, [.ref b0, .ref t0, .ref aL, .ref aB, .ref aS, .ref aW, .ref aE, .ref aY, .ref aZ, .ref aF])), (b0, .inr (0, [.ref qk, .ref qs, .int (nI N), .int pt])), (qk, .inl (cA, 5, .inl kf)), (t0, .inr (3, [.int la, .int be, .int ou, .int si, .int en, .int w0, .int w1, .int br, .ref wd, .int td, .ref tw, .ref ts])), (aL, .inl (cA, 35, .inl (jPut 35 k1 (nI (5 * L + sx)) (jLast N kf (nI sx))))), (aB, .inl (cA, 35, .inl k2))]) (z_runSN (As := [.ref aL, .int (nI (5 * L + sx)), .int (jLast N kf (nI sx))]) (rest := []) ⟨hx, hb, hml, hown, hts⟩ (c_X4_put (n := 35) (q := aL) (f := k1) (x := nI (5 * L + sx)) (v := jLast N kf (nI sx)) (by first | assumption | omega) _) (va_cnB (own := RX1) (host := "HeardSecond") (index := 64) 3 hts ggX1_tableWords_X4_put rfl rfl rfl (hN.get 26 rfl) (hts (.initialized RX4) (by decide +kernel)) (by decide +kernel) ⟨Nat.le_of_ble_eq_true rfl, Nat.le_of_ble_eq_true rfl⟩) (hts (.static yX4_put) (by decide +kernel)) hK hP hD hN [4] rfl rfl rfl hl.1 rfl (Nat.le_of_ble_eq_true rfl) dX1_tableWords_70 ⟨Nat.zero_le _, Nat.zero_le _⟩) hP hD hS hA [4] [0, 1, 2, 3, 5] [0, 1, 2, 3, 5, 4] rfl rfl rfl (by decide) rfl (fun _ => rfl) (fun u47 H locs hw45 hP hD hS => ?_)
                    have hP : va_P D vwCl [(o0, .inr (1, [.ref b0, .ref t0, .ref aL, .ref aB, .ref aS, .ref aW, .ref aE, .ref aY, .ref aZ, .ref aF])), (b0, .inr (0, [.ref qk, .ref qs, .int (nI N), .int pt])), (qk, .inl (cA, 5, .inl kf)), (t0, .inr (3, [.int la, .int be, .int ou, .int si, .int en, .int w0, .int w1, .int br, .ref wd, .int td, .ref tw, .ref ts])), (aL, .inl (cA, 35, .inl (jPut 35 k1 (nI (5 * L + sx)) (jLast N kf (nI sx))))), (aB, .inl (cA, 35, .inl k2))] H := hP
                    have hD : va_D A [(o0, .inr (1, [.ref b0, .ref t0, .ref aL, .ref aB, .ref aS, .ref aW, .ref aE, .ref aY, .ref aZ, .ref aF])), (b0, .inr (0, [.ref qk, .ref qs, .int (nI N), .int pt])), (qk, .inl (cA, 5, .inl kf)), (t0, .inr (3, [.int la, .int be, .int ou, .int si, .int en, .int w0, .int w1, .int br, .ref wd, .int td, .ref tw, .ref ts])), (aL, .inl (cA, 35, .inl (jPut 35 k1 (nI (5 * L + sx)) (jLast N kf (nI sx))))), (aB, .inl (cA, 35, .inl k2))] := hD
                    refine lv_aload_n hx hb dX1_tableWords_73 rfl (lv_at hl 1 rfl) ?_
                    refine va_get (D := D) (ci := 1) (v := .ref aB) (C := RX1) (T := TX1) (N := 10) hx hb hts hiX1 hown hK hP 0 rfl rfl 3 (by decide) (hts (.fieldLink RX1 15 "HeardSecond$Outlook" "believedThen" "[I") (by decide +kernel)) (fun _ h9 => h9) rfl dX1_tableWords_74 ?_
                    refine lv_iload_n hx hb dX1_tableWords_77 rfl (lv_at hl 2 rfl) ?_
                    refine lv_iload_n hx hb dX1_tableWords_78 rfl (lv_at hl 3 rfl) ?_
                    refine z_bri (z_runS (As := [.int (pI L), .int (nI sx)]) (rest := [.ref aB]) ⟨hx, hb, hml, hown, hts⟩ (c_X1_wordPlace (x := pI L) (y := nI sx) _) (va_cwS 2 hts gX1_tableWords_X1_wordPlace rfl rfl rfl (by decide +kernel) ⟨Nat.le_of_ble_eq_true rfl, Nat.le_of_ble_eq_true rfl⟩) hK hP hD hN [] rfl rfl rfl hl.1 rfl (Nat.le_of_ble_eq_true rfl) dX1_tableWords_79 ⟨Nat.zero_le _, Nat.zero_le _⟩) hP hD hS hA [] rfl (fun r49 u50 H locs hw48 hP hS => ?_)
                    obtain rfl : r49 = ((pI L) + 1) * 5 + (nI sx) := hw48
                    refine z_top (y := nI (5 * L + sx)) (wp_eq L sx) ?_
                    refine lv_iload_n hx hb dX1_tableWords_82 rfl (lv_at hl 0 rfl) ?_
                    refine lv_if_eq (tgt := 98) hx hb dX1_tableWords_83 (by decide) (fun c83_51 => ?_) (fun c83_51 => ?_)
                    · skip
                      exact absurd c83_51 (by decide)
                    · skip
                      refine lv_aload_n hx hb dX1_tableWords_86 rfl (lv_at hl 1 rfl) ?_
                      refine va_get (D := D) (ci := 1) (v := .ref b0) (C := RX1) (T := TX1) (N := 10) hx hb hts hiX1 hown hK hP 0 rfl rfl 0 (by decide) (hts (.fieldLink RX1 36 "HeardSecond$Outlook" "bench" "LHeardSecond$Bench;") (by decide +kernel)) (fun _ h9 => h9) rfl dX1_tableWords_87 ?_
                      refine lv_iload_n hx hb dX1_tableWords_90 rfl (lv_at hl 3 rfl) ?_
                      refine lv_iload_n hx hb dX1_tableWords_91 rfl (lv_at hl 2 rfl) ?_
                      refine z_bri (z_runV (As := [.int (nI sx), .int (pI L)]) (rest := [.int (nI (5 * L + sx)), .ref aB]) (ci := 0) ⟨hx, hb, hml, hown, hts⟩ (c_X0_believedBehind (b0 := b0) (qk := qk) (qs := qs) (N := N) (pt := pt) (kf := kf) (x := nI sx) (last := pI L) (by first | assumption | omega) _) (cwV 2 hts gX1_tableWords_X0_believedBehind rfl rfl rfl (by decide +kernel) ⟨Nat.le_of_ble_eq_true rfl, Nat.le_of_ble_eq_true rfl⟩) hK hP hD hN [1, 2] rfl rfl rfl rfl rfl hl.1 rfl (Nat.le_of_ble_eq_true rfl) dX1_tableWords_92 ⟨Nat.zero_le _, Nat.zero_le _⟩) hP hD hS hA [1, 2] rfl (fun r53 u54 H locs hw52 hP hS => ?_)
                      obtain rfl : r53 = jBel N kf (nI sx) (pI L) := hw52
                      refine lv_goto (tgt := 99) hx hb dX1_tableWords_95 (by decide) ?_
                      refine z_bwv (wr := [(o0, .inr (1, [.ref b0, .ref t0, .ref aL, .ref aB, .ref aS, .ref aW, .ref aE, .ref aY, .ref aZ, .ref aF])), (b0, .inr (0, [.ref qk, .ref qs, .int (nI N), .int pt])), (qk, .inl (cA, 5, .inl kf)), (t0, .inr (3, [.int la, .int be, .int ou, .int si, .int en, .int w0, .int w1, .int br, .ref wd, .int td, .ref tw, .ref ts])), (aL, .inl (cA, 35, .inl (jPut 35 k1 (nI (5 * L + sx)) (jLast N kf (nI sx)))))]) (ws' := fun (_ : Unit) => [(o0, .inr (1, [.ref b0, .ref t0, .ref aL, .ref aB, .ref aS, .ref aW, .ref aE, .ref aY, .ref aZ, .ref aF])), (b0, .inr (0, [.ref qk, .ref qs, .int (nI N), .int pt])), (qk, .inl (cA, 5, .inl kf)), (t0, .inr (3, [.int la, .int be, .int ou, .int si, .int en, .int w0, .int w1, .int br, .ref wd, .int td, .ref tw, .ref ts])), (aL, .inl (cA, 35, .inl (jPut 35 k1 (nI (5 * L + sx)) (jLast N kf (nI sx))))), (aB, .inl (cA, 35, .inl (jPut 35 k2 (nI (5 * L + sx)) (jBel N kf (nI sx) (pI L)))))]) (z_runSN (As := [.ref aB, .int (nI (5 * L + sx)), .int (jBel N kf (nI sx) (pI L))]) (rest := []) ⟨hx, hb, hml, hown, hts⟩ (c_X4_put (n := 35) (q := aB) (f := k2) (x := nI (5 * L + sx)) (v := jBel N kf (nI sx) (pI L)) (by first | assumption | omega) _) (va_cnB (own := RX1) (host := "HeardSecond") (index := 64) 3 hts ggX1_tableWords_X4_put rfl rfl rfl (hN.get 26 rfl) (hts (.initialized RX4) (by decide +kernel)) (by decide +kernel) ⟨Nat.le_of_ble_eq_true rfl, Nat.le_of_ble_eq_true rfl⟩) (hts (.static yX4_put) (by decide +kernel)) hK hP hD hN [5] rfl rfl rfl hl.1 rfl (Nat.le_of_ble_eq_true rfl) dX1_tableWords_99 ⟨Nat.zero_le _, Nat.zero_le _⟩) hP hD hS hA [5] [0, 1, 2, 3, 4] [0, 1, 2, 3, 4, 5] rfl rfl rfl (by decide) rfl (fun _ => rfl) (fun u57 H locs hw55 hP hD hS => ?_)
                      have hP : va_P D vwCl [(o0, .inr (1, [.ref b0, .ref t0, .ref aL, .ref aB, .ref aS, .ref aW, .ref aE, .ref aY, .ref aZ, .ref aF])), (b0, .inr (0, [.ref qk, .ref qs, .int (nI N), .int pt])), (qk, .inl (cA, 5, .inl kf)), (t0, .inr (3, [.int la, .int be, .int ou, .int si, .int en, .int w0, .int w1, .int br, .ref wd, .int td, .ref tw, .ref ts])), (aL, .inl (cA, 35, .inl (jPut 35 k1 (nI (5 * L + sx)) (jLast N kf (nI sx))))), (aB, .inl (cA, 35, .inl (jPut 35 k2 (nI (5 * L + sx)) (jBel N kf (nI sx) (pI L)))))] H := hP
                      have hD : va_D A [(o0, .inr (1, [.ref b0, .ref t0, .ref aL, .ref aB, .ref aS, .ref aW, .ref aE, .ref aY, .ref aZ, .ref aF])), (b0, .inr (0, [.ref qk, .ref qs, .int (nI N), .int pt])), (qk, .inl (cA, 5, .inl kf)), (t0, .inr (3, [.int la, .int be, .int ou, .int si, .int en, .int w0, .int w1, .int br, .ref wd, .int td, .ref tw, .ref ts])), (aL, .inl (cA, 35, .inl (jPut 35 k1 (nI (5 * L + sx)) (jLast N kf (nI sx))))), (aB, .inl (cA, 35, .inl (jPut 35 k2 (nI (5 * L + sx)) (jBel N kf (nI sx) (pI L)))))] := hD
                      refine lv_iinc (v := nI (sx + 1)) (lv' := [(2, .int (nI (sx + 1))), (3, .int 1), (0, .ref o0), (1, .int (pI L))]) hx hb dX1_tableWords_102 hl (k := 3) rfl (nI_1 sx) (by decide) rfl (fun ls hl => ?_)
                      refine lv_goto (tgt := 9) hx hb dX1_tableWords_105 (by decide) ?_
                      exact ih3 (sx + 1) (jPut 35 k1 (nI (5 * L + sx)) (jLast N kf (nI sx))) (jPut 35 k2 (nI (5 * L + sx)) (jBel N kf (nI sx) (pI L))) (by omega) (by first | assumption | omega) (by clear hret hl hS hD hP hK hA hN hts hx hb hr hml hown hlocks hiX1 hiX3 ih1 ih3; intro p hp; exact z_fs (k := 5 * L + sx) (by omega) (by decide) k1_ (by rw [jLT_at (by omega)]; simp_all [jCan]) p (by omega)) (by clear hret hl hS hD hP hK hA hN hts hx hb hr hml hown hlocks hiX1 hiX3 ih1 ih3; intro p hp; exact z_fs (k := 5 * L + sx) (by omega) (by decide) k2_ (by rw [jBT_at (by omega)]; simp_all [jCan]) p (by omega)) _ _ _ hP hD hS (lv_sub hl [2, 3, 0] rfl)
        exact L9 6 0 g1 g2 (by omega) (by first | assumption | omega) (by clear hret hl hS hD hP hK hA hN hts hx hb hr hml hown hlocks hiX1 hiX3 ih1 L9; intro p hp; exact h1 p (by omega)) (by clear hret hl hS hD hP hK hA hN hts hx hb hr hml hown hlocks hiX1 hiX3 ih1 L9; intro p hp; exact h2 p (by omega)) _ _ _ hP hD hS (lv_sub hl [1, 2, 0] rfl)
  exact L2 8 0 lt bt (by omega) (by first | assumption | omega) (by clear hret hl hS hD hP hK hA hN hts hx hb hr hml hown hlocks hiX1 hiX3 L2; intro p hp; omega) (by clear hret hl hS hD hP hK hA hN hts hx hb hr hml hown hlocks hiX1 hiX3 L2; intro p hp; omega) _ _ _ hP hD hS (lv_sub hl [1, 0] rfl)
abbrev rm_c_X1_stepsBy : Room := { frames := 1, cells := 0, slots := 0, locals := 21 }
set_option maxHeartbeats 400000 in
set_option maxRecDepth 20000 in
theorem c_X1_stepsBy {l : Launch} {D : va_G} {cA : ClassId} {o0 : Nat} {b0 : Nat} {t0 : Nat} {aL : Nat} {aB : Nat} {aS : Nat} {aW : Nat} {aE : Nat} {aY : Nat} {aZ : Nat} {aF : Nat} {lt : Nat → Int32} {bt : Nat → Int32} {st_ : Nat → Int32} {sx : Nat} {L : Nat} {x : Int32} (hs : sx < 5) (hL : L < 7) : zMi l yX1_stepsBy wsX1_stepsBy rm_c_X1_stepsBy D cA [(o0, .inr (1, [.ref b0, .ref t0, .ref aL, .ref aB, .ref aS, .ref aW, .ref aE, .ref aY, .ref aZ, .ref aF])), (aL, .inl (cA, 35, .inl lt)), (aB, .inl (cA, 35, .inl bt)), (aS, .inl (cA, 7, .inl st_))] [.ref o0, .int (nI sx), .int (pI L), .int x] (fun (r : Int32) (_ : Unit) => r = jSB lt bt st_ sx L x) (fun (_ : Unit) => [(o0, .inr (1, [.ref b0, .ref t0, .ref aL, .ref aB, .ref aS, .ref aW, .ref aE, .ref aY, .ref aZ, .ref aF])), (aL, .inl (cA, 35, .inl lt)), (aB, .inl (cA, 35, .inl bt)), (aS, .inl (cA, 7, .inl st_))]) := by
  refine z_enteri (cc := cX1_stepsBy) (maxL := 5) (ty := .int) (by decide) rfl (Nat.le_of_ble_eq_true rfl) (fun p e s m args below meth c ls A H0 H locs Q hi_ hA hK hP hD hS hl hret => ?_)
  obtain ⟨hx, hb, hr, hml, hown, hts, hlocks, hN⟩ := hi_
  have hl : lv_has ls 5 [(0, .ref o0), (1, .int (nI sx)), (2, .int (pI L)), (3, .int x)] := hl
  have hiX1 : ∀ w ∈ wsX10, w ∈ wsX1_stepsBy := by decide +kernel
  refine lv_iload_n hx hb dX1_stepsBy_0 rfl (lv_at hl 2 rfl) ?_
  refine lv_iload_n hx hb dX1_stepsBy_1 rfl (lv_at hl 1 rfl) ?_
  refine z_bri (z_runS (As := [.int (pI L), .int (nI sx)]) (rest := []) ⟨hx, hb, hml, hown, hts⟩ (c_X1_wordPlace (x := pI L) (y := nI sx) _) (va_cwS 2 hts gX1_stepsBy_X1_wordPlace rfl rfl rfl (by decide +kernel) ⟨Nat.le_of_ble_eq_true rfl, Nat.le_of_ble_eq_true rfl⟩) hK hP hD hN [] rfl rfl rfl hl.1 rfl (Nat.le_of_ble_eq_true rfl) dX1_stepsBy_2 ⟨Nat.zero_le _, Nat.zero_le _⟩) hP hD hS hA [] rfl (fun r2 u3 H locs hw1 hP hS => ?_)
  obtain rfl : r2 = ((pI L) + 1) * 5 + (nI sx) := hw1
  refine z_top (y := nI (5 * L + sx)) (wp_eq L sx) ?_
  refine lv_istore (lv' := [(4, .int (nI (5 * L + sx))), (0, .ref o0), (1, .int (nI sx)), (2, .int (pI L)), (3, .int x)]) hx hb dX1_stepsBy_5 hl (by decide) rfl (fun ls hl => ?_)
  refine lv_aload_n hx hb dX1_stepsBy_7 rfl (lv_at hl 1 rfl) ?_
  refine va_get (D := D) (ci := 1) (v := .ref aL) (C := RX1) (T := TX1) (N := 10) hx hb hts hiX1 hown hK hP 0 rfl rfl 2 (by decide) (hts (.fieldLink RX1 9 "HeardSecond$Outlook" "lastThen" "[I") (by decide +kernel)) (fun _ h9 => h9) rfl dX1_stepsBy_8 ?_
  refine lv_iload hx hb dX1_stepsBy_11 (lv_at hl 0 rfl) ?_
  refine z_bri (z_runSN (As := [.ref aL, .int (nI (5 * L + sx))]) (rest := []) ⟨hx, hb, hml, hown, hts⟩ (c_X4_at (n := 35) (q := aL) (f := lt) (x := nI (5 * L + sx)) (by first | assumption | omega) _) (va_cnB (own := RX1) (host := "HeardSecond") (index := 93) 2 hts ggX1_stepsBy_X4_at rfl rfl rfl (hN.get 28 rfl) (hts (.initialized RX4) (by decide +kernel)) (by decide +kernel) ⟨Nat.le_of_ble_eq_true rfl, Nat.le_of_ble_eq_true rfl⟩) (hts (.static yX4_at) (by decide +kernel)) hK hP hD hN [1] rfl rfl rfl hl.1 rfl (Nat.le_of_ble_eq_true rfl) dX1_stepsBy_13 ⟨Nat.zero_le _, Nat.zero_le _⟩) hP hD hS hA [1] rfl (fun r5 u6 H locs hw4 hP hS => ?_)
  obtain rfl : r5 = jAt 35 lt (nI (5 * L + sx)) := hw4
  refine z_top (y := lt (5 * L + sx)) (jAt_nI (by omega) (by decide)) ?_
  refine lv_bipush (v := (-2)) hx hb dX1_stepsBy_16 (by decide) ?_
  refine lv_icmp_ne (tgt := 25) hx hb dX1_stepsBy_18 (by decide) (fun c18_7 => ?_) (fun c18_7 => ?_)
  · skip
    refine lv_aload_n hx hb dX1_stepsBy_25 rfl (lv_at hl 1 rfl) ?_
    refine va_get (D := D) (ci := 1) (v := .ref aB) (C := RX1) (T := TX1) (N := 10) hx hb hts hiX1 hown hK hP 0 rfl rfl 3 (by decide) (hts (.fieldLink RX1 15 "HeardSecond$Outlook" "believedThen" "[I") (by decide +kernel)) (fun _ h9 => h9) rfl dX1_stepsBy_26 ?_
    refine lv_iload hx hb dX1_stepsBy_29 (lv_at hl 0 rfl) ?_
    refine z_bri (z_runSN (As := [.ref aB, .int (nI (5 * L + sx))]) (rest := []) ⟨hx, hb, hml, hown, hts⟩ (c_X4_at (n := 35) (q := aB) (f := bt) (x := nI (5 * L + sx)) (by first | assumption | omega) _) (va_cnB (own := RX1) (host := "HeardSecond") (index := 93) 2 hts ggX1_stepsBy_X4_at rfl rfl rfl (hN.get 28 rfl) (hts (.initialized RX4) (by decide +kernel)) (by decide +kernel) ⟨Nat.le_of_ble_eq_true rfl, Nat.le_of_ble_eq_true rfl⟩) (hts (.static yX4_at) (by decide +kernel)) hK hP hD hN [2] rfl rfl rfl hl.1 rfl (Nat.le_of_ble_eq_true rfl) dX1_stepsBy_31 ⟨Nat.zero_le _, Nat.zero_le _⟩) hP hD hS hA [2] rfl (fun r9 u10 H locs hw8 hP hS => ?_)
    obtain rfl : r9 = jAt 35 bt (nI (5 * L + sx)) := hw8
    refine z_top (y := bt (5 * L + sx)) (jAt_nI (by omega) (by decide)) ?_
    refine lv_iload_n hx hb dX1_stepsBy_34 rfl (lv_at hl 4 rfl) ?_
    refine lv_icmp_ne (tgt := 40) hx hb dX1_stepsBy_35 (by decide) (fun c35_11 => ?_) (fun c35_11 => ?_)
    · skip
      refine lv_sipush (v := 1000) hx hb dX1_stepsBy_40 (by decide) ?_
      refine lv_iconst (v := 1) hx hb dX1_stepsBy_43 (by decide) ?_
      refine lv_aload_n hx hb dX1_stepsBy_44 rfl (lv_at hl 1 rfl) ?_
      refine va_get (D := D) (ci := 1) (v := .ref aS) (C := RX1) (T := TX1) (N := 10) hx hb hts hiX1 hown hK hP 0 rfl rfl 4 (by decide) (hts (.fieldLink RX1 18 "HeardSecond$Outlook" "steps" "[I") (by decide +kernel)) (fun _ h9 => h9) rfl dX1_stepsBy_45 ?_
      refine lv_aload_n hx hb dX1_stepsBy_48 rfl (lv_at hl 1 rfl) ?_
      refine va_get (D := D) (ci := 1) (v := .ref aL) (C := RX1) (T := TX1) (N := 10) hx hb hts hiX1 hown hK hP 0 rfl rfl 2 (by decide) (hts (.fieldLink RX1 9 "HeardSecond$Outlook" "lastThen" "[I") (by decide +kernel)) (fun _ h9 => h9) rfl dX1_stepsBy_49 ?_
      refine lv_iload hx hb dX1_stepsBy_52 (lv_at hl 0 rfl) ?_
      refine z_bri (z_runSN (As := [.ref aL, .int (nI (5 * L + sx))]) (rest := [.ref aS, .int 1, .int 1000]) ⟨hx, hb, hml, hown, hts⟩ (c_X4_at (n := 35) (q := aL) (f := lt) (x := nI (5 * L + sx)) (by first | assumption | omega) _) (va_cnB (own := RX1) (host := "HeardSecond") (index := 93) 2 hts ggX1_stepsBy_X4_at rfl rfl rfl (hN.get 28 rfl) (hts (.initialized RX4) (by decide +kernel)) (by decide +kernel) ⟨Nat.le_of_ble_eq_true rfl, Nat.le_of_ble_eq_true rfl⟩) (hts (.static yX4_at) (by decide +kernel)) hK hP hD hN [1] rfl rfl rfl hl.1 rfl (Nat.le_of_ble_eq_true rfl) dX1_stepsBy_54 ⟨Nat.zero_le _, Nat.zero_le _⟩) hP hD hS hA [1] rfl (fun r13 u14 H locs hw12 hP hS => ?_)
      obtain rfl : r13 = jAt 35 lt (nI (5 * L + sx)) := hw12
      refine z_top (y := lt (5 * L + sx)) (jAt_nI (by omega) (by decide)) ?_
      refine lv_iconst (v := 1) hx hb dX1_stepsBy_57 (by decide) ?_
      refine lv_iadd hx hb dX1_stepsBy_58 ?_
      refine z_bri (z_runSN (As := [.ref aS, .int ((lt (5 * L + sx)) + 1)]) (rest := [.int 1, .int 1000]) ⟨hx, hb, hml, hown, hts⟩ (c_X4_at (n := 7) (q := aS) (f := st_) (x := (lt (5 * L + sx)) + 1) (by first | assumption | omega) _) (va_cnB (own := RX1) (host := "HeardSecond") (index := 93) 2 hts ggX1_stepsBy_X4_at rfl rfl rfl (hN.get 28 rfl) (hts (.initialized RX4) (by decide +kernel)) (by decide +kernel) ⟨Nat.le_of_ble_eq_true rfl, Nat.le_of_ble_eq_true rfl⟩) (hts (.static yX4_at) (by decide +kernel)) hK hP hD hN [3] rfl rfl rfl hl.1 rfl (Nat.le_of_ble_eq_true rfl) dX1_stepsBy_59 ⟨Nat.zero_le _, Nat.zero_le _⟩) hP hD hS hA [3] rfl (fun r16 u17 H locs hw15 hP hS => ?_)
      obtain rfl : r16 = jAt 7 st_ ((lt (5 * L + sx)) + 1) := hw15
      refine lv_iadd hx hb dX1_stepsBy_62 ?_
      refine va_mmin (x := 1000) (y := 1 + (jAt 7 st_ ((lt (5 * L + sx)) + 1))) hx hb (hml.trans hl.1.symm) hown (hts (.methodLink RX1 82 Lib.Math.min.name) (by decide +kernel)) (hts (.static Lib.Math.min.name) (by decide +kernel)) (hts (.initialized "java/lang/Math") (by decide +kernel)) (hts (.code Lib.Math.min.name Lib.Math.min.code 2 (some .int)) (List.mem_of_getElem? (i := 7) (by decide +kernel))) (Nat.le_of_ble_eq_true rfl) (Nat.le_of_ble_eq_true rfl) (Nat.zero_le _) (Nat.zero_le _) dX1_stepsBy_63 ?_
      refine z_top (y := jMin 1000 (1 + (jAt 7 st_ ((lt (5 * L + sx)) + 1)))) rfl ?_
      -- path 1
      exact hret (jMin 1000 (1 + (jAt 7 st_ ((lt (5 * L + sx)) + 1)))) () _ _ _ _ dX1_stepsBy_66 (rfl) (by clear hret hl hS hD hP hK hA hN hts hx hb hr hml hown hlocks hiX1; simp_all [jSB]) hP hD hS
    · skip
      refine lv_iconst (v := 1) hx hb dX1_stepsBy_38 (by decide) ?_
      -- path 2
      exact hret (1) () _ _ _ _ dX1_stepsBy_39 (rfl) (by clear hret hl hS hD hP hK hA hN hts hx hb hr hml hown hlocks hiX1; simp_all [jSB]) hP hD hS
  · skip
    refine lv_sipush (v := 1000) hx hb dX1_stepsBy_21 (by decide) ?_
    -- path 3
    exact hret (1000) () _ _ _ _ dX1_stepsBy_24 (rfl) (by clear hret hl hS hD hP hK hA hN hts hx hb hr hml hown hlocks hiX1; simp_all [jSB]) hP hD hS
abbrev rm_c_X1_aimAt : Room := { frames := 3, cells := 0, slots := 0, locals := 69 }
set_option maxHeartbeats 1000000 in
set_option maxRecDepth 20000 in
theorem c_X1_aimAt {l : Launch} {D : va_G} {cA : ClassId} {o0 : Nat} {b0 : Nat} {t0 : Nat} {aL : Nat} {aB : Nat} {aS : Nat} {aW : Nat} {aE : Nat} {aY : Nat} {aZ : Nat} {aF : Nat} {qk : Nat} {qs : Nat} {N : Nat} {pt : Int32} {kf : Nat → Int32} {wd : Nat} {tw : Nat} {ts : Nat} {la : Int32} {be : Int32} {ou : Int32} {si : Int32} {en : Int32} {w0 : Int32} {w1 : Int32} {br : Int32} {td : Int32} {lt : Nat → Int32} {bt : Nat → Int32} {st_ : Nat → Int32} {x : Int32} (h5 : N ≤ 5) : zMv l yX1_aimAt wsX1_aimAt rm_c_X1_aimAt D cA [(o0, .inr (1, [.ref b0, .ref t0, .ref aL, .ref aB, .ref aS, .ref aW, .ref aE, .ref aY, .ref aZ, .ref aF])), (b0, .inr (0, [.ref qk, .ref qs, .int (nI N), .int pt])), (qk, .inl (cA, 5, .inl kf)), (t0, .inr (3, [.int la, .int be, .int ou, .int si, .int en, .int w0, .int w1, .int br, .ref wd, .int td, .ref tw, .ref ts])), (aL, .inl (cA, 35, .inl lt)), (aB, .inl (cA, 35, .inl bt)), (aS, .inl (cA, 7, .inl st_))] [.ref o0, .int x] (fun (_ : Unit) => True) (fun (_ : Unit) => [(o0, .inr (1, [.ref b0, .ref t0, .ref aL, .ref aB, .ref aS, .ref aW, .ref aE, .ref aY, .ref aZ, .ref aF])), (b0, .inr (0, [.ref qk, .ref qs, .int (nI N), .int pt])), (qk, .inl (cA, 5, .inl kf)), (t0, .inr (3, [.int la, .int be, .int ou, .int si, .int en, .int w0, .int w1, .int br, .ref wd, .int td, .ref tw, .ref ts])), (aL, .inl (cA, 35, .inl (jLT N kf ou))), (aB, .inl (cA, 35, .inl (jBT N kf ou))), (aS, .inl (cA, 7, .inl (jAim (jLT N kf ou) (jBT N kf ou) x 49)))]) := by
  refine z_enterv (cc := cX1_aimAt) (maxL := 6) (by decide) rfl (Nat.le_of_ble_eq_true rfl) (fun p e s m args below meth c ls A H0 H locs Q hi_ hA hK hP hD hS hl hret => ?_)
  obtain ⟨hx, hb, hr, hml, hown, hts, hlocks, hN⟩ := hi_
  have hl : lv_has ls 6 [(0, .ref o0), (1, .int x)] := hl
  have hiX1 : ∀ w ∈ wsX10, w ∈ wsX1_aimAt := by decide +kernel
  refine lv_aload_n hx hb dX1_aimAt_0 rfl (lv_at hl 0 rfl) ?_
  refine z_bwv (wr := [(aS, .inl (cA, 7, .inl st_))]) (ws' := fun (_ : Unit) => [(o0, .inr (1, [.ref b0, .ref t0, .ref aL, .ref aB, .ref aS, .ref aW, .ref aE, .ref aY, .ref aZ, .ref aF])), (b0, .inr (0, [.ref qk, .ref qs, .int (nI N), .int pt])), (qk, .inl (cA, 5, .inl kf)), (t0, .inr (3, [.int la, .int be, .int ou, .int si, .int en, .int w0, .int w1, .int br, .ref wd, .int td, .ref tw, .ref ts])), (aL, .inl (cA, 35, .inl (jLT N kf ou))), (aB, .inl (cA, 35, .inl (jBT N kf ou))), (aS, .inl (cA, 7, .inl st_))]) (z_runV (As := []) (rest := []) (ci := 1) ⟨hx, hb, hml, hown, hts⟩ (c_X1_tableWords (o0 := o0) (b0 := b0) (t0 := t0) (aL := aL) (aB := aB) (aS := aS) (aW := aW) (aE := aE) (aY := aY) (aZ := aZ) (aF := aF) (qk := qk) (qs := qs) (N := N) (pt := pt) (kf := kf) (wd := wd) (tw := tw) (ts := ts) (la := la) (be := be) (ou := ou) (si := si) (en := en) (w0 := w0) (w1 := w1) (br := br) (td := td) (lt := lt) (bt := bt) (by first | assumption | omega) _) (cwV 0 hts gX1_aimAt_X1_tableWords rfl rfl rfl (by decide +kernel) ⟨Nat.le_of_ble_eq_true rfl, Nat.le_of_ble_eq_true rfl⟩) hK hP hD hN [0, 1, 2, 3, 4, 5] rfl rfl rfl rfl rfl hl.1 rfl (Nat.le_of_ble_eq_true rfl) dX1_aimAt_1 ⟨Nat.zero_le _, Nat.zero_le _⟩) hP hD hS hA [0, 1, 2, 3, 4, 5] [6] [1, 2, 3, 4, 5, 6, 0] rfl rfl rfl (by decide) rfl (fun _ => rfl) (fun u3 H locs hw1 hP hD hS => ?_)
  have hP : va_P D vwCl [(o0, .inr (1, [.ref b0, .ref t0, .ref aL, .ref aB, .ref aS, .ref aW, .ref aE, .ref aY, .ref aZ, .ref aF])), (b0, .inr (0, [.ref qk, .ref qs, .int (nI N), .int pt])), (qk, .inl (cA, 5, .inl kf)), (t0, .inr (3, [.int la, .int be, .int ou, .int si, .int en, .int w0, .int w1, .int br, .ref wd, .int td, .ref tw, .ref ts])), (aL, .inl (cA, 35, .inl (jLT N kf ou))), (aB, .inl (cA, 35, .inl (jBT N kf ou))), (aS, .inl (cA, 7, .inl st_))] H := hP
  have hD : va_D A [(o0, .inr (1, [.ref b0, .ref t0, .ref aL, .ref aB, .ref aS, .ref aW, .ref aE, .ref aY, .ref aZ, .ref aF])), (b0, .inr (0, [.ref qk, .ref qs, .int (nI N), .int pt])), (qk, .inl (cA, 5, .inl kf)), (t0, .inr (3, [.int la, .int be, .int ou, .int si, .int en, .int w0, .int w1, .int br, .ref wd, .int td, .ref tw, .ref ts])), (aL, .inl (cA, 35, .inl (jLT N kf ou))), (aB, .inl (cA, 35, .inl (jBT N kf ou))), (aS, .inl (cA, 7, .inl st_))] := hD
  refine lv_aload_n hx hb dX1_aimAt_4 rfl (lv_at hl 0 rfl) ?_
  refine va_get (D := D) (ci := 1) (v := .ref aS) (C := RX1) (T := TX1) (N := 10) hx hb hts hiX1 hown hK hP 0 rfl rfl 4 (by decide) (hts (.fieldLink RX1 18 "HeardSecond$Outlook" "steps" "[I") (by decide +kernel)) (fun _ h9 => h9) rfl dX1_aimAt_5 ?_
  refine lv_sipush (v := 1000) hx hb dX1_aimAt_8 (by decide) ?_
  refine z_bwv (wr := [(o0, .inr (1, [.ref b0, .ref t0, .ref aL, .ref aB, .ref aS, .ref aW, .ref aE, .ref aY, .ref aZ, .ref aF])), (b0, .inr (0, [.ref qk, .ref qs, .int (nI N), .int pt])), (qk, .inl (cA, 5, .inl kf)), (t0, .inr (3, [.int la, .int be, .int ou, .int si, .int en, .int w0, .int w1, .int br, .ref wd, .int td, .ref tw, .ref ts])), (aL, .inl (cA, 35, .inl (jLT N kf ou))), (aB, .inl (cA, 35, .inl (jBT N kf ou)))]) (ws' := fun (_ : Unit) => [(o0, .inr (1, [.ref b0, .ref t0, .ref aL, .ref aB, .ref aS, .ref aW, .ref aE, .ref aY, .ref aZ, .ref aF])), (b0, .inr (0, [.ref qk, .ref qs, .int (nI N), .int pt])), (qk, .inl (cA, 5, .inl kf)), (t0, .inr (3, [.int la, .int be, .int ou, .int si, .int en, .int w0, .int w1, .int br, .ref wd, .int td, .ref tw, .ref ts])), (aL, .inl (cA, 35, .inl (jLT N kf ou))), (aB, .inl (cA, 35, .inl (jBT N kf ou))), (aS, .inl (cA, 7, .inl (fun _ => 1000)))]) (z_runSN (As := [.ref aS, .int 1000]) (rest := []) ⟨hx, hb, hml, hown, hts⟩ (c_X4_fill (n := 7) (q := aS) (f := st_) (x := 1000) (by first | assumption | omega) _) (va_cnB (own := RX1) (host := "HeardSecond") (index := 74) 2 hts ggX1_aimAt_X4_fill rfl rfl rfl (hN.get 27 rfl) (hts (.initialized RX4) (by decide +kernel)) (by decide +kernel) ⟨Nat.le_of_ble_eq_true rfl, Nat.le_of_ble_eq_true rfl⟩) (hts (.static yX4_fill) (by decide +kernel)) hK hP hD hN [6] rfl rfl rfl hl.1 rfl (Nat.le_of_ble_eq_true rfl) dX1_aimAt_11 ⟨Nat.zero_le _, Nat.zero_le _⟩) hP hD hS hA [6] [0, 1, 2, 3, 4, 5] [0, 1, 2, 3, 4, 5, 6] rfl rfl rfl (by decide) rfl (fun _ => rfl) (fun u6 H locs hw4 hP hD hS => ?_)
  have hP : va_P D vwCl [(o0, .inr (1, [.ref b0, .ref t0, .ref aL, .ref aB, .ref aS, .ref aW, .ref aE, .ref aY, .ref aZ, .ref aF])), (b0, .inr (0, [.ref qk, .ref qs, .int (nI N), .int pt])), (qk, .inl (cA, 5, .inl kf)), (t0, .inr (3, [.int la, .int be, .int ou, .int si, .int en, .int w0, .int w1, .int br, .ref wd, .int td, .ref tw, .ref ts])), (aL, .inl (cA, 35, .inl (jLT N kf ou))), (aB, .inl (cA, 35, .inl (jBT N kf ou))), (aS, .inl (cA, 7, .inl (fun _ => 1000)))] H := hP
  have hD : va_D A [(o0, .inr (1, [.ref b0, .ref t0, .ref aL, .ref aB, .ref aS, .ref aW, .ref aE, .ref aY, .ref aZ, .ref aF])), (b0, .inr (0, [.ref qk, .ref qs, .int (nI N), .int pt])), (qk, .inl (cA, 5, .inl kf)), (t0, .inr (3, [.int la, .int be, .int ou, .int si, .int en, .int w0, .int w1, .int br, .ref wd, .int td, .ref tw, .ref ts])), (aL, .inl (cA, 35, .inl (jLT N kf ou))), (aB, .inl (cA, 35, .inl (jBT N kf ou))), (aS, .inl (cA, 7, .inl (fun _ => 1000)))] := hD
  refine lv_iconst (v := nI 0) hx hb dX1_aimAt_14 (by decide) ?_
  refine lv_istore_n (lv' := [(2, .int (nI 0)), (0, .ref o0), (1, .int x)]) hx hb dX1_aimAt_15 rfl hl (by decide) rfl (fun ls hl => ?_)
  have L16 : ∀ (n_ : Nat) (i : Nat) (g : Nat → Int32) (hm_ : 8 ≤ i + n_) (hi : i ≤ 7) (hg : g = jAim (jLT N kf ou) (jBT N kf ou) x (7 * i)) (H : Heap) (locs : List Loc) (ls : Array Slot), va_P D vwCl [(o0, .inr (1, [.ref b0, .ref t0, .ref aL, .ref aB, .ref aS, .ref aW, .ref aE, .ref aY, .ref aZ, .ref aF])), (b0, .inr (0, [.ref qk, .ref qs, .int (nI N), .int pt])), (qk, .inl (cA, 5, .inl kf)), (t0, .inr (3, [.int la, .int be, .int ou, .int si, .int en, .int w0, .int w1, .int br, .ref wd, .int td, .ref tw, .ref ts])), (aL, .inl (cA, 35, .inl (jLT N kf ou))), (aB, .inl (cA, 35, .inl (jBT N kf ou))), (aS, .inl (cA, 7, .inl g))] H → va_D A [(o0, .inr (1, [.ref b0, .ref t0, .ref aL, .ref aB, .ref aS, .ref aW, .ref aE, .ref aY, .ref aZ, .ref aF])), (b0, .inr (0, [.ref qk, .ref qs, .int (nI N), .int pt])), (qk, .inl (cA, 5, .inl kf)), (t0, .inr (3, [.int la, .int be, .int ou, .int si, .int en, .int w0, .int w1, .int br, .ref wd, .int td, .ref tw, .ref ts])), (aL, .inl (cA, 35, .inl (jLT N kf ou))), (aB, .inl (cA, 35, .inl (jBT N kf ou))), (aS, .inl (cA, 7, .inl g))] → va_S A H0 H locs → lv_has ls 6 [(0, .ref o0), (1, .int x), (2, .int (nI i))] → W p l e rm_c_X1_aimAt s m args below meth c H locs 0 0 Q (F0 m 16 ls []) := by
    intro n_
    induction n_ with
    | zero =>
      intro i g hm_ hi hg
      exact absurd hm_ (by omega)
    | succ n_ ih_ =>
      intro i g hm_ hi hg H locs ls hP hD hS hl
      have ih7 := ih_
      clear ih_
      refine lv_iload_n hx hb dX1_aimAt_16 rfl (lv_at hl 2 rfl) ?_
      refine lv_bipush (v := 7) hx hb dX1_aimAt_17 (by decide) ?_
      refine lv_icmp_ge (tgt := 88) hx hb dX1_aimAt_19 (by decide) (fun c19_8 => ?_) (fun c19_8 => ?_)
      · skip
        have ht_ : i = 7 := by have := (nI_leI (a := 7) (b := i) (by omega) (by omega)).mp c19_8; omega
        -- path 1
        have hP : va_P D vwCl [(o0, .inr (1, [.ref b0, .ref t0, .ref aL, .ref aB, .ref aS, .ref aW, .ref aE, .ref aY, .ref aZ, .ref aF])), (b0, .inr (0, [.ref qk, .ref qs, .int (nI N), .int pt])), (qk, .inl (cA, 5, .inl kf)), (t0, .inr (3, [.int la, .int be, .int ou, .int si, .int en, .int w0, .int w1, .int br, .ref wd, .int td, .ref tw, .ref ts])), (aL, .inl (cA, 35, .inl (jLT N kf ou))), (aB, .inl (cA, 35, .inl (jBT N kf ou))), (aS, .inl (cA, 7, .inl (jAim (jLT N kf ou) (jBT N kf ou) x 49)))] H := z_arrP hP 6 (g := (jAim (jLT N kf ou) (jBT N kf ou) x 49)) rfl (by clear hret hl hS hD hP hK hA hN hts hx hb hr hml hown hlocks hiX1 ih7; intro p hp; rw [hg, ht_]) rfl
        have hD : va_D A [(o0, .inr (1, [.ref b0, .ref t0, .ref aL, .ref aB, .ref aS, .ref aW, .ref aE, .ref aY, .ref aZ, .ref aF])), (b0, .inr (0, [.ref qk, .ref qs, .int (nI N), .int pt])), (qk, .inl (cA, 5, .inl kf)), (t0, .inr (3, [.int la, .int be, .int ou, .int si, .int en, .int w0, .int w1, .int br, .ref wd, .int td, .ref tw, .ref ts])), (aL, .inl (cA, 35, .inl (jLT N kf ou))), (aB, .inl (cA, 35, .inl (jBT N kf ou))), (aS, .inl (cA, 7, .inl (jAim (jLT N kf ou) (jBT N kf ou) x 49)))] := z_arrD hD 6 rfl rfl
        exact hret () _ _ _ _ dX1_aimAt_88 (by trivial) hP hD hS
      · skip
        have hlti : i < 7 := Nat.lt_of_not_le (fun q_ => c19_8 ((nI_leI (a := 7) (b := i) (by omega) (by omega)).mpr q_))
        refine lv_iconst (v := pI 0) hx hb dX1_aimAt_22 (by decide) ?_
        refine lv_istore_n (lv' := [(3, .int (pI 0)), (0, .ref o0), (1, .int x), (2, .int (nI i))]) hx hb dX1_aimAt_23 rfl hl (by decide) rfl (fun ls hl => ?_)
        have L24 : ∀ (n_ : Nat) (L : Nat) (k : Nat → Int32) (hm_ : 8 ≤ L + n_) (hL : L ≤ 7) (hk : k = jAim (jLT N kf ou) (jBT N kf ou) x (7 * i + L)) (H : Heap) (locs : List Loc) (ls : Array Slot), va_P D vwCl [(o0, .inr (1, [.ref b0, .ref t0, .ref aL, .ref aB, .ref aS, .ref aW, .ref aE, .ref aY, .ref aZ, .ref aF])), (b0, .inr (0, [.ref qk, .ref qs, .int (nI N), .int pt])), (qk, .inl (cA, 5, .inl kf)), (t0, .inr (3, [.int la, .int be, .int ou, .int si, .int en, .int w0, .int w1, .int br, .ref wd, .int td, .ref tw, .ref ts])), (aL, .inl (cA, 35, .inl (jLT N kf ou))), (aB, .inl (cA, 35, .inl (jBT N kf ou))), (aS, .inl (cA, 7, .inl k))] H → va_D A [(o0, .inr (1, [.ref b0, .ref t0, .ref aL, .ref aB, .ref aS, .ref aW, .ref aE, .ref aY, .ref aZ, .ref aF])), (b0, .inr (0, [.ref qk, .ref qs, .int (nI N), .int pt])), (qk, .inl (cA, 5, .inl kf)), (t0, .inr (3, [.int la, .int be, .int ou, .int si, .int en, .int w0, .int w1, .int br, .ref wd, .int td, .ref tw, .ref ts])), (aL, .inl (cA, 35, .inl (jLT N kf ou))), (aB, .inl (cA, 35, .inl (jBT N kf ou))), (aS, .inl (cA, 7, .inl k))] → va_S A H0 H locs → lv_has ls 6 [(0, .ref o0), (1, .int x), (2, .int (nI i)), (3, .int (pI L))] → W p l e rm_c_X1_aimAt s m args below meth c H locs 0 0 Q (F0 m 24 ls []) := by
          intro n_
          induction n_ with
          | zero =>
            intro L k hm_ hL hk
            exact absurd hm_ (by omega)
          | succ n_ ih_ =>
            intro L k hm_ hL hk H locs ls hP hD hS hl
            have ih9 := ih_
            clear ih_
            refine lv_iload_n hx hb dX1_aimAt_24 rfl (lv_at hl 3 rfl) ?_
            refine lv_iconst (v := 5) hx hb dX1_aimAt_25 (by decide) ?_
            refine lv_icmp_gt (tgt := 82) hx hb dX1_aimAt_26 (by decide) (fun c26_10 => ?_) (fun c26_10 => ?_)
            · skip
              have ht_ : L = 7 := by have := (pI_7 L (by omega)).mp c26_10; omega
              refine lv_iinc (v := nI (i + 1)) (lv' := [(2, .int (nI (i + 1))), (0, .ref o0), (1, .int x), (3, .int (pI L))]) hx hb dX1_aimAt_82 hl (k := 2) rfl (nI_1 i) (by decide) rfl (fun ls hl => ?_)
              refine lv_goto (tgt := 16) hx hb dX1_aimAt_85 (by decide) ?_
              exact ih7 (i + 1) k (by omega) (by first | assumption | omega) (by clear hret hl hS hD hP hK hA hN hts hx hb hr hml hown hlocks hiX1 ih7 ih9; rw [hk, ht_, show 7 * (i + 1) = 7 * i + 7 from by omega]) _ _ _ hP hD hS (lv_sub hl [1, 2, 0] rfl)
            · skip
              have hltL : L < 7 := Nat.lt_of_not_le (fun q_ => c26_10 ((pI_7 L (by omega)).mpr q_))
              refine lv_sipush (v := 1000) hx hb dX1_aimAt_29 (by decide) ?_
              refine lv_istore (lv' := [(4, .int 1000), (0, .ref o0), (1, .int x), (2, .int (nI i)), (3, .int (pI L))]) hx hb dX1_aimAt_32 hl (by decide) rfl (fun ls hl => ?_)
              refine lv_iconst (v := nI 0) hx hb dX1_aimAt_34 (by decide) ?_
              refine lv_istore (lv' := [(5, .int (nI 0)), (4, .int 1000), (0, .ref o0), (1, .int x), (2, .int (nI i)), (3, .int (pI L))]) hx hb dX1_aimAt_35 hl (by decide) rfl (fun ls hl => ?_)
              have L37 : ∀ (n_ : Nat) (sx : Nat) (v : Int32) (hm_ : 6 ≤ sx + n_) (hs : sx ≤ 5) (hv : v = jRow (jLT N kf ou) (jBT N kf ou) k L x sx) (H : Heap) (locs : List Loc) (ls : Array Slot), va_P D vwCl [(o0, .inr (1, [.ref b0, .ref t0, .ref aL, .ref aB, .ref aS, .ref aW, .ref aE, .ref aY, .ref aZ, .ref aF])), (b0, .inr (0, [.ref qk, .ref qs, .int (nI N), .int pt])), (qk, .inl (cA, 5, .inl kf)), (t0, .inr (3, [.int la, .int be, .int ou, .int si, .int en, .int w0, .int w1, .int br, .ref wd, .int td, .ref tw, .ref ts])), (aL, .inl (cA, 35, .inl (jLT N kf ou))), (aB, .inl (cA, 35, .inl (jBT N kf ou))), (aS, .inl (cA, 7, .inl k))] H → va_D A [(o0, .inr (1, [.ref b0, .ref t0, .ref aL, .ref aB, .ref aS, .ref aW, .ref aE, .ref aY, .ref aZ, .ref aF])), (b0, .inr (0, [.ref qk, .ref qs, .int (nI N), .int pt])), (qk, .inl (cA, 5, .inl kf)), (t0, .inr (3, [.int la, .int be, .int ou, .int si, .int en, .int w0, .int w1, .int br, .ref wd, .int td, .ref tw, .ref ts])), (aL, .inl (cA, 35, .inl (jLT N kf ou))), (aB, .inl (cA, 35, .inl (jBT N kf ou))), (aS, .inl (cA, 7, .inl k))] → va_S A H0 H locs → lv_has ls 6 [(0, .ref o0), (1, .int x), (2, .int (nI i)), (3, .int (pI L)), (4, .int v), (5, .int (nI sx))] → W p l e rm_c_X1_aimAt s m args below meth c H locs 0 0 Q (F0 m 37 ls []) := by
                intro n_
                induction n_ with
                | zero =>
                  intro sx v hm_ hs hv
                  exact absurd hm_ (by omega)
                | succ n_ ih_ =>
                  intro sx v hm_ hs hv H locs ls hP hD hS hl
                  have ih11 := ih_
                  clear ih_
                  refine lv_iload hx hb dX1_aimAt_37 (lv_at hl 5 rfl) ?_
                  refine lv_iconst (v := 5) hx hb dX1_aimAt_39 (by decide) ?_
                  refine lv_icmp_ge (tgt := 64) hx hb dX1_aimAt_40 (by decide) (fun c40_12 => ?_) (fun c40_12 => ?_)
                  · skip
                    have ht_ : sx = 5 := by have := (nI_leI (a := 5) (b := sx) (by omega) (by omega)).mp c40_12; omega
                    refine lv_aload_n hx hb dX1_aimAt_64 rfl (lv_at hl 0 rfl) ?_
                    refine va_get (D := D) (ci := 1) (v := .ref aS) (C := RX1) (T := TX1) (N := 10) hx hb hts hiX1 hown hK hP 0 rfl rfl 4 (by decide) (hts (.fieldLink RX1 18 "HeardSecond$Outlook" "steps" "[I") (by decide +kernel)) (fun _ h9 => h9) rfl dX1_aimAt_65 ?_
                    refine lv_iload_n hx hb dX1_aimAt_68 rfl (lv_at hl 3 rfl) ?_
                    refine lv_iconst (v := 1) hx hb dX1_aimAt_69 (by decide) ?_
                    refine lv_iadd hx hb dX1_aimAt_70 ?_
                    refine z_top (y := nI L) (pI_s L) ?_
                    refine lv_iload hx hb dX1_aimAt_71 (lv_at hl 4 rfl) ?_
                    refine z_bwv (wr := [(o0, .inr (1, [.ref b0, .ref t0, .ref aL, .ref aB, .ref aS, .ref aW, .ref aE, .ref aY, .ref aZ, .ref aF])), (b0, .inr (0, [.ref qk, .ref qs, .int (nI N), .int pt])), (qk, .inl (cA, 5, .inl kf)), (t0, .inr (3, [.int la, .int be, .int ou, .int si, .int en, .int w0, .int w1, .int br, .ref wd, .int td, .ref tw, .ref ts])), (aL, .inl (cA, 35, .inl (jLT N kf ou))), (aB, .inl (cA, 35, .inl (jBT N kf ou)))]) (ws' := fun (_ : Unit) => [(o0, .inr (1, [.ref b0, .ref t0, .ref aL, .ref aB, .ref aS, .ref aW, .ref aE, .ref aY, .ref aZ, .ref aF])), (b0, .inr (0, [.ref qk, .ref qs, .int (nI N), .int pt])), (qk, .inl (cA, 5, .inl kf)), (t0, .inr (3, [.int la, .int be, .int ou, .int si, .int en, .int w0, .int w1, .int br, .ref wd, .int td, .ref tw, .ref ts])), (aL, .inl (cA, 35, .inl (jLT N kf ou))), (aB, .inl (cA, 35, .inl (jBT N kf ou))), (aS, .inl (cA, 7, .inl (jPut 7 k (nI L) v)))]) (z_runSN (As := [.ref aS, .int (nI L), .int v]) (rest := []) ⟨hx, hb, hml, hown, hts⟩ (c_X4_put (n := 7) (q := aS) (f := k) (x := nI L) (v := v) (by first | assumption | omega) _) (va_cnB (own := RX1) (host := "HeardSecond") (index := 64) 3 hts ggX1_aimAt_X4_put rfl rfl rfl (hN.get 26 rfl) (hts (.initialized RX4) (by decide +kernel)) (by decide +kernel) ⟨Nat.le_of_ble_eq_true rfl, Nat.le_of_ble_eq_true rfl⟩) (hts (.static yX4_put) (by decide +kernel)) hK hP hD hN [6] rfl rfl rfl hl.1 rfl (Nat.le_of_ble_eq_true rfl) dX1_aimAt_73 ⟨Nat.zero_le _, Nat.zero_le _⟩) hP hD hS hA [6] [0, 1, 2, 3, 4, 5] [0, 1, 2, 3, 4, 5, 6] rfl rfl rfl (by decide) rfl (fun _ => rfl) (fun u15 H locs hw13 hP hD hS => ?_)
                    have hP : va_P D vwCl [(o0, .inr (1, [.ref b0, .ref t0, .ref aL, .ref aB, .ref aS, .ref aW, .ref aE, .ref aY, .ref aZ, .ref aF])), (b0, .inr (0, [.ref qk, .ref qs, .int (nI N), .int pt])), (qk, .inl (cA, 5, .inl kf)), (t0, .inr (3, [.int la, .int be, .int ou, .int si, .int en, .int w0, .int w1, .int br, .ref wd, .int td, .ref tw, .ref ts])), (aL, .inl (cA, 35, .inl (jLT N kf ou))), (aB, .inl (cA, 35, .inl (jBT N kf ou))), (aS, .inl (cA, 7, .inl (jPut 7 k (nI L) v)))] H := hP
                    have hD : va_D A [(o0, .inr (1, [.ref b0, .ref t0, .ref aL, .ref aB, .ref aS, .ref aW, .ref aE, .ref aY, .ref aZ, .ref aF])), (b0, .inr (0, [.ref qk, .ref qs, .int (nI N), .int pt])), (qk, .inl (cA, 5, .inl kf)), (t0, .inr (3, [.int la, .int be, .int ou, .int si, .int en, .int w0, .int w1, .int br, .ref wd, .int td, .ref tw, .ref ts])), (aL, .inl (cA, 35, .inl (jLT N kf ou))), (aB, .inl (cA, 35, .inl (jBT N kf ou))), (aS, .inl (cA, 7, .inl (jPut 7 k (nI L) v)))] := hD
                    refine lv_iinc (v := pI (L + 1)) (lv' := [(3, .int (pI (L + 1))), (0, .ref o0), (1, .int x), (2, .int (nI i)), (4, .int v), (5, .int (nI sx))]) hx hb dX1_aimAt_76 hl (k := 3) rfl (pI_1 L) (by decide) rfl (fun ls hl => ?_)
                    refine lv_goto (tgt := 24) hx hb dX1_aimAt_79 (by decide) ?_
                    exact ih9 (L + 1) (jPut 7 k (nI L) v) (by omega) (by first | assumption | omega) (by clear hret hl hS hD hP hK hA hN hts hx hb hr hml hown hlocks hiX1 ih7 ih9 ih11; rw [show 7 * i + (L + 1) = (7 * i + L) + 1 from by omega, jAim, ← hk, show (7 * i + L) % 7 = L from by omega, jPut_nI (by omega) (by decide)]; simp_all) _ _ _ hP hD hS (lv_sub hl [1, 2, 3, 0] rfl)
                  · skip
                    have hltsx : sx < 5 := Nat.lt_of_not_le (fun q_ => c40_12 ((nI_leI (a := 5) (b := sx) (by omega) (by omega)).mpr q_))
                    refine lv_iload hx hb dX1_aimAt_43 (lv_at hl 4 rfl) ?_
                    refine lv_aload_n hx hb dX1_aimAt_45 rfl (lv_at hl 0 rfl) ?_
                    refine lv_iload hx hb dX1_aimAt_46 (lv_at hl 5 rfl) ?_
                    refine lv_iload_n hx hb dX1_aimAt_48 rfl (lv_at hl 3 rfl) ?_
                    refine lv_iload_n hx hb dX1_aimAt_49 rfl (lv_at hl 1 rfl) ?_
                    refine z_bri (z_runV (As := [.int (nI sx), .int (pI L), .int x]) (rest := [.int v]) (ci := 1) ⟨hx, hb, hml, hown, hts⟩ (c_X1_stepsBy (o0 := o0) (b0 := b0) (t0 := t0) (aL := aL) (aB := aB) (aS := aS) (aW := aW) (aE := aE) (aY := aY) (aZ := aZ) (aF := aF) (lt := jLT N kf ou) (bt := jBT N kf ou) (st_ := k) (sx := sx) (L := L) (x := x) (by first | assumption | omega) (by first | assumption | omega) _) (cwV 3 hts gX1_aimAt_X1_stepsBy rfl rfl rfl (by decide +kernel) ⟨Nat.le_of_ble_eq_true rfl, Nat.le_of_ble_eq_true rfl⟩) hK hP hD hN [0, 4, 5, 6] rfl rfl rfl rfl rfl hl.1 rfl (Nat.le_of_ble_eq_true rfl) dX1_aimAt_50 ⟨Nat.zero_le _, Nat.zero_le _⟩) hP hD hS hA [0, 4, 5, 6] rfl (fun r17 u18 H locs hw16 hP hS => ?_)
                    obtain rfl : r17 = jSB (jLT N kf ou) (jBT N kf ou) k sx L x := hw16
                    refine va_mmin (x := v) (y := jSB (jLT N kf ou) (jBT N kf ou) k sx L x) hx hb (hml.trans hl.1.symm) hown (hts (.methodLink RX1 82 Lib.Math.min.name) (by decide +kernel)) (hts (.static Lib.Math.min.name) (by decide +kernel)) (hts (.initialized "java/lang/Math") (by decide +kernel)) (hts (.code Lib.Math.min.name Lib.Math.min.code 2 (some .int)) (List.mem_of_getElem? (i := 5) (by decide +kernel))) (Nat.le_of_ble_eq_true rfl) (Nat.le_of_ble_eq_true rfl) (Nat.zero_le _) (Nat.zero_le _) dX1_aimAt_53 ?_
                    refine z_top (y := jMin v (jSB (jLT N kf ou) (jBT N kf ou) k sx L x)) rfl ?_
                    refine lv_istore (lv' := [(4, .int (jMin v (jSB (jLT N kf ou) (jBT N kf ou) k sx L x))), (0, .ref o0), (1, .int x), (2, .int (nI i)), (3, .int (pI L)), (5, .int (nI sx))]) hx hb dX1_aimAt_56 hl (by decide) rfl (fun ls hl => ?_)
                    refine lv_iinc (v := nI (sx + 1)) (lv' := [(5, .int (nI (sx + 1))), (4, .int (jMin v (jSB (jLT N kf ou) (jBT N kf ou) k sx L x))), (0, .ref o0), (1, .int x), (2, .int (nI i)), (3, .int (pI L))]) hx hb dX1_aimAt_58 hl (k := 5) rfl (nI_1 sx) (by decide) rfl (fun ls hl => ?_)
                    refine lv_goto (tgt := 37) hx hb dX1_aimAt_61 (by decide) ?_
                    exact ih11 (sx + 1) (jMin v (jSB (jLT N kf ou) (jBT N kf ou) k sx L x)) (by omega) (by first | assumption | omega) (by clear hret hl hS hD hP hK hA hN hts hx hb hr hml hown hlocks hiX1 ih7 ih9 ih11; rw [jRow, ← hv]) _ _ _ hP hD hS (lv_sub hl [2, 3, 4, 5, 1, 0] rfl)
              exact L37 6 0 1000 (by omega) (by first | assumption | omega) (by rfl) _ _ _ hP hD hS (lv_sub hl [2, 3, 4, 5, 1, 0] rfl)
        exact L24 8 0 g (by omega) (by first | assumption | omega) (by clear hret hl hS hD hP hK hA hN hts hx hb hr hml hown hlocks hiX1 ih7 L24; exact hg) _ _ _ hP hD hS (lv_sub hl [1, 2, 3, 0] rfl)
  exact L16 8 0 (fun _ => 1000) (by omega) (by first | assumption | omega) (by rfl) _ _ _ hP hD hS (lv_sub hl [1, 2, 0] rfl)
abbrev rm_c_X1_fewestWords : Room := { frames := 1, cells := 0, slots := 0, locals := 21 }
set_option maxHeartbeats 400000 in
set_option maxRecDepth 20000 in
theorem c_X1_fewestWords {l : Launch} {D : va_G} {cA : ClassId} {o0 : Nat} {b0 : Nat} {t0 : Nat} {aL : Nat} {aB : Nat} {aS : Nat} {aW : Nat} {aE : Nat} {aY : Nat} {aZ : Nat} {aF : Nat} {wd : Nat} {tw : Nat} {ts : Nat} {la : Int32} {be : Int32} {ou : Int32} {si : Int32} {en : Int32} {w0 : Int32} {w1 : Int32} {br : Int32} {td : Int32} {st_ : Nat → Int32} {x : Int32} : zMi l yX1_fewestWords wsX1_fewestWords rm_c_X1_fewestWords D cA [(o0, .inr (1, [.ref b0, .ref t0, .ref aL, .ref aB, .ref aS, .ref aW, .ref aE, .ref aY, .ref aZ, .ref aF])), (t0, .inr (3, [.int la, .int be, .int ou, .int si, .int en, .int w0, .int w1, .int br, .ref wd, .int td, .ref tw, .ref ts])), (aS, .inl (cA, 7, .inl st_))] [.ref o0, .int x] (fun (r : Int32) (_ : Unit) => r = jFew st_ la be x) (fun (_ : Unit) => [(o0, .inr (1, [.ref b0, .ref t0, .ref aL, .ref aB, .ref aS, .ref aW, .ref aE, .ref aY, .ref aZ, .ref aF])), (t0, .inr (3, [.int la, .int be, .int ou, .int si, .int en, .int w0, .int w1, .int br, .ref wd, .int td, .ref tw, .ref ts])), (aS, .inl (cA, 7, .inl st_))]) := by
  refine z_enteri (cc := cX1_fewestWords) (maxL := 3) (ty := .int) (by decide) rfl (Nat.le_of_ble_eq_true rfl) (fun p e s m args below meth c ls A H0 H locs Q hi_ hA hK hP hD hS hl hret => ?_)
  obtain ⟨hx, hb, hr, hml, hown, hts, hlocks, hN⟩ := hi_
  have hl : lv_has ls 3 [(0, .ref o0), (1, .int x)] := hl
  have hiX1 : ∀ w ∈ wsX10, w ∈ wsX1_fewestWords := by decide +kernel
  have hiX3 : ∀ w ∈ wsX30, w ∈ wsX1_fewestWords := by decide +kernel
  refine lv_aload_n hx hb dX1_fewestWords_0 rfl (lv_at hl 0 rfl) ?_
  refine va_get (D := D) (ci := 1) (v := .ref t0) (C := RX1) (T := TX1) (N := 10) hx hb hts hiX1 hown hK hP 0 rfl rfl 1 (by decide) (hts (.fieldLink RX1 40 "HeardSecond$Outlook" "now" "LHeardSecond$Trial;") (by decide +kernel)) (fun _ h9 => h9) rfl dX1_fewestWords_1 ?_
  refine va_getN (D := D) (ci := 3) (v := .int be) (C := RX3) (T := TX3) (N := 12) hx hb hts hiX3 hown hK hP 1 rfl rfl 1 (by decide) (hN.getb 7 rfl) (fun _ h9 => h9) rfl dX1_fewestWords_4 ?_
  refine lv_iload_n hx hb dX1_fewestWords_7 rfl (lv_at hl 1 rfl) ?_
  refine lv_icmp_ne (tgt := 13) hx hb dX1_fewestWords_8 (by decide) (fun c8_1 => ?_) (fun c8_1 => ?_)
  · skip
    refine lv_aload_n hx hb dX1_fewestWords_13 rfl (lv_at hl 0 rfl) ?_
    refine va_get (D := D) (ci := 1) (v := .ref aS) (C := RX1) (T := TX1) (N := 10) hx hb hts hiX1 hown hK hP 0 rfl rfl 4 (by decide) (hts (.fieldLink RX1 18 "HeardSecond$Outlook" "steps" "[I") (by decide +kernel)) (fun _ h9 => h9) rfl dX1_fewestWords_14 ?_
    refine lv_aload_n hx hb dX1_fewestWords_17 rfl (lv_at hl 0 rfl) ?_
    refine va_get (D := D) (ci := 1) (v := .ref t0) (C := RX1) (T := TX1) (N := 10) hx hb hts hiX1 hown hK hP 0 rfl rfl 1 (by decide) (hts (.fieldLink RX1 40 "HeardSecond$Outlook" "now" "LHeardSecond$Trial;") (by decide +kernel)) (fun _ h9 => h9) rfl dX1_fewestWords_18 ?_
    refine va_getN (D := D) (ci := 3) (v := .int la) (C := RX3) (T := TX3) (N := 12) hx hb hts hiX3 hown hK hP 1 rfl rfl 0 (by decide) (hN.getb 5 rfl) (fun _ h9 => h9) rfl dX1_fewestWords_21 ?_
    refine lv_iconst (v := 1) hx hb dX1_fewestWords_24 (by decide) ?_
    refine lv_iadd hx hb dX1_fewestWords_25 ?_
    refine z_bri (z_runSN (As := [.ref aS, .int (la + 1)]) (rest := []) ⟨hx, hb, hml, hown, hts⟩ (c_X4_at (n := 7) (q := aS) (f := st_) (x := la + 1) (by first | assumption | omega) _) (va_cnB (own := RX1) (host := "HeardSecond") (index := 93) 2 hts ggX1_fewestWords_X4_at rfl rfl rfl (hN.get 28 rfl) (hts (.initialized RX4) (by decide +kernel)) (by decide +kernel) ⟨Nat.le_of_ble_eq_true rfl, Nat.le_of_ble_eq_true rfl⟩) (hts (.static yX4_at) (by decide +kernel)) hK hP hD hN [2] rfl rfl rfl hl.1 rfl (Nat.le_of_ble_eq_true rfl) dX1_fewestWords_26 ⟨Nat.zero_le _, Nat.zero_le _⟩) hP hD hS hA [2] rfl (fun r3 u4 H locs hw2 hP hS => ?_)
    obtain rfl : r3 = jAt 7 st_ (la + 1) := hw2
    refine lv_istore_n (lv' := [(2, .int (jAt 7 st_ (la + 1))), (0, .ref o0), (1, .int x)]) hx hb dX1_fewestWords_29 rfl hl (by decide) rfl (fun ls hl => ?_)
    refine lv_iload_n hx hb dX1_fewestWords_30 rfl (lv_at hl 0 rfl) ?_
    refine lv_sipush (v := 1000) hx hb dX1_fewestWords_31 (by decide) ?_
    refine lv_icmp_ge (tgt := 41) hx hb dX1_fewestWords_34 (by decide) (fun c34_5 => ?_) (fun c34_5 => ?_)
    · skip
      refine lv_iconst (v := (-1)) hx hb dX1_fewestWords_41 (by decide) ?_
      -- path 1
      exact hret ((-1)) () _ _ _ _ dX1_fewestWords_42 (rfl) (by clear hret hl hS hD hP hK hA hN hts hx hb hr hml hown hlocks hiX1 hiX3; grind [jFew]) hP hD hS
    · skip
      refine lv_iload_n hx hb dX1_fewestWords_37 rfl (lv_at hl 0 rfl) ?_
      refine lv_goto (tgt := 42) hx hb dX1_fewestWords_38 (by decide) ?_
      -- path 2
      exact hret (jAt 7 st_ (la + 1)) () _ _ _ _ dX1_fewestWords_42 (rfl) (by clear hret hl hS hD hP hK hA hN hts hx hb hr hml hown hlocks hiX1 hiX3; grind [jFew]) hP hD hS
  · skip
    refine lv_iconst (v := 0) hx hb dX1_fewestWords_11 (by decide) ?_
    -- path 3
    exact hret (0) () _ _ _ _ dX1_fewestWords_12 (rfl) (by clear hret hl hS hD hP hK hA hN hts hx hb hr hml hown hlocks hiX1 hiX3; grind [jFew]) hP hD hS
abbrev rm_c_X1_firstSpeaker : Room := { frames := 2, cells := 0, slots := 0, locals := 45 }
set_option maxHeartbeats 400000 in
set_option maxRecDepth 20000 in
theorem c_X1_firstSpeaker {l : Launch} {D : va_G} {cA : ClassId} {o0 : Nat} {b0 : Nat} {t0 : Nat} {aL : Nat} {aB : Nat} {aS : Nat} {aW : Nat} {aE : Nat} {aY : Nat} {aZ : Nat} {aF : Nat} {wd : Nat} {tw : Nat} {ts : Nat} {L : Nat} {be : Int32} {ou : Int32} {si : Int32} {en : Int32} {w0 : Int32} {w1 : Int32} {br : Int32} {td : Int32} {lt : Nat → Int32} {bt : Nat → Int32} {st_ : Nat → Int32} {x : Int32} (hL : L < 7) : zMi l yX1_firstSpeaker wsX1_firstSpeaker rm_c_X1_firstSpeaker D cA [(o0, .inr (1, [.ref b0, .ref t0, .ref aL, .ref aB, .ref aS, .ref aW, .ref aE, .ref aY, .ref aZ, .ref aF])), (t0, .inr (3, [.int (pI L), .int be, .int ou, .int si, .int en, .int w0, .int w1, .int br, .ref wd, .int td, .ref tw, .ref ts])), (aL, .inl (cA, 35, .inl lt)), (aB, .inl (cA, 35, .inl bt)), (aS, .inl (cA, 7, .inl st_))] [.ref o0, .int x] (fun (r : Int32) (_ : Unit) => r = jFind (fun sx => decide (jSB lt bt st_ sx L x = jFew st_ (pI L) be x)) 5 0) (fun (_ : Unit) => [(o0, .inr (1, [.ref b0, .ref t0, .ref aL, .ref aB, .ref aS, .ref aW, .ref aE, .ref aY, .ref aZ, .ref aF])), (t0, .inr (3, [.int (pI L), .int be, .int ou, .int si, .int en, .int w0, .int w1, .int br, .ref wd, .int td, .ref tw, .ref ts])), (aL, .inl (cA, 35, .inl lt)), (aB, .inl (cA, 35, .inl bt)), (aS, .inl (cA, 7, .inl st_))]) := by
  refine z_enteri (cc := cX1_firstSpeaker) (maxL := 4) (ty := .int) (by decide) rfl (Nat.le_of_ble_eq_true rfl) (fun p e s m args below meth c ls A H0 H locs Q hi_ hA hK hP hD hS hl hret => ?_)
  obtain ⟨hx, hb, hr, hml, hown, hts, hlocks, hN⟩ := hi_
  have hl : lv_has ls 4 [(0, .ref o0), (1, .int x)] := hl
  have hiX1 : ∀ w ∈ wsX10, w ∈ wsX1_firstSpeaker := by decide +kernel
  have hiX3 : ∀ w ∈ wsX30, w ∈ wsX1_firstSpeaker := by decide +kernel
  refine lv_aload_n hx hb dX1_firstSpeaker_0 rfl (lv_at hl 0 rfl) ?_
  refine lv_iload_n hx hb dX1_firstSpeaker_1 rfl (lv_at hl 1 rfl) ?_
  refine z_bri (z_runV (As := [.int x]) (rest := []) (ci := 1) ⟨hx, hb, hml, hown, hts⟩ (c_X1_fewestWords (o0 := o0) (b0 := b0) (t0 := t0) (aL := aL) (aB := aB) (aS := aS) (aW := aW) (aE := aE) (aY := aY) (aZ := aZ) (aF := aF) (wd := wd) (tw := tw) (ts := ts) (la := pI L) (be := be) (ou := ou) (si := si) (en := en) (w0 := w0) (w1 := w1) (br := br) (td := td) (st_ := st_) (x := x) _) (cwV 1 hts gX1_firstSpeaker_X1_fewestWords rfl rfl rfl (by decide +kernel) ⟨Nat.le_of_ble_eq_true rfl, Nat.le_of_ble_eq_true rfl⟩) hK hP hD hN [0, 1, 4] rfl rfl rfl rfl rfl hl.1 rfl (Nat.le_of_ble_eq_true rfl) dX1_firstSpeaker_2 ⟨Nat.zero_le _, Nat.zero_le _⟩) hP hD hS hA [0, 1, 4] rfl (fun r2 u3 H locs hw1 hP hS => ?_)
  obtain rfl : r2 = jFew st_ (pI L) be x := hw1
  refine lv_istore_n (lv' := [(2, .int (jFew st_ (pI L) be x)), (0, .ref o0), (1, .int x)]) hx hb dX1_firstSpeaker_5 rfl hl (by decide) rfl (fun ls hl => ?_)
  refine lv_iconst (v := nI 0) hx hb dX1_firstSpeaker_6 (by decide) ?_
  refine lv_istore_n (lv' := [(3, .int (nI 0)), (2, .int (jFew st_ (pI L) be x)), (0, .ref o0), (1, .int x)]) hx hb dX1_firstSpeaker_7 rfl hl (by decide) rfl (fun ls hl => ?_)
  have L8 : ∀ (n_ : Nat) (sx : Nat) (hm_ : 6 ≤ sx + n_) (hs : sx ≤ 5) (hg : jFind (fun sx => decide (jSB lt bt st_ sx L x = jFew st_ (pI L) be x)) 5 0 = jFind (fun sx => decide (jSB lt bt st_ sx L x = jFew st_ (pI L) be x)) (5 - sx) sx) (H : Heap) (locs : List Loc) (ls : Array Slot), va_P D vwCl [(o0, .inr (1, [.ref b0, .ref t0, .ref aL, .ref aB, .ref aS, .ref aW, .ref aE, .ref aY, .ref aZ, .ref aF])), (t0, .inr (3, [.int (pI L), .int be, .int ou, .int si, .int en, .int w0, .int w1, .int br, .ref wd, .int td, .ref tw, .ref ts])), (aL, .inl (cA, 35, .inl lt)), (aB, .inl (cA, 35, .inl bt)), (aS, .inl (cA, 7, .inl st_))] H → va_D A [(o0, .inr (1, [.ref b0, .ref t0, .ref aL, .ref aB, .ref aS, .ref aW, .ref aE, .ref aY, .ref aZ, .ref aF])), (t0, .inr (3, [.int (pI L), .int be, .int ou, .int si, .int en, .int w0, .int w1, .int br, .ref wd, .int td, .ref tw, .ref ts])), (aL, .inl (cA, 35, .inl lt)), (aB, .inl (cA, 35, .inl bt)), (aS, .inl (cA, 7, .inl st_))] → va_S A H0 H locs → lv_has ls 4 [(0, .ref o0), (1, .int x), (2, .int (jFew st_ (pI L) be x)), (3, .int (nI sx))] → W p l e rm_c_X1_firstSpeaker s m args below meth c H locs 0 0 Q (F0 m 8 ls []) := by
    intro n_
    induction n_ with
    | zero =>
      intro sx hm_ hs hg
      exact absurd hm_ (by omega)
    | succ n_ ih_ =>
      intro sx hm_ hs hg H locs ls hP hD hS hl
      have ih4 := ih_
      clear ih_
      refine lv_iload_n hx hb dX1_firstSpeaker_8 rfl (lv_at hl 3 rfl) ?_
      refine lv_iconst (v := 5) hx hb dX1_firstSpeaker_9 (by decide) ?_
      refine lv_icmp_ge (tgt := 38) hx hb dX1_firstSpeaker_10 (by decide) (fun c10_5 => ?_) (fun c10_5 => ?_)
      · skip
        have ht_ : sx = 5 := by have := (nI_leI (a := 5) (b := sx) (by omega) (by omega)).mp c10_5; omega
        refine lv_iconst (v := (-1)) hx hb dX1_firstSpeaker_38 (by decide) ?_
        -- path 1
        exact hret ((-1)) () _ _ _ _ dX1_firstSpeaker_39 (rfl) (by clear hret hl hS hD hP hK hA hN hts hx hb hr hml hown hlocks hiX1 hiX3 ih4; first | (rw [hg, show 5 - sx = (5 - (sx + 1)) + 1 from by omega, jFind]; simp_all; done) | (rw [hg, show 5 - sx = 0 from by omega]; rfl)) hP hD hS
      · skip
        have hltsx : sx < 5 := Nat.lt_of_not_le (fun q_ => c10_5 ((nI_leI (a := 5) (b := sx) (by omega) (by omega)).mpr q_))
        refine lv_aload_n hx hb dX1_firstSpeaker_13 rfl (lv_at hl 0 rfl) ?_
        refine lv_iload_n hx hb dX1_firstSpeaker_14 rfl (lv_at hl 3 rfl) ?_
        refine lv_aload_n hx hb dX1_firstSpeaker_15 rfl (lv_at hl 0 rfl) ?_
        refine va_get (D := D) (ci := 1) (v := .ref t0) (C := RX1) (T := TX1) (N := 10) hx hb hts hiX1 hown hK hP 0 rfl rfl 1 (by decide) (hts (.fieldLink RX1 40 "HeardSecond$Outlook" "now" "LHeardSecond$Trial;") (by decide +kernel)) (fun _ h9 => h9) rfl dX1_firstSpeaker_16 ?_
        refine va_getN (D := D) (ci := 3) (v := .int (pI L)) (C := RX3) (T := TX3) (N := 12) hx hb hts hiX3 hown hK hP 1 rfl rfl 0 (by decide) (hN.getb 5 rfl) (fun _ h9 => h9) rfl dX1_firstSpeaker_19 ?_
        refine lv_iload_n hx hb dX1_firstSpeaker_22 rfl (lv_at hl 1 rfl) ?_
        refine z_bri (z_runV (As := [.int (nI sx), .int (pI L), .int x]) (rest := []) (ci := 1) ⟨hx, hb, hml, hown, hts⟩ (c_X1_stepsBy (o0 := o0) (b0 := b0) (t0 := t0) (aL := aL) (aB := aB) (aS := aS) (aW := aW) (aE := aE) (aY := aY) (aZ := aZ) (aF := aF) (lt := lt) (bt := bt) (st_ := st_) (sx := sx) (L := L) (x := x) (by first | assumption | omega) (by first | assumption | omega) _) (cwV 3 hts gX1_firstSpeaker_X1_stepsBy rfl rfl rfl (by decide +kernel) ⟨Nat.le_of_ble_eq_true rfl, Nat.le_of_ble_eq_true rfl⟩) hK hP hD hN [0, 2, 3, 4] rfl rfl rfl rfl rfl hl.1 rfl (Nat.le_of_ble_eq_true rfl) dX1_firstSpeaker_23 ⟨Nat.zero_le _, Nat.zero_le _⟩) hP hD hS hA [0, 2, 3, 4] rfl (fun r7 u8 H locs hw6 hP hS => ?_)
        obtain rfl : r7 = jSB lt bt st_ sx L x := hw6
        refine lv_iload_n hx hb dX1_firstSpeaker_26 rfl (lv_at hl 2 rfl) ?_
        refine lv_icmp_ne (tgt := 32) hx hb dX1_firstSpeaker_27 (by decide) (fun c27_9 => ?_) (fun c27_9 => ?_)
        · skip
          refine lv_iinc (v := nI (sx + 1)) (lv' := [(3, .int (nI (sx + 1))), (0, .ref o0), (1, .int x), (2, .int (jFew st_ (pI L) be x))]) hx hb dX1_firstSpeaker_32 hl (k := 3) rfl (nI_1 sx) (by decide) rfl (fun ls hl => ?_)
          refine lv_goto (tgt := 8) hx hb dX1_firstSpeaker_35 (by decide) ?_
          exact ih4 (sx + 1) (by omega) (by first | assumption | omega) (by clear hret hl hS hD hP hK hA hN hts hx hb hr hml hown hlocks hiX1 hiX3 ih4; rw [hg, show 5 - sx = (5 - (sx + 1)) + 1 from by omega, jFind]; simp_all) _ _ _ hP hD hS (lv_sub hl [1, 2, 3, 0] rfl)
        · skip
          refine lv_iload_n hx hb dX1_firstSpeaker_30 rfl (lv_at hl 3 rfl) ?_
          -- path 2
          exact hret (nI sx) () _ _ _ _ dX1_firstSpeaker_31 (rfl) (by clear hret hl hS hD hP hK hA hN hts hx hb hr hml hown hlocks hiX1 hiX3 ih4; first | (rw [hg, show 5 - sx = (5 - (sx + 1)) + 1 from by omega, jFind]; simp_all; done) | (rw [hg, show 5 - sx = 0 from by omega]; rfl)) hP hD hS
  exact L8 6 0 (by omega) (by first | assumption | omega) (by rfl) _ _ _ hP hD hS (lv_sub hl [2, 3, 1, 0] rfl)
abbrev rm_c_X1_worthOfEnd : Room := { frames := 1, cells := 0, slots := 0, locals := 21 }
set_option maxHeartbeats 400000 in
set_option maxRecDepth 20000 in
theorem c_X1_worthOfEnd {l : Launch} {D : va_G} {cA : ClassId} {o0 : Nat} {b0 : Nat} {t0 : Nat} {aL : Nat} {aB : Nat} {aS : Nat} {aW : Nat} {aE : Nat} {aY : Nat} {aZ : Nat} {aF : Nat} {qk : Nat} {qs : Nat} {N : Nat} {pt : Int32} {sf : Nat → Int32} {x : Int32} (h5 : N ≤ 5) : zMi l yX1_worthOfEnd wsX1_worthOfEnd rm_c_X1_worthOfEnd D cA [(o0, .inr (1, [.ref b0, .ref t0, .ref aL, .ref aB, .ref aS, .ref aW, .ref aE, .ref aY, .ref aZ, .ref aF])), (b0, .inr (0, [.ref qk, .ref qs, .int (nI N), .int pt])), (qs, .inl (cA, 5, .inl sf))] [.ref o0, .int x] (fun (r : Int32) (_ : Unit) => r = jWE N sf x) (fun (_ : Unit) => [(o0, .inr (1, [.ref b0, .ref t0, .ref aL, .ref aB, .ref aS, .ref aW, .ref aE, .ref aY, .ref aZ, .ref aF])), (b0, .inr (0, [.ref qk, .ref qs, .int (nI N), .int pt])), (qs, .inl (cA, 5, .inl sf))]) := by
  refine z_enteri (cc := cX1_worthOfEnd) (maxL := 2) (ty := .int) (by decide) rfl (Nat.le_of_ble_eq_true rfl) (fun p e s m args below meth c ls A H0 H locs Q hi_ hA hK hP hD hS hl hret => ?_)
  obtain ⟨hx, hb, hr, hml, hown, hts, hlocks, hN⟩ := hi_
  have hl : lv_has ls 2 [(0, .ref o0), (1, .int x)] := hl
  have hiX1 : ∀ w ∈ wsX10, w ∈ wsX1_worthOfEnd := by decide +kernel
  refine lv_aload_n hx hb dX1_worthOfEnd_0 rfl (lv_at hl 0 rfl) ?_
  refine va_get (D := D) (ci := 1) (v := .ref b0) (C := RX1) (T := TX1) (N := 10) hx hb hts hiX1 hown hK hP 0 rfl rfl 0 (by decide) (hts (.fieldLink RX1 36 "HeardSecond$Outlook" "bench" "LHeardSecond$Bench;") (by decide +kernel)) (fun _ h9 => h9) rfl dX1_worthOfEnd_1 ?_
  refine lv_iload_n hx hb dX1_worthOfEnd_4 rfl (lv_at hl 1 rfl) ?_
  refine z_bri (z_runV (As := [.int x]) (rest := []) (ci := 0) ⟨hx, hb, hml, hown, hts⟩ (c_X0_sideAt (b0 := b0) (qk := qk) (qs := qs) (N := N) (pt := pt) (sf := sf) (x := x) (by first | assumption | omega) _) (cwV 1 hts gX1_worthOfEnd_X0_sideAt rfl rfl rfl (by decide +kernel) ⟨Nat.le_of_ble_eq_true rfl, Nat.le_of_ble_eq_true rfl⟩) hK hP hD hN [1, 2] rfl rfl rfl rfl rfl hl.1 rfl (Nat.le_of_ble_eq_true rfl) dX1_worthOfEnd_5 ⟨Nat.zero_le _, Nat.zero_le _⟩) hP hD hS hA [1, 2] rfl (fun r2 u3 H locs hw1 hP hS => ?_)
  obtain rfl : r2 = jKind N sf x := hw1
  by_cases c8_4v0 : jKind N sf x = 0
  · skip
    refine lv_lookup (off := 28) (tgt := 36) hx hb dX1_worthOfEnd_8 (by decide) (by rw [c8_4v0]; rfl) (by decide) ?_
    refine lv_iconst (v := 1) hx hb dX1_worthOfEnd_36 (by decide) ?_
    -- path 1
    exact hret (1) () _ _ _ _ dX1_worthOfEnd_37 (rfl) (by clear hret hl hS hD hP hK hA hN hts hx hb hr hml hown hlocks hiX1; simp_all [jWE]) hP hD hS
  by_cases c8_4v1 : jKind N sf x = 1
  · skip
    refine lv_lookup (off := 30) (tgt := 38) hx hb dX1_worthOfEnd_8 (by decide) (by rw [c8_4v1]; rfl) (by decide) ?_
    refine lv_iconst (v := (-1)) hx hb dX1_worthOfEnd_38 (by decide) ?_
    -- path 2
    exact hret ((-1)) () _ _ _ _ dX1_worthOfEnd_39 (rfl) (by clear hret hl hS hD hP hK hA hN hts hx hb hr hml hown hlocks hiX1; simp_all [jWE]) hP hD hS
  refine lv_lookup (off := 32) (tgt := 40) hx hb dX1_worthOfEnd_8 (by decide) (z_lkEnd c8_4v0 c8_4v1) (by decide) ?_
  refine lv_iconst (v := 0) hx hb dX1_worthOfEnd_40 (by decide) ?_
  -- path 3
  exact hret (0) () _ _ _ _ dX1_worthOfEnd_41 (rfl) (by clear hret hl hS hD hP hK hA hN hts hx hb hr hml hown hlocks hiX1; simp_all [jWE]) hP hD hS
abbrev rm_c_X1_isTurnOf : Room := { frames := 1, cells := 0, slots := 0, locals := 21 }
set_option maxHeartbeats 400000 in
set_option maxRecDepth 20000 in
theorem c_X1_isTurnOf {l : Launch} {D : va_G} {cA : ClassId} {o0 : Nat} {b0 : Nat} {t0 : Nat} {aL : Nat} {aB : Nat} {aS : Nat} {aW : Nat} {aE : Nat} {aY : Nat} {aZ : Nat} {aF : Nat} {qk : Nat} {qs : Nat} {N : Nat} {pt : Int32} {sf : Nat → Int32} {lt : Nat → Int32} {sx : Nat} {L : Nat} {sd : Int32} (h5 : N ≤ 5) (hs : sx < 5) (hL : L < 7) : zMi l yX1_isTurnOf wsX1_isTurnOf rm_c_X1_isTurnOf D cA [(o0, .inr (1, [.ref b0, .ref t0, .ref aL, .ref aB, .ref aS, .ref aW, .ref aE, .ref aY, .ref aZ, .ref aF])), (b0, .inr (0, [.ref qk, .ref qs, .int (nI N), .int pt])), (qs, .inl (cA, 5, .inl sf)), (aL, .inl (cA, 35, .inl lt))] [.ref o0, .int sd, .int (nI sx), .int (pI L)] (fun (r : Int32) (_ : Unit) => r = bI (jTurn N sf lt sd sx L)) (fun (_ : Unit) => [(o0, .inr (1, [.ref b0, .ref t0, .ref aL, .ref aB, .ref aS, .ref aW, .ref aE, .ref aY, .ref aZ, .ref aF])), (b0, .inr (0, [.ref qk, .ref qs, .int (nI N), .int pt])), (qs, .inl (cA, 5, .inl sf)), (aL, .inl (cA, 35, .inl lt))]) := by
  refine z_enteri (cc := cX1_isTurnOf) (maxL := 4) (ty := .boolean) (by decide) rfl (Nat.le_of_ble_eq_true rfl) (fun p e s m args below meth c ls A H0 H locs Q hi_ hA hK hP hD hS hl hret => ?_)
  obtain ⟨hx, hb, hr, hml, hown, hts, hlocks, hN⟩ := hi_
  have hl : lv_has ls 4 [(0, .ref o0), (1, .int sd), (2, .int (nI sx)), (3, .int (pI L))] := hl
  have hiX1 : ∀ w ∈ wsX10, w ∈ wsX1_isTurnOf := by decide +kernel
  refine lv_aload_n hx hb dX1_isTurnOf_0 rfl (lv_at hl 0 rfl) ?_
  refine va_get (D := D) (ci := 1) (v := .ref b0) (C := RX1) (T := TX1) (N := 10) hx hb hts hiX1 hown hK hP 0 rfl rfl 0 (by decide) (hts (.fieldLink RX1 36 "HeardSecond$Outlook" "bench" "LHeardSecond$Bench;") (by decide +kernel)) (fun _ h9 => h9) rfl dX1_isTurnOf_1 ?_
  refine lv_iload_n hx hb dX1_isTurnOf_4 rfl (lv_at hl 2 rfl) ?_
  refine z_bri (z_runV (As := [.int (nI sx)]) (rest := []) (ci := 0) ⟨hx, hb, hml, hown, hts⟩ (c_X0_sideAt (b0 := b0) (qk := qk) (qs := qs) (N := N) (pt := pt) (sf := sf) (x := nI sx) (by first | assumption | omega) _) (cwV 1 hts gX1_isTurnOf_X0_sideAt rfl rfl rfl (by decide +kernel) ⟨Nat.le_of_ble_eq_true rfl, Nat.le_of_ble_eq_true rfl⟩) hK hP hD hN [1, 2] rfl rfl rfl rfl rfl hl.1 rfl (Nat.le_of_ble_eq_true rfl) dX1_isTurnOf_5 ⟨Nat.zero_le _, Nat.zero_le _⟩) hP hD hS hA [1, 2] rfl (fun r2 u3 H locs hw1 hP hS => ?_)
  obtain rfl : r2 = jKind N sf (nI sx) := hw1
  refine lv_iload_n hx hb dX1_isTurnOf_8 rfl (lv_at hl 1 rfl) ?_
  refine lv_icmp_ne (tgt := 33) hx hb dX1_isTurnOf_9 (by decide) (fun c9_4 => ?_) (fun c9_4 => ?_)
  · skip
    refine lv_iconst (v := 0) hx hb dX1_isTurnOf_33 (by decide) ?_
    -- path 1
    exact hret (0) () _ _ _ _ dX1_isTurnOf_34 (rfl) (by clear hret hl hS hD hP hK hA hN hts hx hb hr hml hown hlocks hiX1; simp_all [jTurn, bI]) hP hD hS
  · skip
    refine lv_aload_n hx hb dX1_isTurnOf_12 rfl (lv_at hl 0 rfl) ?_
    refine va_get (D := D) (ci := 1) (v := .ref aL) (C := RX1) (T := TX1) (N := 10) hx hb hts hiX1 hown hK hP 0 rfl rfl 2 (by decide) (hts (.fieldLink RX1 9 "HeardSecond$Outlook" "lastThen" "[I") (by decide +kernel)) (fun _ h9 => h9) rfl dX1_isTurnOf_13 ?_
    refine lv_iload_n hx hb dX1_isTurnOf_16 rfl (lv_at hl 3 rfl) ?_
    refine lv_iload_n hx hb dX1_isTurnOf_17 rfl (lv_at hl 2 rfl) ?_
    refine z_bri (z_runS (As := [.int (pI L), .int (nI sx)]) (rest := [.ref aL]) ⟨hx, hb, hml, hown, hts⟩ (c_X1_wordPlace (x := pI L) (y := nI sx) _) (va_cwS 2 hts gX1_isTurnOf_X1_wordPlace rfl rfl rfl (by decide +kernel) ⟨Nat.le_of_ble_eq_true rfl, Nat.le_of_ble_eq_true rfl⟩) hK hP hD hN [] rfl rfl rfl hl.1 rfl (Nat.le_of_ble_eq_true rfl) dX1_isTurnOf_18 ⟨Nat.zero_le _, Nat.zero_le _⟩) hP hD hS hA [] rfl (fun r6 u7 H locs hw5 hP hS => ?_)
    obtain rfl : r6 = ((pI L) + 1) * 5 + (nI sx) := hw5
    refine z_top (y := nI (5 * L + sx)) (wp_eq L sx) ?_
    refine z_bri (z_runSN (As := [.ref aL, .int (nI (5 * L + sx))]) (rest := []) ⟨hx, hb, hml, hown, hts⟩ (c_X4_at (n := 35) (q := aL) (f := lt) (x := nI (5 * L + sx)) (by first | assumption | omega) _) (va_cnB (own := RX1) (host := "HeardSecond") (index := 93) 2 hts ggX1_isTurnOf_X4_at rfl rfl rfl (hN.get 28 rfl) (hts (.initialized RX4) (by decide +kernel)) (by decide +kernel) ⟨Nat.le_of_ble_eq_true rfl, Nat.le_of_ble_eq_true rfl⟩) (hts (.static yX4_at) (by decide +kernel)) hK hP hD hN [3] rfl rfl rfl hl.1 rfl (Nat.le_of_ble_eq_true rfl) dX1_isTurnOf_21 ⟨Nat.zero_le _, Nat.zero_le _⟩) hP hD hS hA [3] rfl (fun r9 u10 H locs hw8 hP hS => ?_)
    obtain rfl : r9 = jAt 35 lt (nI (5 * L + sx)) := hw8
    refine z_top (y := lt (5 * L + sx)) (jAt_nI (by omega) (by decide)) ?_
    refine lv_bipush (v := (-2)) hx hb dX1_isTurnOf_24 (by decide) ?_
    refine lv_icmp_eq (tgt := 33) hx hb dX1_isTurnOf_26 (by decide) (fun c26_11 => ?_) (fun c26_11 => ?_)
    · skip
      refine lv_iconst (v := 0) hx hb dX1_isTurnOf_33 (by decide) ?_
      -- path 2
      exact hret (0) () _ _ _ _ dX1_isTurnOf_34 (rfl) (by clear hret hl hS hD hP hK hA hN hts hx hb hr hml hown hlocks hiX1; simp_all [jTurn, bI]) hP hD hS
    · skip
      refine lv_iconst (v := 1) hx hb dX1_isTurnOf_29 (by decide) ?_
      refine lv_goto (tgt := 34) hx hb dX1_isTurnOf_30 (by decide) ?_
      -- path 3
      exact hret (1) () _ _ _ _ dX1_isTurnOf_34 (rfl) (by clear hret hl hS hD hP hK hA hN hts hx hb hr hml hown hlocks hiX1; simp_all [jTurn, bI]) hP hD hS
abbrev rm_c_X1_worthBehind : Room := { frames := 1, cells := 0, slots := 0, locals := 21 }
set_option maxHeartbeats 400000 in
set_option maxRecDepth 20000 in
theorem c_X1_worthBehind {l : Launch} {D : va_G} {cA : ClassId} {o0 : Nat} {b0 : Nat} {t0 : Nat} {aL : Nat} {aB : Nat} {aS : Nat} {aW : Nat} {aE : Nat} {aY : Nat} {aZ : Nat} {aF : Nat} {lt : Nat → Int32} {bt : Nat → Int32} {w : Nat → Int32} {sx : Nat} {L : Nat} (hs : sx < 5) (hL : L < 7) : zMi l yX1_worthBehind wsX1_worthBehind rm_c_X1_worthBehind D cA [(o0, .inr (1, [.ref b0, .ref t0, .ref aL, .ref aB, .ref aS, .ref aW, .ref aE, .ref aY, .ref aZ, .ref aF])), (aL, .inl (cA, 35, .inl lt)), (aB, .inl (cA, 35, .inl bt)), (aW, .inl (cA, 42, .inl w))] [.ref o0, .int (nI sx), .int (pI L)] (fun (r : Int32) (_ : Unit) => r = jWB lt bt w sx L) (fun (_ : Unit) => [(o0, .inr (1, [.ref b0, .ref t0, .ref aL, .ref aB, .ref aS, .ref aW, .ref aE, .ref aY, .ref aZ, .ref aF])), (aL, .inl (cA, 35, .inl lt)), (aB, .inl (cA, 35, .inl bt)), (aW, .inl (cA, 42, .inl w))]) := by
  refine z_enteri (cc := cX1_worthBehind) (maxL := 4) (ty := .int) (by decide) rfl (Nat.le_of_ble_eq_true rfl) (fun p e s m args below meth c ls A H0 H locs Q hi_ hA hK hP hD hS hl hret => ?_)
  obtain ⟨hx, hb, hr, hml, hown, hts, hlocks, hN⟩ := hi_
  have hl : lv_has ls 4 [(0, .ref o0), (1, .int (nI sx)), (2, .int (pI L))] := hl
  have hiX1 : ∀ w ∈ wsX10, w ∈ wsX1_worthBehind := by decide +kernel
  refine lv_iload_n hx hb dX1_worthBehind_0 rfl (lv_at hl 2 rfl) ?_
  refine lv_iload_n hx hb dX1_worthBehind_1 rfl (lv_at hl 1 rfl) ?_
  refine z_bri (z_runS (As := [.int (pI L), .int (nI sx)]) (rest := []) ⟨hx, hb, hml, hown, hts⟩ (c_X1_wordPlace (x := pI L) (y := nI sx) _) (va_cwS 2 hts gX1_worthBehind_X1_wordPlace rfl rfl rfl (by decide +kernel) ⟨Nat.le_of_ble_eq_true rfl, Nat.le_of_ble_eq_true rfl⟩) hK hP hD hN [] rfl rfl rfl hl.1 rfl (Nat.le_of_ble_eq_true rfl) dX1_worthBehind_2 ⟨Nat.zero_le _, Nat.zero_le _⟩) hP hD hS hA [] rfl (fun r2 u3 H locs hw1 hP hS => ?_)
  obtain rfl : r2 = ((pI L) + 1) * 5 + (nI sx) := hw1
  refine z_top (y := nI (5 * L + sx)) (wp_eq L sx) ?_
  refine lv_istore_n (lv' := [(3, .int (nI (5 * L + sx))), (0, .ref o0), (1, .int (nI sx)), (2, .int (pI L))]) hx hb dX1_worthBehind_5 rfl hl (by decide) rfl (fun ls hl => ?_)
  refine lv_aload_n hx hb dX1_worthBehind_6 rfl (lv_at hl 1 rfl) ?_
  refine va_get (D := D) (ci := 1) (v := .ref aW) (C := RX1) (T := TX1) (N := 10) hx hb hts hiX1 hown hK hP 0 rfl rfl 5 (by decide) (hts (.fieldLink RX1 21 "HeardSecond$Outlook" "worths" "[I") (by decide +kernel)) (fun _ h9 => h9) rfl dX1_worthBehind_7 ?_
  refine lv_aload_n hx hb dX1_worthBehind_10 rfl (lv_at hl 1 rfl) ?_
  refine va_get (D := D) (ci := 1) (v := .ref aL) (C := RX1) (T := TX1) (N := 10) hx hb hts hiX1 hown hK hP 0 rfl rfl 2 (by decide) (hts (.fieldLink RX1 9 "HeardSecond$Outlook" "lastThen" "[I") (by decide +kernel)) (fun _ h9 => h9) rfl dX1_worthBehind_11 ?_
  refine lv_iload_n hx hb dX1_worthBehind_14 rfl (lv_at hl 0 rfl) ?_
  refine z_bri (z_runSN (As := [.ref aL, .int (nI (5 * L + sx))]) (rest := [.ref aW]) ⟨hx, hb, hml, hown, hts⟩ (c_X4_at (n := 35) (q := aL) (f := lt) (x := nI (5 * L + sx)) (by first | assumption | omega) _) (va_cnB (own := RX1) (host := "HeardSecond") (index := 93) 2 hts ggX1_worthBehind_X4_at rfl rfl rfl (hN.get 28 rfl) (hts (.initialized RX4) (by decide +kernel)) (by decide +kernel) ⟨Nat.le_of_ble_eq_true rfl, Nat.le_of_ble_eq_true rfl⟩) (hts (.static yX4_at) (by decide +kernel)) hK hP hD hN [1] rfl rfl rfl hl.1 rfl (Nat.le_of_ble_eq_true rfl) dX1_worthBehind_15 ⟨Nat.zero_le _, Nat.zero_le _⟩) hP hD hS hA [1] rfl (fun r5 u6 H locs hw4 hP hS => ?_)
  obtain rfl : r5 = jAt 35 lt (nI (5 * L + sx)) := hw4
  refine z_top (y := lt (5 * L + sx)) (jAt_nI (by omega) (by decide)) ?_
  refine lv_aload_n hx hb dX1_worthBehind_18 rfl (lv_at hl 1 rfl) ?_
  refine va_get (D := D) (ci := 1) (v := .ref aB) (C := RX1) (T := TX1) (N := 10) hx hb hts hiX1 hown hK hP 0 rfl rfl 3 (by decide) (hts (.fieldLink RX1 15 "HeardSecond$Outlook" "believedThen" "[I") (by decide +kernel)) (fun _ h9 => h9) rfl dX1_worthBehind_19 ?_
  refine lv_iload_n hx hb dX1_worthBehind_22 rfl (lv_at hl 0 rfl) ?_
  refine z_bri (z_runSN (As := [.ref aB, .int (nI (5 * L + sx))]) (rest := [.int (lt (5 * L + sx)), .ref aW]) ⟨hx, hb, hml, hown, hts⟩ (c_X4_at (n := 35) (q := aB) (f := bt) (x := nI (5 * L + sx)) (by first | assumption | omega) _) (va_cnB (own := RX1) (host := "HeardSecond") (index := 93) 2 hts ggX1_worthBehind_X4_at rfl rfl rfl (hN.get 28 rfl) (hts (.initialized RX4) (by decide +kernel)) (by decide +kernel) ⟨Nat.le_of_ble_eq_true rfl, Nat.le_of_ble_eq_true rfl⟩) (hts (.static yX4_at) (by decide +kernel)) hK hP hD hN [2] rfl rfl rfl hl.1 rfl (Nat.le_of_ble_eq_true rfl) dX1_worthBehind_23 ⟨Nat.zero_le _, Nat.zero_le _⟩) hP hD hS hA [2] rfl (fun r8 u9 H locs hw7 hP hS => ?_)
  obtain rfl : r8 = jAt 35 bt (nI (5 * L + sx)) := hw7
  refine z_top (y := bt (5 * L + sx)) (jAt_nI (by omega) (by decide)) ?_
  refine z_bri (z_runS (As := [.int (lt (5 * L + sx)), .int (bt (5 * L + sx))]) (rest := [.ref aW]) ⟨hx, hb, hml, hown, hts⟩ (c_X1_worthPlace (x := lt (5 * L + sx)) (y := bt (5 * L + sx)) _) (va_cwS 2 hts gX1_worthBehind_X1_worthPlace rfl rfl rfl (by decide +kernel) ⟨Nat.le_of_ble_eq_true rfl, Nat.le_of_ble_eq_true rfl⟩) hK hP hD hN [] rfl rfl rfl hl.1 rfl (Nat.le_of_ble_eq_true rfl) dX1_worthBehind_26 ⟨Nat.zero_le _, Nat.zero_le _⟩) hP hD hS hA [] rfl (fun r11 u12 H locs hw10 hP hS => ?_)
  obtain rfl : r11 = ((lt (5 * L + sx)) + 1) * 6 + (bt (5 * L + sx)) + 1 := hw10
  refine z_bri (z_runSN (As := [.ref aW, .int (((lt (5 * L + sx)) + 1) * 6 + (bt (5 * L + sx)) + 1)]) (rest := []) ⟨hx, hb, hml, hown, hts⟩ (c_X4_at (n := 42) (q := aW) (f := w) (x := ((lt (5 * L + sx)) + 1) * 6 + (bt (5 * L + sx)) + 1) (by first | assumption | omega) _) (va_cnB (own := RX1) (host := "HeardSecond") (index := 93) 2 hts ggX1_worthBehind_X4_at rfl rfl rfl (hN.get 28 rfl) (hts (.initialized RX4) (by decide +kernel)) (by decide +kernel) ⟨Nat.le_of_ble_eq_true rfl, Nat.le_of_ble_eq_true rfl⟩) (hts (.static yX4_at) (by decide +kernel)) hK hP hD hN [3] rfl rfl rfl hl.1 rfl (Nat.le_of_ble_eq_true rfl) dX1_worthBehind_29 ⟨Nat.zero_le _, Nat.zero_le _⟩) hP hD hS hA [3] rfl (fun r14 u15 H locs hw13 hP hS => ?_)
  obtain rfl : r14 = jAt 42 w (((lt (5 * L + sx)) + 1) * 6 + (bt (5 * L + sx)) + 1) := hw13
  -- path 1
  exact hret (jAt 42 w (((lt (5 * L + sx)) + 1) * 6 + (bt (5 * L + sx)) + 1)) () _ _ _ _ dX1_worthBehind_32 (rfl) (by rfl) hP hD hS
abbrev rm_c_X1_bestByWord : Room := { frames := 2, cells := 0, slots := 0, locals := 44 }
set_option maxHeartbeats 400000 in
set_option maxRecDepth 20000 in
theorem c_X1_bestByWord {l : Launch} {D : va_G} {cA : ClassId} {o0 : Nat} {b0 : Nat} {t0 : Nat} {aL : Nat} {aB : Nat} {aS : Nat} {aW : Nat} {aE : Nat} {aY : Nat} {aZ : Nat} {aF : Nat} {qk : Nat} {qs : Nat} {N : Nat} {pt : Int32} {sf : Nat → Int32} {lt : Nat → Int32} {bt : Nat → Int32} {w : Nat → Int32} {L : Nat} {sd : Int32} (h5 : N ≤ 5) (hL : L < 7) : zMi l yX1_bestByWord wsX1_bestByWord rm_c_X1_bestByWord D cA [(o0, .inr (1, [.ref b0, .ref t0, .ref aL, .ref aB, .ref aS, .ref aW, .ref aE, .ref aY, .ref aZ, .ref aF])), (b0, .inr (0, [.ref qk, .ref qs, .int (nI N), .int pt])), (qs, .inl (cA, 5, .inl sf)), (aL, .inl (cA, 35, .inl lt)), (aB, .inl (cA, 35, .inl bt)), (aW, .inl (cA, 42, .inl w))] [.ref o0, .int sd, .int (pI L)] (fun (r : Int32) (_ : Unit) => r = jBy N sf lt bt w sd L 5) (fun (_ : Unit) => [(o0, .inr (1, [.ref b0, .ref t0, .ref aL, .ref aB, .ref aS, .ref aW, .ref aE, .ref aY, .ref aZ, .ref aF])), (b0, .inr (0, [.ref qk, .ref qs, .int (nI N), .int pt])), (qs, .inl (cA, 5, .inl sf)), (aL, .inl (cA, 35, .inl lt)), (aB, .inl (cA, 35, .inl bt)), (aW, .inl (cA, 42, .inl w))]) := by
  refine z_enteri (cc := cX1_bestByWord) (maxL := 5) (ty := .int) (by decide) rfl (Nat.le_of_ble_eq_true rfl) (fun p e s m args below meth c ls A H0 H locs Q hi_ hA hK hP hD hS hl hret => ?_)
  obtain ⟨hx, hb, hr, hml, hown, hts, hlocks, hN⟩ := hi_
  have hl : lv_has ls 5 [(0, .ref o0), (1, .int sd), (2, .int (pI L))] := hl
  refine lv_iload_n hx hb dX1_bestByWord_0 rfl (lv_at hl 1 rfl) ?_
  refine lv_if_ne (tgt := 10) hx hb dX1_bestByWord_1 (by decide) (fun c1_1 => ?_) (fun c1_1 => ?_)
  · skip
    refine lv_sipush (v := 1000) hx hb dX1_bestByWord_10 (by decide) ?_
    refine lv_istore_n (lv' := [(3, .int 1000), (0, .ref o0), (1, .int sd), (2, .int (pI L))]) hx hb dX1_bestByWord_13 rfl hl (by decide) rfl (fun ls hl => ?_)
    refine lv_iconst (v := nI 0) hx hb dX1_bestByWord_14 (by decide) ?_
    refine lv_istore (lv' := [(4, .int (nI 0)), (3, .int 1000), (0, .ref o0), (1, .int sd), (2, .int (pI L))]) hx hb dX1_bestByWord_15 hl (by decide) rfl (fun ls hl => ?_)
    have L17 : ∀ (n_ : Nat) (sx : Nat) (v : Int32) (hm_ : 6 ≤ sx + n_) (hs : sx ≤ 5) (hv : v = jBy N sf lt bt w sd L sx) (H : Heap) (locs : List Loc) (ls : Array Slot), va_P D vwCl [(o0, .inr (1, [.ref b0, .ref t0, .ref aL, .ref aB, .ref aS, .ref aW, .ref aE, .ref aY, .ref aZ, .ref aF])), (b0, .inr (0, [.ref qk, .ref qs, .int (nI N), .int pt])), (qs, .inl (cA, 5, .inl sf)), (aL, .inl (cA, 35, .inl lt)), (aB, .inl (cA, 35, .inl bt)), (aW, .inl (cA, 42, .inl w))] H → va_D A [(o0, .inr (1, [.ref b0, .ref t0, .ref aL, .ref aB, .ref aS, .ref aW, .ref aE, .ref aY, .ref aZ, .ref aF])), (b0, .inr (0, [.ref qk, .ref qs, .int (nI N), .int pt])), (qs, .inl (cA, 5, .inl sf)), (aL, .inl (cA, 35, .inl lt)), (aB, .inl (cA, 35, .inl bt)), (aW, .inl (cA, 42, .inl w))] → va_S A H0 H locs → lv_has ls 5 [(0, .ref o0), (1, .int sd), (2, .int (pI L)), (3, .int v), (4, .int (nI sx))] → W p l e rm_c_X1_bestByWord s m args below meth c H locs 0 0 Q (F0 m 17 ls []) := by
      intro n_
      induction n_ with
      | zero =>
        intro sx v hm_ hs hv
        exact absurd hm_ (by omega)
      | succ n_ ih_ =>
        intro sx v hm_ hs hv H locs ls hP hD hS hl
        have ih2 := ih_
        clear ih_
        refine lv_iload hx hb dX1_bestByWord_17 (lv_at hl 4 rfl) ?_
        refine lv_iconst (v := 5) hx hb dX1_bestByWord_19 (by decide) ?_
        refine lv_icmp_ge (tgt := 53) hx hb dX1_bestByWord_20 (by decide) (fun c20_3 => ?_) (fun c20_3 => ?_)
        · skip
          have ht_ : sx = 5 := by have := (nI_leI (a := 5) (b := sx) (by omega) (by omega)).mp c20_3; omega
          refine lv_iload_n hx hb dX1_bestByWord_53 rfl (lv_at hl 3 rfl) ?_
          -- path 1
          exact hret (v) () _ _ _ _ dX1_bestByWord_54 (rfl) (by clear hret hl hS hD hP hK hA hN hts hx hb hr hml hown hlocks  ih2; rw [hv, ht_]) hP hD hS
        · skip
          have hltsx : sx < 5 := Nat.lt_of_not_le (fun q_ => c20_3 ((nI_leI (a := 5) (b := sx) (by omega) (by omega)).mpr q_))
          refine lv_aload_n hx hb dX1_bestByWord_23 rfl (lv_at hl 0 rfl) ?_
          refine lv_iload_n hx hb dX1_bestByWord_24 rfl (lv_at hl 1 rfl) ?_
          refine lv_iload hx hb dX1_bestByWord_25 (lv_at hl 4 rfl) ?_
          refine lv_iload_n hx hb dX1_bestByWord_27 rfl (lv_at hl 2 rfl) ?_
          refine z_bri (z_runV (As := [.int sd, .int (nI sx), .int (pI L)]) (rest := []) (ci := 1) ⟨hx, hb, hml, hown, hts⟩ (c_X1_isTurnOf (o0 := o0) (b0 := b0) (t0 := t0) (aL := aL) (aB := aB) (aS := aS) (aW := aW) (aE := aE) (aY := aY) (aZ := aZ) (aF := aF) (qk := qk) (qs := qs) (N := N) (pt := pt) (sf := sf) (lt := lt) (sx := sx) (L := L) (sd := sd) (by first | assumption | omega) (by first | assumption | omega) (by first | assumption | omega) _) (cwV 3 hts gX1_bestByWord_X1_isTurnOf rfl rfl rfl (by decide +kernel) ⟨Nat.le_of_ble_eq_true rfl, Nat.le_of_ble_eq_true rfl⟩) hK hP hD hN [0, 1, 2, 3] rfl rfl rfl rfl rfl hl.1 rfl (Nat.le_of_ble_eq_true rfl) dX1_bestByWord_28 ⟨Nat.zero_le _, Nat.zero_le _⟩) hP hD hS hA [0, 1, 2, 3] rfl (fun r5 u6 H locs hw4 hP hS => ?_)
          obtain rfl : r5 = bI (jTurn N sf lt sd sx L) := hw4
          refine lv_if_eq (tgt := 47) hx hb dX1_bestByWord_31 (by decide) (fun c31_7 => ?_) (fun c31_7 => ?_)
          · skip
            have c31_7 := bI_0.mp c31_7
            refine lv_iinc (v := nI (sx + 1)) (lv' := [(4, .int (nI (sx + 1))), (0, .ref o0), (1, .int sd), (2, .int (pI L)), (3, .int v)]) hx hb dX1_bestByWord_47 hl (k := 4) rfl (nI_1 sx) (by decide) rfl (fun ls hl => ?_)
            refine lv_goto (tgt := 17) hx hb dX1_bestByWord_50 (by decide) ?_
            exact ih2 (sx + 1) v (by omega) (by first | assumption | omega) (by clear hret hl hS hD hP hK hA hN hts hx hb hr hml hown hlocks  ih2; rw [jBy]; simp_all) _ _ _ hP hD hS (lv_sub hl [1, 2, 3, 4, 0] rfl)
          · skip
            have c31_7 := bI_n0.mp c31_7
            refine lv_iload_n hx hb dX1_bestByWord_34 rfl (lv_at hl 1 rfl) ?_
            refine lv_iload_n hx hb dX1_bestByWord_35 rfl (lv_at hl 3 rfl) ?_
            refine lv_aload_n hx hb dX1_bestByWord_36 rfl (lv_at hl 0 rfl) ?_
            refine lv_iload hx hb dX1_bestByWord_37 (lv_at hl 4 rfl) ?_
            refine lv_iload_n hx hb dX1_bestByWord_39 rfl (lv_at hl 2 rfl) ?_
            refine z_bri (z_runV (As := [.int (nI sx), .int (pI L)]) (rest := [.int v, .int sd]) (ci := 1) ⟨hx, hb, hml, hown, hts⟩ (c_X1_worthBehind (o0 := o0) (b0 := b0) (t0 := t0) (aL := aL) (aB := aB) (aS := aS) (aW := aW) (aE := aE) (aY := aY) (aZ := aZ) (aF := aF) (lt := lt) (bt := bt) (w := w) (sx := sx) (L := L) (by first | assumption | omega) (by first | assumption | omega) _) (cwV 2 hts gX1_bestByWord_X1_worthBehind rfl rfl rfl (by decide +kernel) ⟨Nat.le_of_ble_eq_true rfl, Nat.le_of_ble_eq_true rfl⟩) hK hP hD hN [0, 3, 4, 5] rfl rfl rfl rfl rfl hl.1 rfl (Nat.le_of_ble_eq_true rfl) dX1_bestByWord_40 ⟨Nat.zero_le _, Nat.zero_le _⟩) hP hD hS hA [0, 3, 4, 5] rfl (fun r9 u10 H locs hw8 hP hS => ?_)
            obtain rfl : r9 = jWB lt bt w sx L := hw8
            refine z_bri (z_runS (As := [.int sd, .int v, .int (jWB lt bt w sx L)]) (rest := []) ⟨hx, hb, hml, hown, hts⟩ (c_X1_better (sd := sd) (x := v) (y := jWB lt bt w sx L) _) (va_cwS 3 hts gX1_bestByWord_X1_better rfl rfl rfl (by decide +kernel) ⟨Nat.le_of_ble_eq_true rfl, Nat.le_of_ble_eq_true rfl⟩) hK hP hD hN [] rfl rfl rfl hl.1 rfl (Nat.le_of_ble_eq_true rfl) dX1_bestByWord_43 ⟨Nat.zero_le _, Nat.zero_le _⟩) hP hD hS hA [] rfl (fun r12 u13 H locs hw11 hP hS => ?_)
            obtain rfl : r12 = jBetter sd v (jWB lt bt w sx L) := hw11
            refine lv_istore_n (lv' := [(3, .int (jBetter sd v (jWB lt bt w sx L))), (0, .ref o0), (1, .int sd), (2, .int (pI L)), (4, .int (nI sx))]) hx hb dX1_bestByWord_46 rfl hl (by decide) rfl (fun ls hl => ?_)
            refine lv_iinc (v := nI (sx + 1)) (lv' := [(4, .int (nI (sx + 1))), (3, .int (jBetter sd v (jWB lt bt w sx L))), (0, .ref o0), (1, .int sd), (2, .int (pI L))]) hx hb dX1_bestByWord_47 hl (k := 4) rfl (nI_1 sx) (by decide) rfl (fun ls hl => ?_)
            refine lv_goto (tgt := 17) hx hb dX1_bestByWord_50 (by decide) ?_
            exact ih2 (sx + 1) (jBetter sd v (jWB lt bt w sx L)) (by omega) (by first | assumption | omega) (by clear hret hl hS hD hP hK hA hN hts hx hb hr hml hown hlocks  ih2; rw [jBy]; simp_all) _ _ _ hP hD hS (lv_sub hl [2, 3, 4, 1, 0] rfl)
    exact L17 6 0 1000 (by omega) (by first | assumption | omega) (by clear hret hl hS hD hP hK hA hN hts hx hb hr hml hown hlocks  L17; simp_all [jBy]) _ _ _ hP hD hS (lv_sub hl [2, 3, 4, 1, 0] rfl)
  · skip
    refine lv_sipush (v := (-1000)) hx hb dX1_bestByWord_4 (by decide) ?_
    refine lv_goto (tgt := 13) hx hb dX1_bestByWord_7 (by decide) ?_
    refine lv_istore_n (lv' := [(3, .int (-1000)), (0, .ref o0), (1, .int sd), (2, .int (pI L))]) hx hb dX1_bestByWord_13 rfl hl (by decide) rfl (fun ls hl => ?_)
    refine lv_iconst (v := nI 0) hx hb dX1_bestByWord_14 (by decide) ?_
    refine lv_istore (lv' := [(4, .int (nI 0)), (3, .int (-1000)), (0, .ref o0), (1, .int sd), (2, .int (pI L))]) hx hb dX1_bestByWord_15 hl (by decide) rfl (fun ls hl => ?_)
    have L17 : ∀ (n_ : Nat) (sx : Nat) (v : Int32) (hm_ : 6 ≤ sx + n_) (hs : sx ≤ 5) (hv : v = jBy N sf lt bt w sd L sx) (H : Heap) (locs : List Loc) (ls : Array Slot), va_P D vwCl [(o0, .inr (1, [.ref b0, .ref t0, .ref aL, .ref aB, .ref aS, .ref aW, .ref aE, .ref aY, .ref aZ, .ref aF])), (b0, .inr (0, [.ref qk, .ref qs, .int (nI N), .int pt])), (qs, .inl (cA, 5, .inl sf)), (aL, .inl (cA, 35, .inl lt)), (aB, .inl (cA, 35, .inl bt)), (aW, .inl (cA, 42, .inl w))] H → va_D A [(o0, .inr (1, [.ref b0, .ref t0, .ref aL, .ref aB, .ref aS, .ref aW, .ref aE, .ref aY, .ref aZ, .ref aF])), (b0, .inr (0, [.ref qk, .ref qs, .int (nI N), .int pt])), (qs, .inl (cA, 5, .inl sf)), (aL, .inl (cA, 35, .inl lt)), (aB, .inl (cA, 35, .inl bt)), (aW, .inl (cA, 42, .inl w))] → va_S A H0 H locs → lv_has ls 5 [(0, .ref o0), (1, .int sd), (2, .int (pI L)), (3, .int v), (4, .int (nI sx))] → W p l e rm_c_X1_bestByWord s m args below meth c H locs 0 0 Q (F0 m 17 ls []) := by
      intro n_
      induction n_ with
      | zero =>
        intro sx v hm_ hs hv
        exact absurd hm_ (by omega)
      | succ n_ ih_ =>
        intro sx v hm_ hs hv H locs ls hP hD hS hl
        have ih14 := ih_
        clear ih_
        refine lv_iload hx hb dX1_bestByWord_17 (lv_at hl 4 rfl) ?_
        refine lv_iconst (v := 5) hx hb dX1_bestByWord_19 (by decide) ?_
        refine lv_icmp_ge (tgt := 53) hx hb dX1_bestByWord_20 (by decide) (fun c20_15 => ?_) (fun c20_15 => ?_)
        · skip
          have ht_ : sx = 5 := by have := (nI_leI (a := 5) (b := sx) (by omega) (by omega)).mp c20_15; omega
          refine lv_iload_n hx hb dX1_bestByWord_53 rfl (lv_at hl 3 rfl) ?_
          -- path 2
          exact hret (v) () _ _ _ _ dX1_bestByWord_54 (rfl) (by clear hret hl hS hD hP hK hA hN hts hx hb hr hml hown hlocks  ih14; rw [hv, ht_]) hP hD hS
        · skip
          have hltsx : sx < 5 := Nat.lt_of_not_le (fun q_ => c20_15 ((nI_leI (a := 5) (b := sx) (by omega) (by omega)).mpr q_))
          refine lv_aload_n hx hb dX1_bestByWord_23 rfl (lv_at hl 0 rfl) ?_
          refine lv_iload_n hx hb dX1_bestByWord_24 rfl (lv_at hl 1 rfl) ?_
          refine lv_iload hx hb dX1_bestByWord_25 (lv_at hl 4 rfl) ?_
          refine lv_iload_n hx hb dX1_bestByWord_27 rfl (lv_at hl 2 rfl) ?_
          refine z_bri (z_runV (As := [.int sd, .int (nI sx), .int (pI L)]) (rest := []) (ci := 1) ⟨hx, hb, hml, hown, hts⟩ (c_X1_isTurnOf (o0 := o0) (b0 := b0) (t0 := t0) (aL := aL) (aB := aB) (aS := aS) (aW := aW) (aE := aE) (aY := aY) (aZ := aZ) (aF := aF) (qk := qk) (qs := qs) (N := N) (pt := pt) (sf := sf) (lt := lt) (sx := sx) (L := L) (sd := sd) (by first | assumption | omega) (by first | assumption | omega) (by first | assumption | omega) _) (cwV 3 hts gX1_bestByWord_X1_isTurnOf rfl rfl rfl (by decide +kernel) ⟨Nat.le_of_ble_eq_true rfl, Nat.le_of_ble_eq_true rfl⟩) hK hP hD hN [0, 1, 2, 3] rfl rfl rfl rfl rfl hl.1 rfl (Nat.le_of_ble_eq_true rfl) dX1_bestByWord_28 ⟨Nat.zero_le _, Nat.zero_le _⟩) hP hD hS hA [0, 1, 2, 3] rfl (fun r17 u18 H locs hw16 hP hS => ?_)
          obtain rfl : r17 = bI (jTurn N sf lt sd sx L) := hw16
          refine lv_if_eq (tgt := 47) hx hb dX1_bestByWord_31 (by decide) (fun c31_19 => ?_) (fun c31_19 => ?_)
          · skip
            have c31_19 := bI_0.mp c31_19
            refine lv_iinc (v := nI (sx + 1)) (lv' := [(4, .int (nI (sx + 1))), (0, .ref o0), (1, .int sd), (2, .int (pI L)), (3, .int v)]) hx hb dX1_bestByWord_47 hl (k := 4) rfl (nI_1 sx) (by decide) rfl (fun ls hl => ?_)
            refine lv_goto (tgt := 17) hx hb dX1_bestByWord_50 (by decide) ?_
            exact ih14 (sx + 1) v (by omega) (by first | assumption | omega) (by clear hret hl hS hD hP hK hA hN hts hx hb hr hml hown hlocks  ih14; rw [jBy]; simp_all) _ _ _ hP hD hS (lv_sub hl [1, 2, 3, 4, 0] rfl)
          · skip
            have c31_19 := bI_n0.mp c31_19
            refine lv_iload_n hx hb dX1_bestByWord_34 rfl (lv_at hl 1 rfl) ?_
            refine lv_iload_n hx hb dX1_bestByWord_35 rfl (lv_at hl 3 rfl) ?_
            refine lv_aload_n hx hb dX1_bestByWord_36 rfl (lv_at hl 0 rfl) ?_
            refine lv_iload hx hb dX1_bestByWord_37 (lv_at hl 4 rfl) ?_
            refine lv_iload_n hx hb dX1_bestByWord_39 rfl (lv_at hl 2 rfl) ?_
            refine z_bri (z_runV (As := [.int (nI sx), .int (pI L)]) (rest := [.int v, .int sd]) (ci := 1) ⟨hx, hb, hml, hown, hts⟩ (c_X1_worthBehind (o0 := o0) (b0 := b0) (t0 := t0) (aL := aL) (aB := aB) (aS := aS) (aW := aW) (aE := aE) (aY := aY) (aZ := aZ) (aF := aF) (lt := lt) (bt := bt) (w := w) (sx := sx) (L := L) (by first | assumption | omega) (by first | assumption | omega) _) (cwV 2 hts gX1_bestByWord_X1_worthBehind rfl rfl rfl (by decide +kernel) ⟨Nat.le_of_ble_eq_true rfl, Nat.le_of_ble_eq_true rfl⟩) hK hP hD hN [0, 3, 4, 5] rfl rfl rfl rfl rfl hl.1 rfl (Nat.le_of_ble_eq_true rfl) dX1_bestByWord_40 ⟨Nat.zero_le _, Nat.zero_le _⟩) hP hD hS hA [0, 3, 4, 5] rfl (fun r21 u22 H locs hw20 hP hS => ?_)
            obtain rfl : r21 = jWB lt bt w sx L := hw20
            refine z_bri (z_runS (As := [.int sd, .int v, .int (jWB lt bt w sx L)]) (rest := []) ⟨hx, hb, hml, hown, hts⟩ (c_X1_better (sd := sd) (x := v) (y := jWB lt bt w sx L) _) (va_cwS 3 hts gX1_bestByWord_X1_better rfl rfl rfl (by decide +kernel) ⟨Nat.le_of_ble_eq_true rfl, Nat.le_of_ble_eq_true rfl⟩) hK hP hD hN [] rfl rfl rfl hl.1 rfl (Nat.le_of_ble_eq_true rfl) dX1_bestByWord_43 ⟨Nat.zero_le _, Nat.zero_le _⟩) hP hD hS hA [] rfl (fun r24 u25 H locs hw23 hP hS => ?_)
            obtain rfl : r24 = jBetter sd v (jWB lt bt w sx L) := hw23
            refine lv_istore_n (lv' := [(3, .int (jBetter sd v (jWB lt bt w sx L))), (0, .ref o0), (1, .int sd), (2, .int (pI L)), (4, .int (nI sx))]) hx hb dX1_bestByWord_46 rfl hl (by decide) rfl (fun ls hl => ?_)
            refine lv_iinc (v := nI (sx + 1)) (lv' := [(4, .int (nI (sx + 1))), (3, .int (jBetter sd v (jWB lt bt w sx L))), (0, .ref o0), (1, .int sd), (2, .int (pI L))]) hx hb dX1_bestByWord_47 hl (k := 4) rfl (nI_1 sx) (by decide) rfl (fun ls hl => ?_)
            refine lv_goto (tgt := 17) hx hb dX1_bestByWord_50 (by decide) ?_
            exact ih14 (sx + 1) (jBetter sd v (jWB lt bt w sx L)) (by omega) (by first | assumption | omega) (by clear hret hl hS hD hP hK hA hN hts hx hb hr hml hown hlocks  ih14; rw [jBy]; simp_all) _ _ _ hP hD hS (lv_sub hl [2, 3, 4, 1, 0] rfl)
    exact L17 6 0 (-1000) (by omega) (by first | assumption | omega) (by clear hret hl hS hD hP hK hA hN hts hx hb hr hml hown hlocks  L17; simp_all [jBy]) _ _ _ hP hD hS (lv_sub hl [2, 3, 4, 1, 0] rfl)
abbrev rm_c_X1_weighBreath : Room := { frames := 3, cells := 0, slots := 0, locals := 68 }
set_option maxHeartbeats 1000000 in
set_option maxRecDepth 20000 in
theorem c_X1_weighBreath {l : Launch} {D : va_G} {cA : ClassId} {o0 : Nat} {b0 : Nat} {t0 : Nat} {aL : Nat} {aB : Nat} {aS : Nat} {aW : Nat} {aE : Nat} {aY : Nat} {aZ : Nat} {aF : Nat} {qk : Nat} {qs : Nat} {N : Nat} {pt : Int32} {sf : Nat → Int32} {lt : Nat → Int32} {bt : Nat → Int32} {w : Nat → Int32} {we : Nat → Int32} {sd : Int32} (h5 : N ≤ 5) : zMv l yX1_weighBreath wsX1_weighBreath rm_c_X1_weighBreath D cA [(o0, .inr (1, [.ref b0, .ref t0, .ref aL, .ref aB, .ref aS, .ref aW, .ref aE, .ref aY, .ref aZ, .ref aF])), (b0, .inr (0, [.ref qk, .ref qs, .int (nI N), .int pt])), (qs, .inl (cA, 5, .inl sf)), (aL, .inl (cA, 35, .inl lt)), (aB, .inl (cA, 35, .inl bt)), (aW, .inl (cA, 42, .inl w)), (aE, .inl (cA, 42, .inl we))] [.ref o0, .int sd] (fun (_ : Unit) => True) (fun (_ : Unit) => [(o0, .inr (1, [.ref b0, .ref t0, .ref aL, .ref aB, .ref aS, .ref aW, .ref aE, .ref aY, .ref aZ, .ref aF])), (b0, .inr (0, [.ref qk, .ref qs, .int (nI N), .int pt])), (qs, .inl (cA, 5, .inl sf)), (aL, .inl (cA, 35, .inl lt)), (aB, .inl (cA, 35, .inl bt)), (aW, .inl (cA, 42, .inl (jWBr N sf lt bt sd w))), (aE, .inl (cA, 42, .inl (jWBr N sf lt bt sd w)))]) := by
  refine z_enterv (cc := cX1_weighBreath) (maxL := 6) (by decide) rfl (Nat.le_of_ble_eq_true rfl) (fun p e s m args below meth c ls A H0 H locs Q hi_ hA hK hP hD hS hl hret => ?_)
  obtain ⟨hx, hb, hr, hml, hown, hts, hlocks, hN⟩ := hi_
  have hl : lv_has ls 6 [(0, .ref o0), (1, .int sd)] := hl
  have hiX1 : ∀ w ∈ wsX10, w ∈ wsX1_weighBreath := by decide +kernel
  refine lv_iconst (v := pI 0) hx hb dX1_weighBreath_0 (by decide) ?_
  refine lv_istore_n (lv' := [(2, .int (pI 0)), (0, .ref o0), (1, .int sd)]) hx hb dX1_weighBreath_1 rfl hl (by decide) rfl (fun ls hl => ?_)
  have L2 : ∀ (n_ : Nat) (L : Nat) (g : Nat → Int32) (hm_ : 8 ≤ L + n_) (hL : L ≤ 7) (hg : ∀ p, p < 6 * L → g p = jWBr N sf lt bt sd w p) (H : Heap) (locs : List Loc) (ls : Array Slot), va_P D vwCl [(o0, .inr (1, [.ref b0, .ref t0, .ref aL, .ref aB, .ref aS, .ref aW, .ref aE, .ref aY, .ref aZ, .ref aF])), (b0, .inr (0, [.ref qk, .ref qs, .int (nI N), .int pt])), (qs, .inl (cA, 5, .inl sf)), (aL, .inl (cA, 35, .inl lt)), (aB, .inl (cA, 35, .inl bt)), (aW, .inl (cA, 42, .inl w)), (aE, .inl (cA, 42, .inl g))] H → va_D A [(o0, .inr (1, [.ref b0, .ref t0, .ref aL, .ref aB, .ref aS, .ref aW, .ref aE, .ref aY, .ref aZ, .ref aF])), (b0, .inr (0, [.ref qk, .ref qs, .int (nI N), .int pt])), (qs, .inl (cA, 5, .inl sf)), (aL, .inl (cA, 35, .inl lt)), (aB, .inl (cA, 35, .inl bt)), (aW, .inl (cA, 42, .inl w)), (aE, .inl (cA, 42, .inl g))] → va_S A H0 H locs → lv_has ls 6 [(0, .ref o0), (1, .int sd), (2, .int (pI L))] → W p l e rm_c_X1_weighBreath s m args below meth c H locs 0 0 Q (F0 m 2 ls []) := by
    intro n_
    induction n_ with
    | zero =>
      intro L g hm_ hL hg
      exact absurd hm_ (by omega)
    | succ n_ ih_ =>
      intro L g hm_ hL hg H locs ls hP hD hS hl
      have ih1 := ih_
      clear ih_
      refine lv_iload_n hx hb dX1_weighBreath_2 rfl (lv_at hl 2 rfl) ?_
      refine lv_iconst (v := 5) hx hb dX1_weighBreath_3 (by decide) ?_
      refine lv_icmp_gt (tgt := 66) hx hb dX1_weighBreath_4 (by decide) (fun c4_2 => ?_) (fun c4_2 => ?_)
      · skip
        have ht_ : L = 7 := by have := (pI_7 L (by omega)).mp c4_2; omega
        refine lv_aload_n hx hb dX1_weighBreath_66 rfl (lv_at hl 0 rfl) ?_
        refine va_get (D := D) (ci := 1) (v := .ref aE) (C := RX1) (T := TX1) (N := 10) hx hb hts hiX1 hown hK hP 0 rfl rfl 6 (by decide) (hts (.fieldLink RX1 24 "HeardSecond$Outlook" "earlierWorths" "[I") (by decide +kernel)) (fun _ h9 => h9) rfl dX1_weighBreath_67 ?_
        refine lv_aload_n hx hb dX1_weighBreath_70 rfl (lv_at hl 0 rfl) ?_
        refine va_get (D := D) (ci := 1) (v := .ref aW) (C := RX1) (T := TX1) (N := 10) hx hb hts hiX1 hown hK hP 0 rfl rfl 5 (by decide) (hts (.fieldLink RX1 21 "HeardSecond$Outlook" "worths" "[I") (by decide +kernel)) (fun _ h9 => h9) rfl dX1_weighBreath_71 ?_
        refine z_bwv (wr := [(o0, .inr (1, [.ref b0, .ref t0, .ref aL, .ref aB, .ref aS, .ref aW, .ref aE, .ref aY, .ref aZ, .ref aF])), (b0, .inr (0, [.ref qk, .ref qs, .int (nI N), .int pt])), (qs, .inl (cA, 5, .inl sf)), (aL, .inl (cA, 35, .inl lt)), (aB, .inl (cA, 35, .inl bt))]) (ws' := fun (_ : Unit) => [(o0, .inr (1, [.ref b0, .ref t0, .ref aL, .ref aB, .ref aS, .ref aW, .ref aE, .ref aY, .ref aZ, .ref aF])), (b0, .inr (0, [.ref qk, .ref qs, .int (nI N), .int pt])), (qs, .inl (cA, 5, .inl sf)), (aL, .inl (cA, 35, .inl lt)), (aB, .inl (cA, 35, .inl bt)), (aW, .inl (cA, 42, .inl g)), (aE, .inl (cA, 42, .inl g))]) (z_runSN (As := [.ref aE, .ref aW]) (rest := []) ⟨hx, hb, hml, hown, hts⟩ (c_X4_copy (n := 42) (q := aE) (q2 := aW) (f := g) (f2 := w) (by first | assumption | omega) _) (va_cnB (own := RX1) (host := "HeardSecond") (index := 126) 2 hts ggX1_weighBreath_X4_copy rfl rfl rfl (hN.get 32 rfl) (hts (.initialized RX4) (by decide +kernel)) (by decide +kernel) ⟨Nat.le_of_ble_eq_true rfl, Nat.le_of_ble_eq_true rfl⟩) (hts (.static yX4_copy) (by decide +kernel)) hK hP hD hN [6, 5] rfl rfl rfl hl.1 rfl (Nat.le_of_ble_eq_true rfl) dX1_weighBreath_74 ⟨Nat.zero_le _, Nat.zero_le _⟩) hP hD hS hA [6, 5] [0, 1, 2, 3, 4] [0, 1, 2, 3, 4, 6, 5] rfl rfl rfl (by decide) rfl (fun _ => rfl) (fun u5 H locs hw3 hP hD hS => ?_)
        have hP : va_P D vwCl [(o0, .inr (1, [.ref b0, .ref t0, .ref aL, .ref aB, .ref aS, .ref aW, .ref aE, .ref aY, .ref aZ, .ref aF])), (b0, .inr (0, [.ref qk, .ref qs, .int (nI N), .int pt])), (qs, .inl (cA, 5, .inl sf)), (aL, .inl (cA, 35, .inl lt)), (aB, .inl (cA, 35, .inl bt)), (aW, .inl (cA, 42, .inl g)), (aE, .inl (cA, 42, .inl g))] H := hP
        have hD : va_D A [(o0, .inr (1, [.ref b0, .ref t0, .ref aL, .ref aB, .ref aS, .ref aW, .ref aE, .ref aY, .ref aZ, .ref aF])), (b0, .inr (0, [.ref qk, .ref qs, .int (nI N), .int pt])), (qs, .inl (cA, 5, .inl sf)), (aL, .inl (cA, 35, .inl lt)), (aB, .inl (cA, 35, .inl bt)), (aW, .inl (cA, 42, .inl g)), (aE, .inl (cA, 42, .inl g))] := hD
        -- path 1
        have hP : va_P D vwCl [(o0, .inr (1, [.ref b0, .ref t0, .ref aL, .ref aB, .ref aS, .ref aW, .ref aE, .ref aY, .ref aZ, .ref aF])), (b0, .inr (0, [.ref qk, .ref qs, .int (nI N), .int pt])), (qs, .inl (cA, 5, .inl sf)), (aL, .inl (cA, 35, .inl lt)), (aB, .inl (cA, 35, .inl bt)), (aW, .inl (cA, 42, .inl (jWBr N sf lt bt sd w))), (aE, .inl (cA, 42, .inl g))] H := z_arrP hP 5 (g := (jWBr N sf lt bt sd w)) rfl (by clear hret hl hS hD hP hK hA hN hts hx hb hr hml hown hlocks hiX1 ih1; intro p hp; exact hg p (by omega)) rfl
        have hD : va_D A [(o0, .inr (1, [.ref b0, .ref t0, .ref aL, .ref aB, .ref aS, .ref aW, .ref aE, .ref aY, .ref aZ, .ref aF])), (b0, .inr (0, [.ref qk, .ref qs, .int (nI N), .int pt])), (qs, .inl (cA, 5, .inl sf)), (aL, .inl (cA, 35, .inl lt)), (aB, .inl (cA, 35, .inl bt)), (aW, .inl (cA, 42, .inl (jWBr N sf lt bt sd w))), (aE, .inl (cA, 42, .inl g))] := z_arrD hD 5 rfl rfl
        have hP : va_P D vwCl [(o0, .inr (1, [.ref b0, .ref t0, .ref aL, .ref aB, .ref aS, .ref aW, .ref aE, .ref aY, .ref aZ, .ref aF])), (b0, .inr (0, [.ref qk, .ref qs, .int (nI N), .int pt])), (qs, .inl (cA, 5, .inl sf)), (aL, .inl (cA, 35, .inl lt)), (aB, .inl (cA, 35, .inl bt)), (aW, .inl (cA, 42, .inl (jWBr N sf lt bt sd w))), (aE, .inl (cA, 42, .inl (jWBr N sf lt bt sd w)))] H := z_arrP hP 6 (g := (jWBr N sf lt bt sd w)) rfl (by clear hret hl hS hD hP hK hA hN hts hx hb hr hml hown hlocks hiX1 ih1; intro p hp; exact hg p (by omega)) rfl
        have hD : va_D A [(o0, .inr (1, [.ref b0, .ref t0, .ref aL, .ref aB, .ref aS, .ref aW, .ref aE, .ref aY, .ref aZ, .ref aF])), (b0, .inr (0, [.ref qk, .ref qs, .int (nI N), .int pt])), (qs, .inl (cA, 5, .inl sf)), (aL, .inl (cA, 35, .inl lt)), (aB, .inl (cA, 35, .inl bt)), (aW, .inl (cA, 42, .inl (jWBr N sf lt bt sd w))), (aE, .inl (cA, 42, .inl (jWBr N sf lt bt sd w)))] := z_arrD hD 6 rfl rfl
        exact hret () _ _ _ _ dX1_weighBreath_77 (by trivial) hP hD hS
      · skip
        have hltL : L < 7 := Nat.lt_of_not_le (fun q_ => c4_2 ((pI_7 L (by omega)).mpr q_))
        refine lv_aload_n hx hb dX1_weighBreath_7 rfl (lv_at hl 0 rfl) ?_
        refine lv_iload_n hx hb dX1_weighBreath_8 rfl (lv_at hl 1 rfl) ?_
        refine lv_iload_n hx hb dX1_weighBreath_9 rfl (lv_at hl 2 rfl) ?_
        refine z_bri (z_runV (As := [.int sd, .int (pI L)]) (rest := []) (ci := 1) ⟨hx, hb, hml, hown, hts⟩ (c_X1_bestByWord (o0 := o0) (b0 := b0) (t0 := t0) (aL := aL) (aB := aB) (aS := aS) (aW := aW) (aE := aE) (aY := aY) (aZ := aZ) (aF := aF) (qk := qk) (qs := qs) (N := N) (pt := pt) (sf := sf) (lt := lt) (bt := bt) (w := w) (L := L) (sd := sd) (by first | assumption | omega) (by first | assumption | omega) _) (cwV 2 hts gX1_weighBreath_X1_bestByWord rfl rfl rfl (by decide +kernel) ⟨Nat.le_of_ble_eq_true rfl, Nat.le_of_ble_eq_true rfl⟩) hK hP hD hN [0, 1, 2, 3, 4, 5] rfl rfl rfl rfl rfl hl.1 rfl (Nat.le_of_ble_eq_true rfl) dX1_weighBreath_10 ⟨Nat.zero_le _, Nat.zero_le _⟩) hP hD hS hA [0, 1, 2, 3, 4, 5] rfl (fun r7 u8 H locs hw6 hP hS => ?_)
        obtain rfl : r7 = jBy N sf lt bt w sd L 5 := hw6
        refine lv_istore_n (lv' := [(3, .int (jBy N sf lt bt w sd L 5)), (0, .ref o0), (1, .int sd), (2, .int (pI L))]) hx hb dX1_weighBreath_13 rfl hl (by decide) rfl (fun ls hl => ?_)
        refine lv_iconst (v := pI 0) hx hb dX1_weighBreath_14 (by decide) ?_
        refine lv_istore (lv' := [(4, .int (pI 0)), (3, .int (jBy N sf lt bt w sd L 5)), (0, .ref o0), (1, .int sd), (2, .int (pI L))]) hx hb dX1_weighBreath_15 hl (by decide) rfl (fun ls hl => ?_)
        have L17 : ∀ (n_ : Nat) (B : Nat) (k : Nat → Int32) (hm_ : 7 ≤ B + n_) (hB : B ≤ 6) (hk : ∀ p, p < 6 * L + B → k p = jWBr N sf lt bt sd w p) (H : Heap) (locs : List Loc) (ls : Array Slot), va_P D vwCl [(o0, .inr (1, [.ref b0, .ref t0, .ref aL, .ref aB, .ref aS, .ref aW, .ref aE, .ref aY, .ref aZ, .ref aF])), (b0, .inr (0, [.ref qk, .ref qs, .int (nI N), .int pt])), (qs, .inl (cA, 5, .inl sf)), (aL, .inl (cA, 35, .inl lt)), (aB, .inl (cA, 35, .inl bt)), (aW, .inl (cA, 42, .inl w)), (aE, .inl (cA, 42, .inl k))] H → va_D A [(o0, .inr (1, [.ref b0, .ref t0, .ref aL, .ref aB, .ref aS, .ref aW, .ref aE, .ref aY, .ref aZ, .ref aF])), (b0, .inr (0, [.ref qk, .ref qs, .int (nI N), .int pt])), (qs, .inl (cA, 5, .inl sf)), (aL, .inl (cA, 35, .inl lt)), (aB, .inl (cA, 35, .inl bt)), (aW, .inl (cA, 42, .inl w)), (aE, .inl (cA, 42, .inl k))] → va_S A H0 H locs → lv_has ls 6 [(0, .ref o0), (1, .int sd), (2, .int (pI L)), (3, .int (jBy N sf lt bt w sd L 5)), (4, .int (pI B))] → W p l e rm_c_X1_weighBreath s m args below meth c H locs 0 0 Q (F0 m 17 ls []) := by
          intro n_
          induction n_ with
          | zero =>
            intro B k hm_ hB hk
            exact absurd hm_ (by omega)
          | succ n_ ih_ =>
            intro B k hm_ hB hk H locs ls hP hD hS hl
            have ih9 := ih_
            clear ih_
            refine lv_iload hx hb dX1_weighBreath_17 (lv_at hl 4 rfl) ?_
            refine lv_iconst (v := 5) hx hb dX1_weighBreath_19 (by decide) ?_
            refine lv_icmp_ge (tgt := 60) hx hb dX1_weighBreath_20 (by decide) (fun c20_10 => ?_) (fun c20_10 => ?_)
            · skip
              have ht_ : B = 6 := by have := (pI_6 B (by omega)).mp c20_10; omega
              refine lv_iinc (v := pI (L + 1)) (lv' := [(2, .int (pI (L + 1))), (0, .ref o0), (1, .int sd), (3, .int (jBy N sf lt bt w sd L 5)), (4, .int (pI B))]) hx hb dX1_weighBreath_60 hl (k := 2) rfl (pI_1 L) (by decide) rfl (fun ls hl => ?_)
              refine lv_goto (tgt := 2) hx hb dX1_weighBreath_63 (by decide) ?_
              exact ih1 (L + 1) k (by omega) (by first | assumption | omega) (by clear hret hl hS hD hP hK hA hN hts hx hb hr hml hown hlocks hiX1 ih1 ih9; intro p hp; exact hk p (by omega)) _ _ _ hP hD hS (lv_sub hl [1, 2, 0] rfl)
            · skip
              have hltB : B < 6 := Nat.lt_of_not_le (fun q_ => c20_10 ((pI_6 B (by omega)).mpr q_))
              refine lv_iload_n hx hb dX1_weighBreath_23 rfl (lv_at hl 2 rfl) ?_
              refine lv_iload hx hb dX1_weighBreath_24 (lv_at hl 4 rfl) ?_
              refine z_bri (z_runS (As := [.int (pI L), .int (pI B)]) (rest := []) ⟨hx, hb, hml, hown, hts⟩ (c_X1_worthPlace (x := pI L) (y := pI B) _) (va_cwS 2 hts gX1_weighBreath_X1_worthPlace rfl rfl rfl (by decide +kernel) ⟨Nat.le_of_ble_eq_true rfl, Nat.le_of_ble_eq_true rfl⟩) hK hP hD hN [] rfl rfl rfl hl.1 rfl (Nat.le_of_ble_eq_true rfl) dX1_weighBreath_26 ⟨Nat.zero_le _, Nat.zero_le _⟩) hP hD hS hA [] rfl (fun r12 u13 H locs hw11 hP hS => ?_)
              obtain rfl : r12 = ((pI L) + 1) * 6 + (pI B) + 1 := hw11
              refine z_top (y := nI (6 * L + B)) (op_eq L B) ?_
              refine lv_istore (lv' := [(5, .int (nI (6 * L + B))), (0, .ref o0), (1, .int sd), (2, .int (pI L)), (3, .int (jBy N sf lt bt w sd L 5)), (4, .int (pI B))]) hx hb dX1_weighBreath_29 hl (by decide) rfl (fun ls hl => ?_)
              refine lv_aload_n hx hb dX1_weighBreath_31 rfl (lv_at hl 1 rfl) ?_
              refine va_get (D := D) (ci := 1) (v := .ref aE) (C := RX1) (T := TX1) (N := 10) hx hb hts hiX1 hown hK hP 0 rfl rfl 6 (by decide) (hts (.fieldLink RX1 24 "HeardSecond$Outlook" "earlierWorths" "[I") (by decide +kernel)) (fun _ h9 => h9) rfl dX1_weighBreath_32 ?_
              refine lv_iload hx hb dX1_weighBreath_35 (lv_at hl 0 rfl) ?_
              refine lv_iload_n hx hb dX1_weighBreath_37 rfl (lv_at hl 2 rfl) ?_
              refine lv_aload_n hx hb dX1_weighBreath_38 rfl (lv_at hl 1 rfl) ?_
              refine va_get (D := D) (ci := 1) (v := .ref aW) (C := RX1) (T := TX1) (N := 10) hx hb hts hiX1 hown hK hP 0 rfl rfl 5 (by decide) (hts (.fieldLink RX1 21 "HeardSecond$Outlook" "worths" "[I") (by decide +kernel)) (fun _ h9 => h9) rfl dX1_weighBreath_39 ?_
              refine lv_iload hx hb dX1_weighBreath_42 (lv_at hl 0 rfl) ?_
              refine z_bri (z_runSN (As := [.ref aW, .int (nI (6 * L + B))]) (rest := [.int sd, .int (nI (6 * L + B)), .ref aE]) ⟨hx, hb, hml, hown, hts⟩ (c_X4_at (n := 42) (q := aW) (f := w) (x := nI (6 * L + B)) (by first | assumption | omega) _) (va_cnB (own := RX1) (host := "HeardSecond") (index := 93) 2 hts ggX1_weighBreath_X4_at rfl rfl rfl (hN.get 28 rfl) (hts (.initialized RX4) (by decide +kernel)) (by decide +kernel) ⟨Nat.le_of_ble_eq_true rfl, Nat.le_of_ble_eq_true rfl⟩) (hts (.static yX4_at) (by decide +kernel)) hK hP hD hN [5] rfl rfl rfl hl.1 rfl (Nat.le_of_ble_eq_true rfl) dX1_weighBreath_44 ⟨Nat.zero_le _, Nat.zero_le _⟩) hP hD hS hA [5] rfl (fun r15 u16 H locs hw14 hP hS => ?_)
              obtain rfl : r15 = jAt 42 w (nI (6 * L + B)) := hw14
              refine z_top (y := w (6 * L + B)) (jAt_nI (by omega) (by decide)) ?_
              refine lv_iload_n hx hb dX1_weighBreath_47 rfl (lv_at hl 4 rfl) ?_
              refine z_bri (z_runS (As := [.int sd, .int (w (6 * L + B)), .int (jBy N sf lt bt w sd L 5)]) (rest := [.int (nI (6 * L + B)), .ref aE]) ⟨hx, hb, hml, hown, hts⟩ (c_X1_better (sd := sd) (x := w (6 * L + B)) (y := jBy N sf lt bt w sd L 5) _) (va_cwS 3 hts gX1_weighBreath_X1_better rfl rfl rfl (by decide +kernel) ⟨Nat.le_of_ble_eq_true rfl, Nat.le_of_ble_eq_true rfl⟩) hK hP hD hN [] rfl rfl rfl hl.1 rfl (Nat.le_of_ble_eq_true rfl) dX1_weighBreath_48 ⟨Nat.zero_le _, Nat.zero_le _⟩) hP hD hS hA [] rfl (fun r18 u19 H locs hw17 hP hS => ?_)
              obtain rfl : r18 = jBetter sd (w (6 * L + B)) (jBy N sf lt bt w sd L 5) := hw17
              refine z_bwv (wr := [(o0, .inr (1, [.ref b0, .ref t0, .ref aL, .ref aB, .ref aS, .ref aW, .ref aE, .ref aY, .ref aZ, .ref aF])), (b0, .inr (0, [.ref qk, .ref qs, .int (nI N), .int pt])), (qs, .inl (cA, 5, .inl sf)), (aL, .inl (cA, 35, .inl lt)), (aB, .inl (cA, 35, .inl bt)), (aW, .inl (cA, 42, .inl w))]) (ws' := fun (_ : Unit) => [(o0, .inr (1, [.ref b0, .ref t0, .ref aL, .ref aB, .ref aS, .ref aW, .ref aE, .ref aY, .ref aZ, .ref aF])), (b0, .inr (0, [.ref qk, .ref qs, .int (nI N), .int pt])), (qs, .inl (cA, 5, .inl sf)), (aL, .inl (cA, 35, .inl lt)), (aB, .inl (cA, 35, .inl bt)), (aW, .inl (cA, 42, .inl w)), (aE, .inl (cA, 42, .inl (jPut 42 k (nI (6 * L + B)) (jBetter sd (w (6 * L + B)) (jBy N sf lt bt w sd L 5)))))]) (z_runSN (As := [.ref aE, .int (nI (6 * L + B)), .int (jBetter sd (w (6 * L + B)) (jBy N sf lt bt w sd L 5))]) (rest := []) ⟨hx, hb, hml, hown, hts⟩ (c_X4_put (n := 42) (q := aE) (f := k) (x := nI (6 * L + B)) (v := jBetter sd (w (6 * L + B)) (jBy N sf lt bt w sd L 5)) (by first | assumption | omega) _) (va_cnB (own := RX1) (host := "HeardSecond") (index := 64) 3 hts ggX1_weighBreath_X4_put rfl rfl rfl (hN.get 26 rfl) (hts (.initialized RX4) (by decide +kernel)) (by decide +kernel) ⟨Nat.le_of_ble_eq_true rfl, Nat.le_of_ble_eq_true rfl⟩) (hts (.static yX4_put) (by decide +kernel)) hK hP hD hN [6] rfl rfl rfl hl.1 rfl (Nat.le_of_ble_eq_true rfl) dX1_weighBreath_51 ⟨Nat.zero_le _, Nat.zero_le _⟩) hP hD hS hA [6] [0, 1, 2, 3, 4, 5] [0, 1, 2, 3, 4, 5, 6] rfl rfl rfl (by decide) rfl (fun _ => rfl) (fun u22 H locs hw20 hP hD hS => ?_)
              have hP : va_P D vwCl [(o0, .inr (1, [.ref b0, .ref t0, .ref aL, .ref aB, .ref aS, .ref aW, .ref aE, .ref aY, .ref aZ, .ref aF])), (b0, .inr (0, [.ref qk, .ref qs, .int (nI N), .int pt])), (qs, .inl (cA, 5, .inl sf)), (aL, .inl (cA, 35, .inl lt)), (aB, .inl (cA, 35, .inl bt)), (aW, .inl (cA, 42, .inl w)), (aE, .inl (cA, 42, .inl (jPut 42 k (nI (6 * L + B)) (jBetter sd (w (6 * L + B)) (jBy N sf lt bt w sd L 5)))))] H := hP
              have hD : va_D A [(o0, .inr (1, [.ref b0, .ref t0, .ref aL, .ref aB, .ref aS, .ref aW, .ref aE, .ref aY, .ref aZ, .ref aF])), (b0, .inr (0, [.ref qk, .ref qs, .int (nI N), .int pt])), (qs, .inl (cA, 5, .inl sf)), (aL, .inl (cA, 35, .inl lt)), (aB, .inl (cA, 35, .inl bt)), (aW, .inl (cA, 42, .inl w)), (aE, .inl (cA, 42, .inl (jPut 42 k (nI (6 * L + B)) (jBetter sd (w (6 * L + B)) (jBy N sf lt bt w sd L 5)))))] := hD
              refine lv_iinc (v := pI (B + 1)) (lv' := [(4, .int (pI (B + 1))), (5, .int (nI (6 * L + B))), (0, .ref o0), (1, .int sd), (2, .int (pI L)), (3, .int (jBy N sf lt bt w sd L 5))]) hx hb dX1_weighBreath_54 hl (k := 5) rfl (pI_1 B) (by decide) rfl (fun ls hl => ?_)
              refine lv_goto (tgt := 17) hx hb dX1_weighBreath_57 (by decide) ?_
              exact ih9 (B + 1) (jPut 42 k (nI (6 * L + B)) (jBetter sd (w (6 * L + B)) (jBy N sf lt bt w sd L 5))) (by omega) (by first | assumption | omega) (by clear hret hl hS hD hP hK hA hN hts hx hb hr hml hown hlocks hiX1 ih1 ih9; intro p hp; exact z_fs (k := 6 * L + B) (by omega) (by decide) hk (by rw [jWBr, show (6 * L + B) / 6 = L from by omega]) p (by omega)) _ _ _ hP hD hS (lv_sub hl [2, 3, 4, 5, 0] rfl)
        exact L17 7 0 g (by omega) (by first | assumption | omega) (by clear hret hl hS hD hP hK hA hN hts hx hb hr hml hown hlocks hiX1 ih1 L17; intro p hp; exact hg p (by omega)) _ _ _ hP hD hS (lv_sub hl [2, 3, 4, 1, 0] rfl)
  exact L2 8 0 we (by omega) (by first | assumption | omega) (by clear hret hl hS hD hP hK hA hN hts hx hb hr hml hown hlocks hiX1 L2; intro p hp; omega) _ _ _ hP hD hS (lv_sub hl [1, 2, 0] rfl)
abbrev rm_c_X1_weighReplies : Room := { frames := 4, cells := 0, slots := 0, locals := 93 }
set_option maxHeartbeats 1000000 in
set_option maxRecDepth 20000 in
theorem c_X1_weighReplies {l : Launch} {D : va_G} {cA : ClassId} {o0 : Nat} {b0 : Nat} {t0 : Nat} {aL : Nat} {aB : Nat} {aS : Nat} {aW : Nat} {aE : Nat} {aY : Nat} {aZ : Nat} {aF : Nat} {qk : Nat} {qs : Nat} {N : Nat} {pt : Int32} {kf : Nat → Int32} {sf : Nat → Int32} {wd : Nat} {tw : Nat} {ts : Nat} {la : Int32} {be : Int32} {ou : Int32} {si : Int32} {en : Int32} {w0 : Int32} {w1 : Int32} {br : Int32} {td : Int32} {lt : Nat → Int32} {bt : Nat → Int32} {w : Nat → Int32} {we : Nat → Int32} {b : Nat} (h5 : N ≤ 5) (hb1 : 1 ≤ b) (hb6 : b ≤ 6) : zMv l yX1_weighReplies wsX1_weighReplies rm_c_X1_weighReplies D cA [(o0, .inr (1, [.ref b0, .ref t0, .ref aL, .ref aB, .ref aS, .ref aW, .ref aE, .ref aY, .ref aZ, .ref aF])), (b0, .inr (0, [.ref qk, .ref qs, .int (nI N), .int pt])), (qk, .inl (cA, 5, .inl kf)), (qs, .inl (cA, 5, .inl sf)), (t0, .inr (3, [.int la, .int be, .int ou, .int si, .int en, .int w0, .int w1, .int br, .ref wd, .int td, .ref tw, .ref ts])), (aL, .inl (cA, 35, .inl lt)), (aB, .inl (cA, 35, .inl bt)), (aW, .inl (cA, 42, .inl w)), (aE, .inl (cA, 42, .inl we))] [.ref o0, .int (nI b)] (fun (u : Nat → Int32) => True) (fun (u : Nat → Int32) => [(o0, .inr (1, [.ref b0, .ref t0, .ref aL, .ref aB, .ref aS, .ref aW, .ref aE, .ref aY, .ref aZ, .ref aF])), (b0, .inr (0, [.ref qk, .ref qs, .int (nI N), .int pt])), (qk, .inl (cA, 5, .inl kf)), (qs, .inl (cA, 5, .inl sf)), (t0, .inr (3, [.int la, .int be, .int ou, .int si, .int en, .int w0, .int w1, .int br, .ref wd, .int td, .ref tw, .ref ts])), (aL, .inl (cA, 35, .inl (jLT N kf ou))), (aB, .inl (cA, 35, .inl (jBT N kf ou))), (aW, .inl (cA, 42, .inl (jWeigh N sf (jLT N kf ou) (jBT N kf ou) (b - 1) 1))), (aE, .inl (cA, 42, .inl u))]) := by
  refine z_enterv (cc := cX1_weighReplies) (maxL := 4) (by decide) rfl (Nat.le_of_ble_eq_true rfl) (fun p e s m args below meth c ls A H0 H locs Q hi_ hA hK hP hD hS hl hret => ?_)
  obtain ⟨hx, hb, hr, hml, hown, hts, hlocks, hN⟩ := hi_
  have hl : lv_has ls 4 [(0, .ref o0), (1, .int (nI b))] := hl
  have hiX1 : ∀ w ∈ wsX10, w ∈ wsX1_weighReplies := by decide +kernel
  refine lv_aload_n hx hb dX1_weighReplies_0 rfl (lv_at hl 0 rfl) ?_
  refine z_bwv (wr := [(qs, .inl (cA, 5, .inl sf)), (aW, .inl (cA, 42, .inl w)), (aE, .inl (cA, 42, .inl we))]) (ws' := fun (_ : Unit) => [(o0, .inr (1, [.ref b0, .ref t0, .ref aL, .ref aB, .ref aS, .ref aW, .ref aE, .ref aY, .ref aZ, .ref aF])), (b0, .inr (0, [.ref qk, .ref qs, .int (nI N), .int pt])), (qk, .inl (cA, 5, .inl kf)), (qs, .inl (cA, 5, .inl sf)), (t0, .inr (3, [.int la, .int be, .int ou, .int si, .int en, .int w0, .int w1, .int br, .ref wd, .int td, .ref tw, .ref ts])), (aL, .inl (cA, 35, .inl (jLT N kf ou))), (aB, .inl (cA, 35, .inl (jBT N kf ou))), (aW, .inl (cA, 42, .inl w)), (aE, .inl (cA, 42, .inl we))]) (z_runV (As := []) (rest := []) (ci := 1) ⟨hx, hb, hml, hown, hts⟩ (c_X1_tableWords (o0 := o0) (b0 := b0) (t0 := t0) (aL := aL) (aB := aB) (aS := aS) (aW := aW) (aE := aE) (aY := aY) (aZ := aZ) (aF := aF) (qk := qk) (qs := qs) (N := N) (pt := pt) (kf := kf) (wd := wd) (tw := tw) (ts := ts) (la := la) (be := be) (ou := ou) (si := si) (en := en) (w0 := w0) (w1 := w1) (br := br) (td := td) (lt := lt) (bt := bt) (by first | assumption | omega) _) (cwV 0 hts gX1_weighReplies_X1_tableWords rfl rfl rfl (by decide +kernel) ⟨Nat.le_of_ble_eq_true rfl, Nat.le_of_ble_eq_true rfl⟩) hK hP hD hN [0, 1, 2, 4, 5, 6] rfl rfl rfl rfl rfl hl.1 rfl (Nat.le_of_ble_eq_true rfl) dX1_weighReplies_1 ⟨Nat.zero_le _, Nat.zero_le _⟩) hP hD hS hA [0, 1, 2, 4, 5, 6] [3, 7, 8] [3, 4, 5, 0, 6, 7, 8, 1, 2] rfl rfl rfl (by decide) rfl (fun _ => rfl) (fun u3 H locs hw1 hP hD hS => ?_)
  have hP : va_P D vwCl [(o0, .inr (1, [.ref b0, .ref t0, .ref aL, .ref aB, .ref aS, .ref aW, .ref aE, .ref aY, .ref aZ, .ref aF])), (b0, .inr (0, [.ref qk, .ref qs, .int (nI N), .int pt])), (qk, .inl (cA, 5, .inl kf)), (qs, .inl (cA, 5, .inl sf)), (t0, .inr (3, [.int la, .int be, .int ou, .int si, .int en, .int w0, .int w1, .int br, .ref wd, .int td, .ref tw, .ref ts])), (aL, .inl (cA, 35, .inl (jLT N kf ou))), (aB, .inl (cA, 35, .inl (jBT N kf ou))), (aW, .inl (cA, 42, .inl w)), (aE, .inl (cA, 42, .inl we))] H := hP
  have hD : va_D A [(o0, .inr (1, [.ref b0, .ref t0, .ref aL, .ref aB, .ref aS, .ref aW, .ref aE, .ref aY, .ref aZ, .ref aF])), (b0, .inr (0, [.ref qk, .ref qs, .int (nI N), .int pt])), (qk, .inl (cA, 5, .inl kf)), (qs, .inl (cA, 5, .inl sf)), (t0, .inr (3, [.int la, .int be, .int ou, .int si, .int en, .int w0, .int w1, .int br, .ref wd, .int td, .ref tw, .ref ts])), (aL, .inl (cA, 35, .inl (jLT N kf ou))), (aB, .inl (cA, 35, .inl (jBT N kf ou))), (aW, .inl (cA, 42, .inl w)), (aE, .inl (cA, 42, .inl we))] := hD
  refine lv_iconst (v := pI 0) hx hb dX1_weighReplies_4 (by decide) ?_
  refine lv_istore_n (lv' := [(2, .int (pI 0)), (0, .ref o0), (1, .int (nI b))]) hx hb dX1_weighReplies_5 rfl hl (by decide) rfl (fun ls hl => ?_)
  have L6 : ∀ (n_ : Nat) (L : Nat) (g : Nat → Int32) (hm_ : 8 ≤ L + n_) (hL : L ≤ 7) (hg : ∀ p, p < 6 * L → g p = jEnd N sf p) (H : Heap) (locs : List Loc) (ls : Array Slot), va_P D vwCl [(o0, .inr (1, [.ref b0, .ref t0, .ref aL, .ref aB, .ref aS, .ref aW, .ref aE, .ref aY, .ref aZ, .ref aF])), (b0, .inr (0, [.ref qk, .ref qs, .int (nI N), .int pt])), (qk, .inl (cA, 5, .inl kf)), (qs, .inl (cA, 5, .inl sf)), (t0, .inr (3, [.int la, .int be, .int ou, .int si, .int en, .int w0, .int w1, .int br, .ref wd, .int td, .ref tw, .ref ts])), (aL, .inl (cA, 35, .inl (jLT N kf ou))), (aB, .inl (cA, 35, .inl (jBT N kf ou))), (aW, .inl (cA, 42, .inl g)), (aE, .inl (cA, 42, .inl we))] H → va_D A [(o0, .inr (1, [.ref b0, .ref t0, .ref aL, .ref aB, .ref aS, .ref aW, .ref aE, .ref aY, .ref aZ, .ref aF])), (b0, .inr (0, [.ref qk, .ref qs, .int (nI N), .int pt])), (qk, .inl (cA, 5, .inl kf)), (qs, .inl (cA, 5, .inl sf)), (t0, .inr (3, [.int la, .int be, .int ou, .int si, .int en, .int w0, .int w1, .int br, .ref wd, .int td, .ref tw, .ref ts])), (aL, .inl (cA, 35, .inl (jLT N kf ou))), (aB, .inl (cA, 35, .inl (jBT N kf ou))), (aW, .inl (cA, 42, .inl g)), (aE, .inl (cA, 42, .inl we))] → va_S A H0 H locs → lv_has ls 4 [(0, .ref o0), (1, .int (nI b)), (2, .int (pI L))] → W p l e rm_c_X1_weighReplies s m args below meth c H locs 0 0 Q (F0 m 6 ls []) := by
    intro n_
    induction n_ with
    | zero =>
      intro L g hm_ hL hg
      exact absurd hm_ (by omega)
    | succ n_ ih_ =>
      intro L g hm_ hL hg H locs ls hP hD hS hl
      have ih4 := ih_
      clear ih_
      refine lv_iload_n hx hb dX1_weighReplies_6 rfl (lv_at hl 2 rfl) ?_
      refine lv_iconst (v := 5) hx hb dX1_weighReplies_7 (by decide) ?_
      refine lv_icmp_gt (tgt := 47) hx hb dX1_weighReplies_8 (by decide) (fun c8_5 => ?_) (fun c8_5 => ?_)
      · skip
        have ht_ : L = 7 := by have := (pI_7 L (by omega)).mp c8_5; omega
        refine lv_iload_n hx hb dX1_weighReplies_47 rfl (lv_at hl 1 rfl) ?_
        refine lv_iconst (v := 1) hx hb dX1_weighReplies_48 (by decide) ?_
        refine lv_isub hx hb dX1_weighReplies_49 ?_
        refine z_top (y := nI (b - 1)) (z_sub (b := 1) (by omega)) ?_
        refine lv_istore_n (lv' := [(2, .int (nI (b - 1))), (0, .ref o0), (1, .int (nI b))]) hx hb dX1_weighReplies_50 rfl hl (by decide) rfl (fun ls hl => ?_)
        have L51 : ∀ (n_ : Nat) (d : Nat) (g2 : Nat → Int32) (e2 : Nat → Int32) (hm_ : d + 1 ≤ n_) (hd : d ≤ b - 1) (hg2 : ∀ p, p < 42 → g2 p = jWeigh N sf (jLT N kf ou) (jBT N kf ou) (b - 1 - d) (d + 1) p) (H : Heap) (locs : List Loc) (ls : Array Slot), va_P D vwCl [(o0, .inr (1, [.ref b0, .ref t0, .ref aL, .ref aB, .ref aS, .ref aW, .ref aE, .ref aY, .ref aZ, .ref aF])), (b0, .inr (0, [.ref qk, .ref qs, .int (nI N), .int pt])), (qk, .inl (cA, 5, .inl kf)), (qs, .inl (cA, 5, .inl sf)), (t0, .inr (3, [.int la, .int be, .int ou, .int si, .int en, .int w0, .int w1, .int br, .ref wd, .int td, .ref tw, .ref ts])), (aL, .inl (cA, 35, .inl (jLT N kf ou))), (aB, .inl (cA, 35, .inl (jBT N kf ou))), (aW, .inl (cA, 42, .inl g2)), (aE, .inl (cA, 42, .inl e2))] H → va_D A [(o0, .inr (1, [.ref b0, .ref t0, .ref aL, .ref aB, .ref aS, .ref aW, .ref aE, .ref aY, .ref aZ, .ref aF])), (b0, .inr (0, [.ref qk, .ref qs, .int (nI N), .int pt])), (qk, .inl (cA, 5, .inl kf)), (qs, .inl (cA, 5, .inl sf)), (t0, .inr (3, [.int la, .int be, .int ou, .int si, .int en, .int w0, .int w1, .int br, .ref wd, .int td, .ref tw, .ref ts])), (aL, .inl (cA, 35, .inl (jLT N kf ou))), (aB, .inl (cA, 35, .inl (jBT N kf ou))), (aW, .inl (cA, 42, .inl g2)), (aE, .inl (cA, 42, .inl e2))] → va_S A H0 H locs → lv_has ls 4 [(0, .ref o0), (1, .int (nI b)), (2, .int (nI d))] → W p l e rm_c_X1_weighReplies s m args below meth c H locs 0 0 Q (F0 m 51 ls []) := by
          intro n_
          induction n_ with
          | zero =>
            intro d g2 e2 hm_ hd hg2
            exact absurd hm_ (by omega)
          | succ n_ ih_ =>
            intro d g2 e2 hm_ hd hg2 H locs ls hP hD hS hl
            have ih6 := ih_
            clear ih_
            refine lv_iload_n hx hb dX1_weighReplies_51 rfl (lv_at hl 2 rfl) ?_
            refine lv_if_le (tgt := 68) hx hb dX1_weighReplies_52 (by decide) (fun c52_7 => ?_) (fun c52_7 => ?_)
            · skip
              have ht_ : d = 0 := by have := (nI_leI (b := 0) (by omega) (by omega)).mp c52_7; omega
              -- path 1
              have hP : va_P D vwCl [(o0, .inr (1, [.ref b0, .ref t0, .ref aL, .ref aB, .ref aS, .ref aW, .ref aE, .ref aY, .ref aZ, .ref aF])), (b0, .inr (0, [.ref qk, .ref qs, .int (nI N), .int pt])), (qk, .inl (cA, 5, .inl kf)), (qs, .inl (cA, 5, .inl sf)), (t0, .inr (3, [.int la, .int be, .int ou, .int si, .int en, .int w0, .int w1, .int br, .ref wd, .int td, .ref tw, .ref ts])), (aL, .inl (cA, 35, .inl (jLT N kf ou))), (aB, .inl (cA, 35, .inl (jBT N kf ou))), (aW, .inl (cA, 42, .inl (jWeigh N sf (jLT N kf ou) (jBT N kf ou) (b - 1) 1))), (aE, .inl (cA, 42, .inl e2))] H := z_arrP hP 7 (g := (jWeigh N sf (jLT N kf ou) (jBT N kf ou) (b - 1) 1)) rfl (by clear hret hl hS hD hP hK hA hN hts hx hb hr hml hown hlocks hiX1 ih4 ih6; intro p hp; rw [hg2 p hp, ht_]; rfl) rfl
              have hD : va_D A [(o0, .inr (1, [.ref b0, .ref t0, .ref aL, .ref aB, .ref aS, .ref aW, .ref aE, .ref aY, .ref aZ, .ref aF])), (b0, .inr (0, [.ref qk, .ref qs, .int (nI N), .int pt])), (qk, .inl (cA, 5, .inl kf)), (qs, .inl (cA, 5, .inl sf)), (t0, .inr (3, [.int la, .int be, .int ou, .int si, .int en, .int w0, .int w1, .int br, .ref wd, .int td, .ref tw, .ref ts])), (aL, .inl (cA, 35, .inl (jLT N kf ou))), (aB, .inl (cA, 35, .inl (jBT N kf ou))), (aW, .inl (cA, 42, .inl (jWeigh N sf (jLT N kf ou) (jBT N kf ou) (b - 1) 1))), (aE, .inl (cA, 42, .inl e2))] := z_arrD hD 7 rfl rfl
              exact hret e2 _ _ _ _ dX1_weighReplies_68 (by trivial) hP hD hS
            · skip
              have hd0 : 0 < d := Nat.lt_of_not_le (fun q_ => c52_7 ((nI_leI (b := 0) (by omega) (by omega)).mpr q_))
              refine lv_aload_n hx hb dX1_weighReplies_55 rfl (lv_at hl 0 rfl) ?_
              refine lv_iload_n hx hb dX1_weighReplies_56 rfl (lv_at hl 2 rfl) ?_
              refine lv_iconst (v := 2) hx hb dX1_weighReplies_57 (by decide) ?_
              refine lv_irem hx hb dX1_weighReplies_58 (by decide) ?_
              refine z_top (y := nI (d % 2)) (z_mod2 d (by omega)) ?_
              refine z_bwv (wr := [(qk, .inl (cA, 5, .inl kf)), (t0, .inr (3, [.int la, .int be, .int ou, .int si, .int en, .int w0, .int w1, .int br, .ref wd, .int td, .ref tw, .ref ts]))]) (ws' := fun (_ : Unit) => [(o0, .inr (1, [.ref b0, .ref t0, .ref aL, .ref aB, .ref aS, .ref aW, .ref aE, .ref aY, .ref aZ, .ref aF])), (b0, .inr (0, [.ref qk, .ref qs, .int (nI N), .int pt])), (qk, .inl (cA, 5, .inl kf)), (qs, .inl (cA, 5, .inl sf)), (t0, .inr (3, [.int la, .int be, .int ou, .int si, .int en, .int w0, .int w1, .int br, .ref wd, .int td, .ref tw, .ref ts])), (aL, .inl (cA, 35, .inl (jLT N kf ou))), (aB, .inl (cA, 35, .inl (jBT N kf ou))), (aW, .inl (cA, 42, .inl (jWBr N sf (jLT N kf ou) (jBT N kf ou) (nI (d % 2)) g2))), (aE, .inl (cA, 42, .inl (jWBr N sf (jLT N kf ou) (jBT N kf ou) (nI (d % 2)) g2)))]) (z_runV (As := [.int (nI (d % 2))]) (rest := []) (ci := 1) ⟨hx, hb, hml, hown, hts⟩ (c_X1_weighBreath (o0 := o0) (b0 := b0) (t0 := t0) (aL := aL) (aB := aB) (aS := aS) (aW := aW) (aE := aE) (aY := aY) (aZ := aZ) (aF := aF) (qk := qk) (qs := qs) (N := N) (pt := pt) (sf := sf) (lt := jLT N kf ou) (bt := jBT N kf ou) (w := g2) (we := e2) (sd := nI (d % 2)) (by first | assumption | omega) _) (cwV 1 hts gX1_weighReplies_X1_weighBreath rfl rfl rfl (by decide +kernel) ⟨Nat.le_of_ble_eq_true rfl, Nat.le_of_ble_eq_true rfl⟩) hK hP hD hN [0, 1, 3, 5, 6, 7, 8] rfl rfl rfl rfl rfl hl.1 rfl (Nat.le_of_ble_eq_true rfl) dX1_weighReplies_59 ⟨Nat.zero_le _, Nat.zero_le _⟩) hP hD hS hA [0, 1, 3, 5, 6, 7, 8] [2, 4] [2, 3, 0, 4, 1, 5, 6, 7, 8] rfl rfl rfl (by decide) rfl (fun _ => rfl) (fun u10 H locs hw8 hP hD hS => ?_)
              have hP : va_P D vwCl [(o0, .inr (1, [.ref b0, .ref t0, .ref aL, .ref aB, .ref aS, .ref aW, .ref aE, .ref aY, .ref aZ, .ref aF])), (b0, .inr (0, [.ref qk, .ref qs, .int (nI N), .int pt])), (qk, .inl (cA, 5, .inl kf)), (qs, .inl (cA, 5, .inl sf)), (t0, .inr (3, [.int la, .int be, .int ou, .int si, .int en, .int w0, .int w1, .int br, .ref wd, .int td, .ref tw, .ref ts])), (aL, .inl (cA, 35, .inl (jLT N kf ou))), (aB, .inl (cA, 35, .inl (jBT N kf ou))), (aW, .inl (cA, 42, .inl (jWBr N sf (jLT N kf ou) (jBT N kf ou) (nI (d % 2)) g2))), (aE, .inl (cA, 42, .inl (jWBr N sf (jLT N kf ou) (jBT N kf ou) (nI (d % 2)) g2)))] H := hP
              have hD : va_D A [(o0, .inr (1, [.ref b0, .ref t0, .ref aL, .ref aB, .ref aS, .ref aW, .ref aE, .ref aY, .ref aZ, .ref aF])), (b0, .inr (0, [.ref qk, .ref qs, .int (nI N), .int pt])), (qk, .inl (cA, 5, .inl kf)), (qs, .inl (cA, 5, .inl sf)), (t0, .inr (3, [.int la, .int be, .int ou, .int si, .int en, .int w0, .int w1, .int br, .ref wd, .int td, .ref tw, .ref ts])), (aL, .inl (cA, 35, .inl (jLT N kf ou))), (aB, .inl (cA, 35, .inl (jBT N kf ou))), (aW, .inl (cA, 42, .inl (jWBr N sf (jLT N kf ou) (jBT N kf ou) (nI (d % 2)) g2))), (aE, .inl (cA, 42, .inl (jWBr N sf (jLT N kf ou) (jBT N kf ou) (nI (d % 2)) g2)))] := hD
              refine lv_iinc (v := nI (d - 1)) (lv' := [(2, .int (nI (d - 1))), (0, .ref o0), (1, .int (nI b))]) hx hb dX1_weighReplies_62 hl (k := 2) rfl (z_dec hd0) (by decide) rfl (fun ls hl => ?_)
              refine lv_goto (tgt := 51) hx hb dX1_weighReplies_65 (by decide) ?_
              exact ih6 (d - 1) (jWBr N sf (jLT N kf ou) (jBT N kf ou) (nI (d % 2)) g2) (jWBr N sf (jLT N kf ou) (jBT N kf ou) (nI (d % 2)) g2) (by omega) (by first | assumption | omega) (by clear hret hl hS hD hP hK hA hN hts hx hb hr hml hown hlocks hiX1 ih4 ih6; intro p hp; rw [show b - 1 - (d - 1) = (b - 1 - d) + 1 from by omega, jWeigh, show d - 1 + 1 = d from by omega]; exact jWBr_congr hg2 p hp) _ _ _ hP hD hS (lv_sub hl [1, 2, 0] rfl)
        exact L51 7 (b - 1) g we (by omega) (by first | assumption | omega) (by clear hret hl hS hD hP hK hA hN hts hx hb hr hml hown hlocks hiX1 ih4 L51; intro p hp; rw [show b - 1 - (b - 1) = 0 from by omega]; exact hg p (by omega)) _ _ _ hP hD hS (lv_sub hl [1, 2, 0] rfl)
      · skip
        have hltL : L < 7 := Nat.lt_of_not_le (fun q_ => c8_5 ((pI_7 L (by omega)).mpr q_))
        refine lv_iconst (v := pI 0) hx hb dX1_weighReplies_11 (by decide) ?_
        refine lv_istore_n (lv' := [(3, .int (pI 0)), (0, .ref o0), (1, .int (nI b)), (2, .int (pI L))]) hx hb dX1_weighReplies_12 rfl hl (by decide) rfl (fun ls hl => ?_)
        have L13 : ∀ (n_ : Nat) (B : Nat) (k : Nat → Int32) (hm_ : 7 ≤ B + n_) (hB : B ≤ 6) (hk : ∀ p, p < 6 * L + B → k p = jEnd N sf p) (H : Heap) (locs : List Loc) (ls : Array Slot), va_P D vwCl [(o0, .inr (1, [.ref b0, .ref t0, .ref aL, .ref aB, .ref aS, .ref aW, .ref aE, .ref aY, .ref aZ, .ref aF])), (b0, .inr (0, [.ref qk, .ref qs, .int (nI N), .int pt])), (qk, .inl (cA, 5, .inl kf)), (qs, .inl (cA, 5, .inl sf)), (t0, .inr (3, [.int la, .int be, .int ou, .int si, .int en, .int w0, .int w1, .int br, .ref wd, .int td, .ref tw, .ref ts])), (aL, .inl (cA, 35, .inl (jLT N kf ou))), (aB, .inl (cA, 35, .inl (jBT N kf ou))), (aW, .inl (cA, 42, .inl k)), (aE, .inl (cA, 42, .inl we))] H → va_D A [(o0, .inr (1, [.ref b0, .ref t0, .ref aL, .ref aB, .ref aS, .ref aW, .ref aE, .ref aY, .ref aZ, .ref aF])), (b0, .inr (0, [.ref qk, .ref qs, .int (nI N), .int pt])), (qk, .inl (cA, 5, .inl kf)), (qs, .inl (cA, 5, .inl sf)), (t0, .inr (3, [.int la, .int be, .int ou, .int si, .int en, .int w0, .int w1, .int br, .ref wd, .int td, .ref tw, .ref ts])), (aL, .inl (cA, 35, .inl (jLT N kf ou))), (aB, .inl (cA, 35, .inl (jBT N kf ou))), (aW, .inl (cA, 42, .inl k)), (aE, .inl (cA, 42, .inl we))] → va_S A H0 H locs → lv_has ls 4 [(0, .ref o0), (1, .int (nI b)), (2, .int (pI L)), (3, .int (pI B))] → W p l e rm_c_X1_weighReplies s m args below meth c H locs 0 0 Q (F0 m 13 ls []) := by
          intro n_
          induction n_ with
          | zero =>
            intro B k hm_ hB hk
            exact absurd hm_ (by omega)
          | succ n_ ih_ =>
            intro B k hm_ hB hk H locs ls hP hD hS hl
            have ih11 := ih_
            clear ih_
            refine lv_iload_n hx hb dX1_weighReplies_13 rfl (lv_at hl 3 rfl) ?_
            refine lv_iconst (v := 5) hx hb dX1_weighReplies_14 (by decide) ?_
            refine lv_icmp_ge (tgt := 41) hx hb dX1_weighReplies_15 (by decide) (fun c15_12 => ?_) (fun c15_12 => ?_)
            · skip
              have ht_ : B = 6 := by have := (pI_6 B (by omega)).mp c15_12; omega
              refine lv_iinc (v := pI (L + 1)) (lv' := [(2, .int (pI (L + 1))), (0, .ref o0), (1, .int (nI b)), (3, .int (pI B))]) hx hb dX1_weighReplies_41 hl (k := 2) rfl (pI_1 L) (by decide) rfl (fun ls hl => ?_)
              refine lv_goto (tgt := 6) hx hb dX1_weighReplies_44 (by decide) ?_
              exact ih4 (L + 1) k (by omega) (by first | assumption | omega) (by clear hret hl hS hD hP hK hA hN hts hx hb hr hml hown hlocks hiX1 ih4 ih11; intro p hp; exact hk p (by omega)) _ _ _ hP hD hS (lv_sub hl [1, 2, 0] rfl)
            · skip
              have hltB : B < 6 := Nat.lt_of_not_le (fun q_ => c15_12 ((pI_6 B (by omega)).mpr q_))
              refine lv_aload_n hx hb dX1_weighReplies_18 rfl (lv_at hl 0 rfl) ?_
              refine va_get (D := D) (ci := 1) (v := .ref aW) (C := RX1) (T := TX1) (N := 10) hx hb hts hiX1 hown hK hP 0 rfl rfl 5 (by decide) (hts (.fieldLink RX1 21 "HeardSecond$Outlook" "worths" "[I") (by decide +kernel)) (fun _ h9 => h9) rfl dX1_weighReplies_19 ?_
              refine lv_iload_n hx hb dX1_weighReplies_22 rfl (lv_at hl 2 rfl) ?_
              refine lv_iload_n hx hb dX1_weighReplies_23 rfl (lv_at hl 3 rfl) ?_
              refine z_bri (z_runS (As := [.int (pI L), .int (pI B)]) (rest := [.ref aW]) ⟨hx, hb, hml, hown, hts⟩ (c_X1_worthPlace (x := pI L) (y := pI B) _) (va_cwS 2 hts gX1_weighReplies_X1_worthPlace rfl rfl rfl (by decide +kernel) ⟨Nat.le_of_ble_eq_true rfl, Nat.le_of_ble_eq_true rfl⟩) hK hP hD hN [] rfl rfl rfl hl.1 rfl (Nat.le_of_ble_eq_true rfl) dX1_weighReplies_24 ⟨Nat.zero_le _, Nat.zero_le _⟩) hP hD hS hA [] rfl (fun r14 u15 H locs hw13 hP hS => ?_)
              obtain rfl : r14 = ((pI L) + 1) * 6 + (pI B) + 1 := hw13
              refine z_top (y := nI (6 * L + B)) (op_eq L B) ?_
              refine lv_aload_n hx hb dX1_weighReplies_27 rfl (lv_at hl 0 rfl) ?_
              refine lv_iload_n hx hb dX1_weighReplies_28 rfl (lv_at hl 3 rfl) ?_
              refine z_bri (z_runV (As := [.int (pI B)]) (rest := [.int (nI (6 * L + B)), .ref aW]) (ci := 1) ⟨hx, hb, hml, hown, hts⟩ (c_X1_worthOfEnd (o0 := o0) (b0 := b0) (t0 := t0) (aL := aL) (aB := aB) (aS := aS) (aW := aW) (aE := aE) (aY := aY) (aZ := aZ) (aF := aF) (qk := qk) (qs := qs) (N := N) (pt := pt) (sf := sf) (x := pI B) (by first | assumption | omega) _) (cwV 1 hts gX1_weighReplies_X1_worthOfEnd rfl rfl rfl (by decide +kernel) ⟨Nat.le_of_ble_eq_true rfl, Nat.le_of_ble_eq_true rfl⟩) hK hP hD hN [0, 1, 3] rfl rfl rfl rfl rfl hl.1 rfl (Nat.le_of_ble_eq_true rfl) dX1_weighReplies_29 ⟨Nat.zero_le _, Nat.zero_le _⟩) hP hD hS hA [0, 1, 3] rfl (fun r17 u18 H locs hw16 hP hS => ?_)
              obtain rfl : r17 = jWE N sf (pI B) := hw16
              refine z_bwv (wr := [(o0, .inr (1, [.ref b0, .ref t0, .ref aL, .ref aB, .ref aS, .ref aW, .ref aE, .ref aY, .ref aZ, .ref aF])), (b0, .inr (0, [.ref qk, .ref qs, .int (nI N), .int pt])), (qk, .inl (cA, 5, .inl kf)), (qs, .inl (cA, 5, .inl sf)), (t0, .inr (3, [.int la, .int be, .int ou, .int si, .int en, .int w0, .int w1, .int br, .ref wd, .int td, .ref tw, .ref ts])), (aL, .inl (cA, 35, .inl (jLT N kf ou))), (aB, .inl (cA, 35, .inl (jBT N kf ou))), (aE, .inl (cA, 42, .inl we))]) (ws' := fun (_ : Unit) => [(o0, .inr (1, [.ref b0, .ref t0, .ref aL, .ref aB, .ref aS, .ref aW, .ref aE, .ref aY, .ref aZ, .ref aF])), (b0, .inr (0, [.ref qk, .ref qs, .int (nI N), .int pt])), (qk, .inl (cA, 5, .inl kf)), (qs, .inl (cA, 5, .inl sf)), (t0, .inr (3, [.int la, .int be, .int ou, .int si, .int en, .int w0, .int w1, .int br, .ref wd, .int td, .ref tw, .ref ts])), (aL, .inl (cA, 35, .inl (jLT N kf ou))), (aB, .inl (cA, 35, .inl (jBT N kf ou))), (aW, .inl (cA, 42, .inl (jPut 42 k (nI (6 * L + B)) (jWE N sf (pI B))))), (aE, .inl (cA, 42, .inl we))]) (z_runSN (As := [.ref aW, .int (nI (6 * L + B)), .int (jWE N sf (pI B))]) (rest := []) ⟨hx, hb, hml, hown, hts⟩ (c_X4_put (n := 42) (q := aW) (f := k) (x := nI (6 * L + B)) (v := jWE N sf (pI B)) (by first | assumption | omega) _) (va_cnB (own := RX1) (host := "HeardSecond") (index := 64) 3 hts ggX1_weighReplies_X4_put rfl rfl rfl (hN.get 26 rfl) (hts (.initialized RX4) (by decide +kernel)) (by decide +kernel) ⟨Nat.le_of_ble_eq_true rfl, Nat.le_of_ble_eq_true rfl⟩) (hts (.static yX4_put) (by decide +kernel)) hK hP hD hN [7] rfl rfl rfl hl.1 rfl (Nat.le_of_ble_eq_true rfl) dX1_weighReplies_32 ⟨Nat.zero_le _, Nat.zero_le _⟩) hP hD hS hA [7] [0, 1, 2, 3, 4, 5, 6, 8] [0, 1, 2, 3, 4, 5, 6, 8, 7] rfl rfl rfl (by decide) rfl (fun _ => rfl) (fun u21 H locs hw19 hP hD hS => ?_)
              have hP : va_P D vwCl [(o0, .inr (1, [.ref b0, .ref t0, .ref aL, .ref aB, .ref aS, .ref aW, .ref aE, .ref aY, .ref aZ, .ref aF])), (b0, .inr (0, [.ref qk, .ref qs, .int (nI N), .int pt])), (qk, .inl (cA, 5, .inl kf)), (qs, .inl (cA, 5, .inl sf)), (t0, .inr (3, [.int la, .int be, .int ou, .int si, .int en, .int w0, .int w1, .int br, .ref wd, .int td, .ref tw, .ref ts])), (aL, .inl (cA, 35, .inl (jLT N kf ou))), (aB, .inl (cA, 35, .inl (jBT N kf ou))), (aW, .inl (cA, 42, .inl (jPut 42 k (nI (6 * L + B)) (jWE N sf (pI B))))), (aE, .inl (cA, 42, .inl we))] H := hP
              have hD : va_D A [(o0, .inr (1, [.ref b0, .ref t0, .ref aL, .ref aB, .ref aS, .ref aW, .ref aE, .ref aY, .ref aZ, .ref aF])), (b0, .inr (0, [.ref qk, .ref qs, .int (nI N), .int pt])), (qk, .inl (cA, 5, .inl kf)), (qs, .inl (cA, 5, .inl sf)), (t0, .inr (3, [.int la, .int be, .int ou, .int si, .int en, .int w0, .int w1, .int br, .ref wd, .int td, .ref tw, .ref ts])), (aL, .inl (cA, 35, .inl (jLT N kf ou))), (aB, .inl (cA, 35, .inl (jBT N kf ou))), (aW, .inl (cA, 42, .inl (jPut 42 k (nI (6 * L + B)) (jWE N sf (pI B))))), (aE, .inl (cA, 42, .inl we))] := hD
              refine lv_iinc (v := pI (B + 1)) (lv' := [(3, .int (pI (B + 1))), (0, .ref o0), (1, .int (nI b)), (2, .int (pI L))]) hx hb dX1_weighReplies_35 hl (k := 3) rfl (pI_1 B) (by decide) rfl (fun ls hl => ?_)
              refine lv_goto (tgt := 13) hx hb dX1_weighReplies_38 (by decide) ?_
              exact ih11 (B + 1) (jPut 42 k (nI (6 * L + B)) (jWE N sf (pI B))) (by omega) (by first | assumption | omega) (by clear hret hl hS hD hP hK hA hN hts hx hb hr hml hown hlocks hiX1 ih4 ih11; intro p hp; exact z_fs (k := 6 * L + B) (by omega) (by decide) hk (by rw [jEnd, show (6 * L + B) % 6 = B from by omega]) p (by omega)) _ _ _ hP hD hS (lv_sub hl [1, 2, 3, 0] rfl)
        exact L13 7 0 g (by omega) (by first | assumption | omega) (by clear hret hl hS hD hP hK hA hN hts hx hb hr hml hown hlocks hiX1 ih4 L13; intro p hp; exact hg p (by omega)) _ _ _ hP hD hS (lv_sub hl [1, 2, 3, 0] rfl)
  exact L6 8 0 w (by omega) (by first | assumption | omega) (by clear hret hl hS hD hP hK hA hN hts hx hb hr hml hown hlocks hiX1 L6; intro p hp; omega) _ _ _ hP hD hS (lv_sub hl [1, 2, 0] rfl)
abbrev rm_c_X1_bestWorth : Room := { frames := 3, cells := 0, slots := 0, locals := 68 }
set_option maxHeartbeats 400000 in
set_option maxRecDepth 20000 in
theorem c_X1_bestWorth {l : Launch} {D : va_G} {cA : ClassId} {o0 : Nat} {b0 : Nat} {t0 : Nat} {aL : Nat} {aB : Nat} {aS : Nat} {aW : Nat} {aE : Nat} {aY : Nat} {aZ : Nat} {aF : Nat} {qk : Nat} {qs : Nat} {N : Nat} {pt : Int32} {sf : Nat → Int32} {wd : Nat} {tw : Nat} {ts : Nat} {L : Nat} {B : Nat} {ou : Int32} {si : Int32} {en : Int32} {w0 : Int32} {w1 : Int32} {br : Int32} {td : Int32} {lt : Nat → Int32} {bt : Nat → Int32} {w : Nat → Int32} (h5 : N ≤ 5) (hL : L < 7) (hB : B < 6) : zMi l yX1_bestWorth wsX1_bestWorth rm_c_X1_bestWorth D cA [(o0, .inr (1, [.ref b0, .ref t0, .ref aL, .ref aB, .ref aS, .ref aW, .ref aE, .ref aY, .ref aZ, .ref aF])), (b0, .inr (0, [.ref qk, .ref qs, .int (nI N), .int pt])), (qs, .inl (cA, 5, .inl sf)), (t0, .inr (3, [.int (pI L), .int (pI B), .int ou, .int si, .int en, .int w0, .int w1, .int br, .ref wd, .int td, .ref tw, .ref ts])), (aL, .inl (cA, 35, .inl lt)), (aB, .inl (cA, 35, .inl bt)), (aW, .inl (cA, 42, .inl w))] [.ref o0] (fun (r : Int32) (_ : Unit) => r = jBest N sf lt bt w L B) (fun (_ : Unit) => [(o0, .inr (1, [.ref b0, .ref t0, .ref aL, .ref aB, .ref aS, .ref aW, .ref aE, .ref aY, .ref aZ, .ref aF])), (b0, .inr (0, [.ref qk, .ref qs, .int (nI N), .int pt])), (qs, .inl (cA, 5, .inl sf)), (t0, .inr (3, [.int (pI L), .int (pI B), .int ou, .int si, .int en, .int w0, .int w1, .int br, .ref wd, .int td, .ref tw, .ref ts])), (aL, .inl (cA, 35, .inl lt)), (aB, .inl (cA, 35, .inl bt)), (aW, .inl (cA, 42, .inl w))]) := by
  refine z_enteri (cc := cX1_bestWorth) (maxL := 1) (ty := .int) (by decide) rfl (Nat.le_of_ble_eq_true rfl) (fun p e s m args below meth c ls A H0 H locs Q hi_ hA hK hP hD hS hl hret => ?_)
  obtain ⟨hx, hb, hr, hml, hown, hts, hlocks, hN⟩ := hi_
  have hl : lv_has ls 1 [(0, .ref o0)] := hl
  have hiX1 : ∀ w ∈ wsX10, w ∈ wsX1_bestWorth := by decide +kernel
  have hiX3 : ∀ w ∈ wsX30, w ∈ wsX1_bestWorth := by decide +kernel
  refine lv_iconst (v := 0) hx hb dX1_bestWorth_0 (by decide) ?_
  refine lv_aload_n hx hb dX1_bestWorth_1 rfl (lv_at hl 0 rfl) ?_
  refine va_get (D := D) (ci := 1) (v := .ref aW) (C := RX1) (T := TX1) (N := 10) hx hb hts hiX1 hown hK hP 0 rfl rfl 5 (by decide) (hts (.fieldLink RX1 21 "HeardSecond$Outlook" "worths" "[I") (by decide +kernel)) (fun _ h9 => h9) rfl dX1_bestWorth_2 ?_
  refine lv_aload_n hx hb dX1_bestWorth_5 rfl (lv_at hl 0 rfl) ?_
  refine va_get (D := D) (ci := 1) (v := .ref t0) (C := RX1) (T := TX1) (N := 10) hx hb hts hiX1 hown hK hP 0 rfl rfl 1 (by decide) (hts (.fieldLink RX1 40 "HeardSecond$Outlook" "now" "LHeardSecond$Trial;") (by decide +kernel)) (fun _ h9 => h9) rfl dX1_bestWorth_6 ?_
  refine va_getN (D := D) (ci := 3) (v := .int (pI L)) (C := RX3) (T := TX3) (N := 12) hx hb hts hiX3 hown hK hP 3 rfl rfl 0 (by decide) (hN.getb 5 rfl) (fun _ h9 => h9) rfl dX1_bestWorth_9 ?_
  refine lv_aload_n hx hb dX1_bestWorth_12 rfl (lv_at hl 0 rfl) ?_
  refine va_get (D := D) (ci := 1) (v := .ref t0) (C := RX1) (T := TX1) (N := 10) hx hb hts hiX1 hown hK hP 0 rfl rfl 1 (by decide) (hts (.fieldLink RX1 40 "HeardSecond$Outlook" "now" "LHeardSecond$Trial;") (by decide +kernel)) (fun _ h9 => h9) rfl dX1_bestWorth_13 ?_
  refine va_getN (D := D) (ci := 3) (v := .int (pI B)) (C := RX3) (T := TX3) (N := 12) hx hb hts hiX3 hown hK hP 3 rfl rfl 1 (by decide) (hN.getb 7 rfl) (fun _ h9 => h9) rfl dX1_bestWorth_16 ?_
  refine z_bri (z_runS (As := [.int (pI L), .int (pI B)]) (rest := [.ref aW, .int 0]) ⟨hx, hb, hml, hown, hts⟩ (c_X1_worthPlace (x := pI L) (y := pI B) _) (va_cwS 2 hts gX1_bestWorth_X1_worthPlace rfl rfl rfl (by decide +kernel) ⟨Nat.le_of_ble_eq_true rfl, Nat.le_of_ble_eq_true rfl⟩) hK hP hD hN [] rfl rfl rfl hl.1 rfl (Nat.le_of_ble_eq_true rfl) dX1_bestWorth_19 ⟨Nat.zero_le _, Nat.zero_le _⟩) hP hD hS hA [] rfl (fun r2 u3 H locs hw1 hP hS => ?_)
  obtain rfl : r2 = ((pI L) + 1) * 6 + (pI B) + 1 := hw1
  refine z_top (y := nI (6 * L + B)) (op_eq L B) ?_
  refine z_bri (z_runSN (As := [.ref aW, .int (nI (6 * L + B))]) (rest := [.int 0]) ⟨hx, hb, hml, hown, hts⟩ (c_X4_at (n := 42) (q := aW) (f := w) (x := nI (6 * L + B)) (by first | assumption | omega) _) (va_cnB (own := RX1) (host := "HeardSecond") (index := 93) 2 hts ggX1_bestWorth_X4_at rfl rfl rfl (hN.get 28 rfl) (hts (.initialized RX4) (by decide +kernel)) (by decide +kernel) ⟨Nat.le_of_ble_eq_true rfl, Nat.le_of_ble_eq_true rfl⟩) (hts (.static yX4_at) (by decide +kernel)) hK hP hD hN [6] rfl rfl rfl hl.1 rfl (Nat.le_of_ble_eq_true rfl) dX1_bestWorth_22 ⟨Nat.zero_le _, Nat.zero_le _⟩) hP hD hS hA [6] rfl (fun r5 u6 H locs hw4 hP hS => ?_)
  obtain rfl : r5 = jAt 42 w (nI (6 * L + B)) := hw4
  refine z_top (y := w (6 * L + B)) (jAt_nI (by omega) (by decide)) ?_
  refine lv_aload_n hx hb dX1_bestWorth_25 rfl (lv_at hl 0 rfl) ?_
  refine lv_iconst (v := 0) hx hb dX1_bestWorth_26 (by decide) ?_
  refine lv_aload_n hx hb dX1_bestWorth_27 rfl (lv_at hl 0 rfl) ?_
  refine va_get (D := D) (ci := 1) (v := .ref t0) (C := RX1) (T := TX1) (N := 10) hx hb hts hiX1 hown hK hP 0 rfl rfl 1 (by decide) (hts (.fieldLink RX1 40 "HeardSecond$Outlook" "now" "LHeardSecond$Trial;") (by decide +kernel)) (fun _ h9 => h9) rfl dX1_bestWorth_28 ?_
  refine va_getN (D := D) (ci := 3) (v := .int (pI L)) (C := RX3) (T := TX3) (N := 12) hx hb hts hiX3 hown hK hP 3 rfl rfl 0 (by decide) (hN.getb 5 rfl) (fun _ h9 => h9) rfl dX1_bestWorth_31 ?_
  refine z_bri (z_runV (As := [.int 0, .int (pI L)]) (rest := [.int (w (6 * L + B)), .int 0]) (ci := 1) ⟨hx, hb, hml, hown, hts⟩ (c_X1_bestByWord (o0 := o0) (b0 := b0) (t0 := t0) (aL := aL) (aB := aB) (aS := aS) (aW := aW) (aE := aE) (aY := aY) (aZ := aZ) (aF := aF) (qk := qk) (qs := qs) (N := N) (pt := pt) (sf := sf) (lt := lt) (bt := bt) (w := w) (L := L) (sd := 0) (by first | assumption | omega) (by first | assumption | omega) _) (cwV 2 hts gX1_bestWorth_X1_bestByWord rfl rfl rfl (by decide +kernel) ⟨Nat.le_of_ble_eq_true rfl, Nat.le_of_ble_eq_true rfl⟩) hK hP hD hN [0, 1, 2, 4, 5, 6] rfl rfl rfl rfl rfl hl.1 rfl (Nat.le_of_ble_eq_true rfl) dX1_bestWorth_34 ⟨Nat.zero_le _, Nat.zero_le _⟩) hP hD hS hA [0, 1, 2, 4, 5, 6] rfl (fun r8 u9 H locs hw7 hP hS => ?_)
  obtain rfl : r8 = jBy N sf lt bt w 0 L 5 := hw7
  refine z_bri (z_runS (As := [.int 0, .int (w (6 * L + B)), .int (jBy N sf lt bt w 0 L 5)]) (rest := []) ⟨hx, hb, hml, hown, hts⟩ (c_X1_better (sd := 0) (x := w (6 * L + B)) (y := jBy N sf lt bt w 0 L 5) _) (va_cwS 3 hts gX1_bestWorth_X1_better rfl rfl rfl (by decide +kernel) ⟨Nat.le_of_ble_eq_true rfl, Nat.le_of_ble_eq_true rfl⟩) hK hP hD hN [] rfl rfl rfl hl.1 rfl (Nat.le_of_ble_eq_true rfl) dX1_bestWorth_37 ⟨Nat.zero_le _, Nat.zero_le _⟩) hP hD hS hA [] rfl (fun r11 u12 H locs hw10 hP hS => ?_)
  obtain rfl : r11 = jBetter 0 (w (6 * L + B)) (jBy N sf lt bt w 0 L 5) := hw10
  -- path 1
  exact hret (jBetter 0 (w (6 * L + B)) (jBy N sf lt bt w 0 L 5)) () _ _ _ _ dX1_bestWorth_40 (rfl) (by rfl) hP hD hS
abbrev rm_c_X1_bestOpening : Room := { frames := 4, cells := 0, slots := 0, locals := 88 }
set_option maxHeartbeats 400000 in
set_option maxRecDepth 20000 in
theorem c_X1_bestOpening {l : Launch} {D : va_G} {cA : ClassId} {o0 : Nat} {b0 : Nat} {t0 : Nat} {aL : Nat} {aB : Nat} {aS : Nat} {aW : Nat} {aE : Nat} {aY : Nat} {aZ : Nat} {aF : Nat} {qk : Nat} {qs : Nat} {N : Nat} {pt : Int32} {sf : Nat → Int32} {wd : Nat} {tw : Nat} {ts : Nat} {L : Nat} {B : Nat} {ou : Int32} {si : Int32} {en : Int32} {w0 : Int32} {w1 : Int32} {br : Int32} {td : Int32} {lt : Nat → Int32} {bt : Nat → Int32} {w : Nat → Int32} (h5 : N ≤ 5) (hL : L < 7) (hB : B < 6) : zMi l yX1_bestOpening wsX1_bestOpening rm_c_X1_bestOpening D cA [(o0, .inr (1, [.ref b0, .ref t0, .ref aL, .ref aB, .ref aS, .ref aW, .ref aE, .ref aY, .ref aZ, .ref aF])), (b0, .inr (0, [.ref qk, .ref qs, .int (nI N), .int pt])), (qs, .inl (cA, 5, .inl sf)), (t0, .inr (3, [.int (pI L), .int (pI B), .int ou, .int si, .int en, .int w0, .int w1, .int br, .ref wd, .int td, .ref tw, .ref ts])), (aL, .inl (cA, 35, .inl lt)), (aB, .inl (cA, 35, .inl bt)), (aW, .inl (cA, 42, .inl w))] [.ref o0] (fun (r : Int32) (_ : Unit) => r = jOpen N sf lt bt w L B) (fun (_ : Unit) => [(o0, .inr (1, [.ref b0, .ref t0, .ref aL, .ref aB, .ref aS, .ref aW, .ref aE, .ref aY, .ref aZ, .ref aF])), (b0, .inr (0, [.ref qk, .ref qs, .int (nI N), .int pt])), (qs, .inl (cA, 5, .inl sf)), (t0, .inr (3, [.int (pI L), .int (pI B), .int ou, .int si, .int en, .int w0, .int w1, .int br, .ref wd, .int td, .ref tw, .ref ts])), (aL, .inl (cA, 35, .inl lt)), (aB, .inl (cA, 35, .inl bt)), (aW, .inl (cA, 42, .inl w))]) := by
  refine z_enteri (cc := cX1_bestOpening) (maxL := 3) (ty := .int) (by decide) rfl (Nat.le_of_ble_eq_true rfl) (fun p e s m args below meth c ls A H0 H locs Q hi_ hA hK hP hD hS hl hret => ?_)
  obtain ⟨hx, hb, hr, hml, hown, hts, hlocks, hN⟩ := hi_
  have hl : lv_has ls 3 [(0, .ref o0)] := hl
  have hiX1 : ∀ w ∈ wsX10, w ∈ wsX1_bestOpening := by decide +kernel
  have hiX3 : ∀ w ∈ wsX30, w ∈ wsX1_bestOpening := by decide +kernel
  refine lv_aload_n hx hb dX1_bestOpening_0 rfl (lv_at hl 0 rfl) ?_
  refine z_bri (z_runV (As := []) (rest := []) (ci := 1) ⟨hx, hb, hml, hown, hts⟩ (c_X1_bestWorth (o0 := o0) (b0 := b0) (t0 := t0) (aL := aL) (aB := aB) (aS := aS) (aW := aW) (aE := aE) (aY := aY) (aZ := aZ) (aF := aF) (qk := qk) (qs := qs) (N := N) (pt := pt) (sf := sf) (wd := wd) (tw := tw) (ts := ts) (L := L) (B := B) (ou := ou) (si := si) (en := en) (w0 := w0) (w1 := w1) (br := br) (td := td) (lt := lt) (bt := bt) (w := w) (by first | assumption | omega) (by first | assumption | omega) (by first | assumption | omega) _) (cwV 0 hts gX1_bestOpening_X1_bestWorth rfl rfl rfl (by decide +kernel) ⟨Nat.le_of_ble_eq_true rfl, Nat.le_of_ble_eq_true rfl⟩) hK hP hD hN [0, 1, 2, 3, 4, 5, 6] rfl rfl rfl rfl rfl hl.1 rfl (Nat.le_of_ble_eq_true rfl) dX1_bestOpening_1 ⟨Nat.zero_le _, Nat.zero_le _⟩) hP hD hS hA [0, 1, 2, 3, 4, 5, 6] rfl (fun r2 u3 H locs hw1 hP hS => ?_)
  obtain rfl : r2 = jBest N sf lt bt w L B := hw1
  refine lv_istore_n (lv' := [(1, .int (jBest N sf lt bt w L B)), (0, .ref o0)]) hx hb dX1_bestOpening_4 rfl hl (by decide) rfl (fun ls hl => ?_)
  refine lv_aload_n hx hb dX1_bestOpening_5 rfl (lv_at hl 1 rfl) ?_
  refine va_get (D := D) (ci := 1) (v := .ref aW) (C := RX1) (T := TX1) (N := 10) hx hb hts hiX1 hown hK hP 0 rfl rfl 5 (by decide) (hts (.fieldLink RX1 21 "HeardSecond$Outlook" "worths" "[I") (by decide +kernel)) (fun _ h9 => h9) rfl dX1_bestOpening_6 ?_
  refine lv_aload_n hx hb dX1_bestOpening_9 rfl (lv_at hl 1 rfl) ?_
  refine va_get (D := D) (ci := 1) (v := .ref t0) (C := RX1) (T := TX1) (N := 10) hx hb hts hiX1 hown hK hP 0 rfl rfl 1 (by decide) (hts (.fieldLink RX1 40 "HeardSecond$Outlook" "now" "LHeardSecond$Trial;") (by decide +kernel)) (fun _ h9 => h9) rfl dX1_bestOpening_10 ?_
  refine va_getN (D := D) (ci := 3) (v := .int (pI L)) (C := RX3) (T := TX3) (N := 12) hx hb hts hiX3 hown hK hP 3 rfl rfl 0 (by decide) (hN.getb 5 rfl) (fun _ h9 => h9) rfl dX1_bestOpening_13 ?_
  refine lv_aload_n hx hb dX1_bestOpening_16 rfl (lv_at hl 1 rfl) ?_
  refine va_get (D := D) (ci := 1) (v := .ref t0) (C := RX1) (T := TX1) (N := 10) hx hb hts hiX1 hown hK hP 0 rfl rfl 1 (by decide) (hts (.fieldLink RX1 40 "HeardSecond$Outlook" "now" "LHeardSecond$Trial;") (by decide +kernel)) (fun _ h9 => h9) rfl dX1_bestOpening_17 ?_
  refine va_getN (D := D) (ci := 3) (v := .int (pI B)) (C := RX3) (T := TX3) (N := 12) hx hb hts hiX3 hown hK hP 3 rfl rfl 1 (by decide) (hN.getb 7 rfl) (fun _ h9 => h9) rfl dX1_bestOpening_20 ?_
  refine z_bri (z_runS (As := [.int (pI L), .int (pI B)]) (rest := [.ref aW]) ⟨hx, hb, hml, hown, hts⟩ (c_X1_worthPlace (x := pI L) (y := pI B) _) (va_cwS 2 hts gX1_bestOpening_X1_worthPlace rfl rfl rfl (by decide +kernel) ⟨Nat.le_of_ble_eq_true rfl, Nat.le_of_ble_eq_true rfl⟩) hK hP hD hN [] rfl rfl rfl hl.1 rfl (Nat.le_of_ble_eq_true rfl) dX1_bestOpening_23 ⟨Nat.zero_le _, Nat.zero_le _⟩) hP hD hS hA [] rfl (fun r5 u6 H locs hw4 hP hS => ?_)
  obtain rfl : r5 = ((pI L) + 1) * 6 + (pI B) + 1 := hw4
  refine z_top (y := nI (6 * L + B)) (op_eq L B) ?_
  refine z_bri (z_runSN (As := [.ref aW, .int (nI (6 * L + B))]) (rest := []) ⟨hx, hb, hml, hown, hts⟩ (c_X4_at (n := 42) (q := aW) (f := w) (x := nI (6 * L + B)) (by first | assumption | omega) _) (va_cnB (own := RX1) (host := "HeardSecond") (index := 93) 2 hts ggX1_bestOpening_X4_at rfl rfl rfl (hN.get 28 rfl) (hts (.initialized RX4) (by decide +kernel)) (by decide +kernel) ⟨Nat.le_of_ble_eq_true rfl, Nat.le_of_ble_eq_true rfl⟩) (hts (.static yX4_at) (by decide +kernel)) hK hP hD hN [6] rfl rfl rfl hl.1 rfl (Nat.le_of_ble_eq_true rfl) dX1_bestOpening_26 ⟨Nat.zero_le _, Nat.zero_le _⟩) hP hD hS hA [6] rfl (fun r8 u9 H locs hw7 hP hS => ?_)
  obtain rfl : r8 = jAt 42 w (nI (6 * L + B)) := hw7
  refine z_top (y := w (6 * L + B)) (jAt_nI (by omega) (by decide)) ?_
  refine lv_iload_n hx hb dX1_bestOpening_29 rfl (lv_at hl 0 rfl) ?_
  refine lv_icmp_ne (tgt := 35) hx hb dX1_bestOpening_30 (by decide) (fun c30_10 => ?_) (fun c30_10 => ?_)
  · skip
    refine lv_iconst (v := nI 0) hx hb dX1_bestOpening_35 (by decide) ?_
    refine lv_istore_n (lv' := [(2, .int (nI 0)), (1, .int (jBest N sf lt bt w L B)), (0, .ref o0)]) hx hb dX1_bestOpening_36 rfl hl (by decide) rfl (fun ls hl => ?_)
    have L37 : ∀ (n_ : Nat) (sx : Nat) (hm_ : 6 ≤ sx + n_) (hs : sx ≤ 5) (hg : jOpen N sf lt bt w L B = jFind (fun sx => jTurn N sf lt 0 sx L && decide (jWB lt bt w sx L = jBest N sf lt bt w L B)) (5 - sx) sx) (H : Heap) (locs : List Loc) (ls : Array Slot), va_P D vwCl [(o0, .inr (1, [.ref b0, .ref t0, .ref aL, .ref aB, .ref aS, .ref aW, .ref aE, .ref aY, .ref aZ, .ref aF])), (b0, .inr (0, [.ref qk, .ref qs, .int (nI N), .int pt])), (qs, .inl (cA, 5, .inl sf)), (t0, .inr (3, [.int (pI L), .int (pI B), .int ou, .int si, .int en, .int w0, .int w1, .int br, .ref wd, .int td, .ref tw, .ref ts])), (aL, .inl (cA, 35, .inl lt)), (aB, .inl (cA, 35, .inl bt)), (aW, .inl (cA, 42, .inl w))] H → va_D A [(o0, .inr (1, [.ref b0, .ref t0, .ref aL, .ref aB, .ref aS, .ref aW, .ref aE, .ref aY, .ref aZ, .ref aF])), (b0, .inr (0, [.ref qk, .ref qs, .int (nI N), .int pt])), (qs, .inl (cA, 5, .inl sf)), (t0, .inr (3, [.int (pI L), .int (pI B), .int ou, .int si, .int en, .int w0, .int w1, .int br, .ref wd, .int td, .ref tw, .ref ts])), (aL, .inl (cA, 35, .inl lt)), (aB, .inl (cA, 35, .inl bt)), (aW, .inl (cA, 42, .inl w))] → va_S A H0 H locs → lv_has ls 3 [(0, .ref o0), (1, .int (jBest N sf lt bt w L B)), (2, .int (nI sx))] → W p l e rm_c_X1_bestOpening s m args below meth c H locs 0 0 Q (F0 m 37 ls []) := by
      intro n_
      induction n_ with
      | zero =>
        intro sx hm_ hs hg
        exact absurd hm_ (by omega)
      | succ n_ ih_ =>
        intro sx hm_ hs hg H locs ls hP hD hS hl
        have ih11 := ih_
        clear ih_
        refine lv_iload_n hx hb dX1_bestOpening_37 rfl (lv_at hl 2 rfl) ?_
        refine lv_iconst (v := 5) hx hb dX1_bestOpening_38 (by decide) ?_
        refine lv_icmp_ge (tgt := 82) hx hb dX1_bestOpening_39 (by decide) (fun c39_12 => ?_) (fun c39_12 => ?_)
        · skip
          have ht_ : sx = 5 := by have := (nI_leI (a := 5) (b := sx) (by omega) (by omega)).mp c39_12; omega
          refine lv_iconst (v := (-1)) hx hb dX1_bestOpening_82 (by decide) ?_
          -- path 1
          exact hret ((-1)) () _ _ _ _ dX1_bestOpening_83 (rfl) (by clear hret hl hS hD hP hK hA hN hts hx hb hr hml hown hlocks hiX1 hiX3 ih11; first | (unfold jOpen; rw [if_pos (by assumption)]; done) | (rw [hg, show 5 - sx = (5 - (sx + 1)) + 1 from by omega, jFind]; simp_all; done) | (rw [hg, show 5 - sx = 0 from by omega]; rfl)) hP hD hS
        · skip
          have hltsx : sx < 5 := Nat.lt_of_not_le (fun q_ => c39_12 ((nI_leI (a := 5) (b := sx) (by omega) (by omega)).mpr q_))
          refine lv_aload_n hx hb dX1_bestOpening_42 rfl (lv_at hl 0 rfl) ?_
          refine lv_iconst (v := 0) hx hb dX1_bestOpening_43 (by decide) ?_
          refine lv_iload_n hx hb dX1_bestOpening_44 rfl (lv_at hl 2 rfl) ?_
          refine lv_aload_n hx hb dX1_bestOpening_45 rfl (lv_at hl 0 rfl) ?_
          refine va_get (D := D) (ci := 1) (v := .ref t0) (C := RX1) (T := TX1) (N := 10) hx hb hts hiX1 hown hK hP 0 rfl rfl 1 (by decide) (hts (.fieldLink RX1 40 "HeardSecond$Outlook" "now" "LHeardSecond$Trial;") (by decide +kernel)) (fun _ h9 => h9) rfl dX1_bestOpening_46 ?_
          refine va_getN (D := D) (ci := 3) (v := .int (pI L)) (C := RX3) (T := TX3) (N := 12) hx hb hts hiX3 hown hK hP 3 rfl rfl 0 (by decide) (hN.getb 5 rfl) (fun _ h9 => h9) rfl dX1_bestOpening_49 ?_
          refine z_bri (z_runV (As := [.int 0, .int (nI sx), .int (pI L)]) (rest := []) (ci := 1) ⟨hx, hb, hml, hown, hts⟩ (c_X1_isTurnOf (o0 := o0) (b0 := b0) (t0 := t0) (aL := aL) (aB := aB) (aS := aS) (aW := aW) (aE := aE) (aY := aY) (aZ := aZ) (aF := aF) (qk := qk) (qs := qs) (N := N) (pt := pt) (sf := sf) (lt := lt) (sx := sx) (L := L) (sd := 0) (by first | assumption | omega) (by first | assumption | omega) (by first | assumption | omega) _) (cwV 3 hts gX1_bestOpening_X1_isTurnOf rfl rfl rfl (by decide +kernel) ⟨Nat.le_of_ble_eq_true rfl, Nat.le_of_ble_eq_true rfl⟩) hK hP hD hN [0, 1, 2, 4] rfl rfl rfl rfl rfl hl.1 rfl (Nat.le_of_ble_eq_true rfl) dX1_bestOpening_52 ⟨Nat.zero_le _, Nat.zero_le _⟩) hP hD hS hA [0, 1, 2, 4] rfl (fun r14 u15 H locs hw13 hP hS => ?_)
          obtain rfl : r14 = bI (jTurn N sf lt 0 sx L) := hw13
          refine lv_if_eq (tgt := 76) hx hb dX1_bestOpening_55 (by decide) (fun c55_16 => ?_) (fun c55_16 => ?_)
          · skip
            have c55_16 := bI_0.mp c55_16
            refine lv_iinc (v := nI (sx + 1)) (lv' := [(2, .int (nI (sx + 1))), (0, .ref o0), (1, .int (jBest N sf lt bt w L B))]) hx hb dX1_bestOpening_76 hl (k := 2) rfl (nI_1 sx) (by decide) rfl (fun ls hl => ?_)
            refine lv_goto (tgt := 37) hx hb dX1_bestOpening_79 (by decide) ?_
            exact ih11 (sx + 1) (by omega) (by first | assumption | omega) (by clear hret hl hS hD hP hK hA hN hts hx hb hr hml hown hlocks hiX1 hiX3 ih11; rw [hg, show 5 - sx = (5 - (sx + 1)) + 1 from by omega, jFind]; simp_all) _ _ _ hP hD hS (lv_sub hl [1, 2, 0] rfl)
          · skip
            have c55_16 := bI_n0.mp c55_16
            refine lv_aload_n hx hb dX1_bestOpening_58 rfl (lv_at hl 0 rfl) ?_
            refine lv_iload_n hx hb dX1_bestOpening_59 rfl (lv_at hl 2 rfl) ?_
            refine lv_aload_n hx hb dX1_bestOpening_60 rfl (lv_at hl 0 rfl) ?_
            refine va_get (D := D) (ci := 1) (v := .ref t0) (C := RX1) (T := TX1) (N := 10) hx hb hts hiX1 hown hK hP 0 rfl rfl 1 (by decide) (hts (.fieldLink RX1 40 "HeardSecond$Outlook" "now" "LHeardSecond$Trial;") (by decide +kernel)) (fun _ h9 => h9) rfl dX1_bestOpening_61 ?_
            refine va_getN (D := D) (ci := 3) (v := .int (pI L)) (C := RX3) (T := TX3) (N := 12) hx hb hts hiX3 hown hK hP 3 rfl rfl 0 (by decide) (hN.getb 5 rfl) (fun _ h9 => h9) rfl dX1_bestOpening_64 ?_
            refine z_bri (z_runV (As := [.int (nI sx), .int (pI L)]) (rest := []) (ci := 1) ⟨hx, hb, hml, hown, hts⟩ (c_X1_worthBehind (o0 := o0) (b0 := b0) (t0 := t0) (aL := aL) (aB := aB) (aS := aS) (aW := aW) (aE := aE) (aY := aY) (aZ := aZ) (aF := aF) (lt := lt) (bt := bt) (w := w) (sx := sx) (L := L) (by first | assumption | omega) (by first | assumption | omega) _) (cwV 2 hts gX1_bestOpening_X1_worthBehind rfl rfl rfl (by decide +kernel) ⟨Nat.le_of_ble_eq_true rfl, Nat.le_of_ble_eq_true rfl⟩) hK hP hD hN [0, 4, 5, 6] rfl rfl rfl rfl rfl hl.1 rfl (Nat.le_of_ble_eq_true rfl) dX1_bestOpening_67 ⟨Nat.zero_le _, Nat.zero_le _⟩) hP hD hS hA [0, 4, 5, 6] rfl (fun r18 u19 H locs hw17 hP hS => ?_)
            obtain rfl : r18 = jWB lt bt w sx L := hw17
            refine lv_iload_n hx hb dX1_bestOpening_70 rfl (lv_at hl 1 rfl) ?_
            refine lv_icmp_ne (tgt := 76) hx hb dX1_bestOpening_71 (by decide) (fun c71_20 => ?_) (fun c71_20 => ?_)
            · skip
              refine lv_iinc (v := nI (sx + 1)) (lv' := [(2, .int (nI (sx + 1))), (0, .ref o0), (1, .int (jBest N sf lt bt w L B))]) hx hb dX1_bestOpening_76 hl (k := 2) rfl (nI_1 sx) (by decide) rfl (fun ls hl => ?_)
              refine lv_goto (tgt := 37) hx hb dX1_bestOpening_79 (by decide) ?_
              exact ih11 (sx + 1) (by omega) (by first | assumption | omega) (by clear hret hl hS hD hP hK hA hN hts hx hb hr hml hown hlocks hiX1 hiX3 ih11; rw [hg, show 5 - sx = (5 - (sx + 1)) + 1 from by omega, jFind]; simp_all) _ _ _ hP hD hS (lv_sub hl [1, 2, 0] rfl)
            · skip
              refine lv_iload_n hx hb dX1_bestOpening_74 rfl (lv_at hl 2 rfl) ?_
              -- path 2
              exact hret (nI sx) () _ _ _ _ dX1_bestOpening_75 (rfl) (by clear hret hl hS hD hP hK hA hN hts hx hb hr hml hown hlocks hiX1 hiX3 ih11; first | (unfold jOpen; rw [if_pos (by assumption)]; done) | (rw [hg, show 5 - sx = (5 - (sx + 1)) + 1 from by omega, jFind]; simp_all; done) | (rw [hg, show 5 - sx = 0 from by omega]; rfl)) hP hD hS
    exact L37 6 0 (by omega) (by first | assumption | omega) (by clear hret hl hS hD hP hK hA hN hts hx hb hr hml hown hlocks hiX1 hiX3 L37; unfold jOpen; rw [if_neg (by assumption)]) _ _ _ hP hD hS (lv_sub hl [2, 1, 0] rfl)
  · skip
    refine lv_iconst (v := (-1)) hx hb dX1_bestOpening_33 (by decide) ?_
    -- path 3
    exact hret ((-1)) () _ _ _ _ dX1_bestOpening_34 (rfl) (by clear hret hl hS hD hP hK hA hN hts hx hb hr hml hown hlocks hiX1 hiX3; first | (unfold jOpen; rw [if_pos (by assumption)]; done) | (rw [hg, show 5 - sx = (5 - (sx + 1)) + 1 from by omega, jFind]; simp_all; done) | (rw [hg, show 5 - sx = 0 from by omega]; rfl)) hP hD hS
