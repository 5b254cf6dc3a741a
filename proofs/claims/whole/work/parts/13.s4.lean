abbrev rm_c_X1_canBeWord : Room := { frames := 2, cells := 0, slots := 0, locals := 44 }
set_option maxHeartbeats 400000 in
set_option maxRecDepth 20000 in
theorem c_X1_canBeWord {l : Launch} {D : va_G} {cA : ClassId} {o0 : Nat} {b0 : Nat} {t0 : Nat} {aL : Nat} {aB : Nat} {aS : Nat} {aW : Nat} {aE : Nat} {aY : Nat} {aZ : Nat} {aF : Nat} {wd : Nat} {tw : Nat} {ts : Nat} {t : Nat} {la : Int32} {be : Int32} {ou : Int32} {si : Int32} {en : Int32} {w0 : Int32} {w1 : Int32} {br : Int32} {ftw : Nat → Int32} {fts : Nat → Int32} {lt : Nat → Int32} {bt : Nat → Int32} {sx : Nat} {L : Nat} {x : Int32} (ht : t ≤ 8) (hs : sx < 5) (hL : L < 7) : zMi l yX1_canBeWord wsX1_canBeWord rm_c_X1_canBeWord D cA [(o0, .inr (1, [.ref b0, .ref t0, .ref aL, .ref aB, .ref aS, .ref aW, .ref aE, .ref aY, .ref aZ, .ref aF])), (t0, .inr (3, [.int la, .int be, .int ou, .int si, .int en, .int w0, .int w1, .int br, .ref wd, .int (nI t), .ref tw, .ref ts])), (tw, .inl (cA, 8, .inl ftw)), (ts, .inl (cA, 8, .inl fts)), (aL, .inl (cA, 35, .inl lt)), (aB, .inl (cA, 35, .inl bt))] [.ref o0, .int x, .int (nI sx), .int (pI L)] (fun (ret_ : Int32) (_ : Unit) => ret_ = bI (jOk lt bt t ftw fts x sx L)) (fun (_ : Unit) => [(o0, .inr (1, [.ref b0, .ref t0, .ref aL, .ref aB, .ref aS, .ref aW, .ref aE, .ref aY, .ref aZ, .ref aF])), (t0, .inr (3, [.int la, .int be, .int ou, .int si, .int en, .int w0, .int w1, .int br, .ref wd, .int (nI t), .ref tw, .ref ts])), (tw, .inl (cA, 8, .inl ftw)), (ts, .inl (cA, 8, .inl fts)), (aL, .inl (cA, 35, .inl lt)), (aB, .inl (cA, 35, .inl bt))]) := by
  refine z_enteri (cc := cX1_canBeWord) (maxL := 5) (ty := .boolean) (by decide) rfl (Nat.le_of_ble_eq_true rfl) (fun p e s m args below meth c ls A H0 H locs Q hi_ hA hK hP hD hS hl hret => ?_)
  obtain ⟨hx, hb, hr, hml, hown, hts, hlocks, hN⟩ := hi_
  have hl : lv_has ls 5 [(0, .ref o0), (1, .int x), (2, .int (nI sx)), (3, .int (pI L))] := hl
  have hiX1 : ∀ w ∈ wsX10, w ∈ wsX1_canBeWord := by decide +kernel
  refine lv_iload_n hx hb dX1_canBeWord_0 rfl (lv_at hl 3 rfl) ?_
  refine lv_iload_n hx hb dX1_canBeWord_1 rfl (lv_at hl 2 rfl) ?_
  refine z_bri (z_runS (As := [.int (pI L), .int (nI sx)]) (rest := []) ⟨hx, hb, hml, hown, hts⟩ (c_X1_wordPlace (x := pI L) (y := nI sx) _) (va_cwS 2 hts gX1_canBeWord_X1_wordPlace rfl rfl rfl (by decide +kernel) ⟨Nat.le_of_ble_eq_true rfl, Nat.le_of_ble_eq_true rfl⟩) hK hP hD hN [] rfl rfl rfl hl.1 rfl (Nat.le_of_ble_eq_true rfl) dX1_canBeWord_2 ⟨Nat.zero_le _, Nat.zero_le _⟩) hP hD hS hA [] rfl (fun r_2 u_3 H locs hq_1 hP hS => ?_)
  obtain rfl : r_2 = ((pI L) + 1) * 5 + (nI sx) := hq_1
  refine z_top (y := nI (5 * L + sx)) (wp_eq L sx) ?_
  refine lv_istore (lv' := [(4, .int (nI (5 * L + sx))), (0, .ref o0), (1, .int x), (2, .int (nI sx)), (3, .int (pI L))]) hx hb dX1_canBeWord_5 hl (by decide) rfl (fun ls hl => ?_)
  refine lv_aload_n hx hb dX1_canBeWord_7 rfl (lv_at hl 1 rfl) ?_
  refine va_get (D := D) (ci := 1) (v := .ref aL) (C := RX1) (T := TX1) (N := 10) hx hb hts hiX1 hown hK hP 0 rfl rfl 2 (by decide) (hts (.fieldLink RX1 9 "HeardSecond$Outlook" "lastThen" "[I") (by decide +kernel)) (fun _ h9 => h9) rfl dX1_canBeWord_8 ?_
  refine lv_iload hx hb dX1_canBeWord_11 (lv_at hl 0 rfl) ?_
  refine z_bri (z_runSN (As := [.ref aL, .int (nI (5 * L + sx))]) (rest := []) ⟨hx, hb, hml, hown, hts⟩ (c_X4_at (n := 35) (q := aL) (f := lt) (x := nI (5 * L + sx)) (by first | assumption | omega) _) (va_cnB (own := RX1) (host := "HeardSecond") (index := 93) 2 hts ggX1_canBeWord_X4_at rfl rfl rfl (hN.get 28 rfl) (hts (.initialized RX4) (by decide +kernel)) (by decide +kernel) ⟨Nat.le_of_ble_eq_true rfl, Nat.le_of_ble_eq_true rfl⟩) (hts (.static yX4_at) (by decide +kernel)) hK hP hD hN [4] rfl rfl rfl hl.1 rfl (Nat.le_of_ble_eq_true rfl) dX1_canBeWord_13 ⟨Nat.zero_le _, Nat.zero_le _⟩) hP hD hS hA [4] rfl (fun r_5 u_6 H locs hq_4 hP hS => ?_)
  obtain rfl : r_5 = jAt 35 lt (nI (5 * L + sx)) := hq_4
  refine z_top (y := lt (5 * L + sx)) (jAt_nI (by omega) (by decide)) ?_
  refine lv_bipush (v := (-2)) hx hb dX1_canBeWord_16 (by decide) ?_
  refine lv_icmp_eq (tgt := 45) hx hb dX1_canBeWord_18 (by decide) (fun c18_7 => ?_) (fun c18_7 => ?_)
  · skip
    refine lv_iconst (v := 0) hx hb dX1_canBeWord_45 (by decide) ?_
    -- path 1
    exact hret (0) () _ _ _ _ dX1_canBeWord_46 (rfl) (by clear hret hl hS hD hP hK hA hN hts hx hb hr hml hown hlocks hiX1; simp_all [jOk, bI]) hP hD hS
  · skip
    refine lv_aload_n hx hb dX1_canBeWord_21 rfl (lv_at hl 1 rfl) ?_
    refine va_get (D := D) (ci := 1) (v := .ref t0) (C := RX1) (T := TX1) (N := 10) hx hb hts hiX1 hown hK hP 0 rfl rfl 1 (by decide) (hts (.fieldLink RX1 40 "HeardSecond$Outlook" "now" "LHeardSecond$Trial;") (by decide +kernel)) (fun _ h9 => h9) rfl dX1_canBeWord_22 ?_
    refine lv_iload_n hx hb dX1_canBeWord_25 rfl (lv_at hl 2 rfl) ?_
    refine lv_aload_n hx hb dX1_canBeWord_26 rfl (lv_at hl 1 rfl) ?_
    refine va_get (D := D) (ci := 1) (v := .ref aB) (C := RX1) (T := TX1) (N := 10) hx hb hts hiX1 hown hK hP 0 rfl rfl 3 (by decide) (hts (.fieldLink RX1 15 "HeardSecond$Outlook" "believedThen" "[I") (by decide +kernel)) (fun _ h9 => h9) rfl dX1_canBeWord_27 ?_
    refine lv_iload hx hb dX1_canBeWord_30 (lv_at hl 0 rfl) ?_
    refine z_bri (z_runSN (As := [.ref aB, .int (nI (5 * L + sx))]) (rest := [.int x, .ref t0]) ⟨hx, hb, hml, hown, hts⟩ (c_X4_at (n := 35) (q := aB) (f := bt) (x := nI (5 * L + sx)) (by first | assumption | omega) _) (va_cnB (own := RX1) (host := "HeardSecond") (index := 93) 2 hts ggX1_canBeWord_X4_at rfl rfl rfl (hN.get 28 rfl) (hts (.initialized RX4) (by decide +kernel)) (by decide +kernel) ⟨Nat.le_of_ble_eq_true rfl, Nat.le_of_ble_eq_true rfl⟩) (hts (.static yX4_at) (by decide +kernel)) hK hP hD hN [5] rfl rfl rfl hl.1 rfl (Nat.le_of_ble_eq_true rfl) dX1_canBeWord_32 ⟨Nat.zero_le _, Nat.zero_le _⟩) hP hD hS hA [5] rfl (fun r_9 u_10 H locs hq_8 hP hS => ?_)
    obtain rfl : r_9 = jAt 35 bt (nI (5 * L + sx)) := hq_8
    refine z_top (y := bt (5 * L + sx)) (jAt_nI (by omega) (by decide)) ?_
    refine z_bri (z_runV (As := [.int x, .int (bt (5 * L + sx))]) (rest := []) (ci := 3) ⟨hx, hb, hml, hown, hts⟩ (c_X3_allows (t0 := t0) (wd := wd) (tw := tw) (ts := ts) (t := t) (la := la) (be := be) (ou := ou) (si := si) (en := en) (w0 := w0) (w1 := w1) (br := br) (ftw := ftw) (fts := fts) (x := x) (y := bt (5 * L + sx)) (by first | assumption | omega) _) (cwV 2 hts gX1_canBeWord_X3_allows rfl rfl rfl (by decide +kernel) ⟨Nat.le_of_ble_eq_true rfl, Nat.le_of_ble_eq_true rfl⟩) hK hP hD hN [1, 2, 3] rfl rfl rfl rfl rfl hl.1 rfl (Nat.le_of_ble_eq_true rfl) dX1_canBeWord_35 ⟨Nat.zero_le _, Nat.zero_le _⟩) hP hD hS hA [1, 2, 3] rfl (fun r_12 u_13 H locs hq_11 hP hS => ?_)
    obtain rfl : r_12 = bI (jAllows t ftw fts x (bt (5 * L + sx))) := hq_11
    refine lv_if_eq (tgt := 45) hx hb dX1_canBeWord_38 (by decide) (fun c38_14 => ?_) (fun c38_14 => ?_)
    · skip
      have c38_14 := bI_0.mp c38_14
      refine lv_iconst (v := 0) hx hb dX1_canBeWord_45 (by decide) ?_
      -- path 2
      exact hret (0) () _ _ _ _ dX1_canBeWord_46 (rfl) (by clear hret hl hS hD hP hK hA hN hts hx hb hr hml hown hlocks hiX1; simp_all [jOk, bI]) hP hD hS
    · skip
      have c38_14 := bI_n0.mp c38_14
      refine lv_iconst (v := 1) hx hb dX1_canBeWord_41 (by decide) ?_
      refine lv_goto (tgt := 46) hx hb dX1_canBeWord_42 (by decide) ?_
      -- path 3
      exact hret (1) () _ _ _ _ dX1_canBeWord_46 (rfl) (by clear hret hl hS hD hP hK hA hN hts hx hb hr hml hown hlocks hiX1; simp_all [jOk, bI]) hP hD hS
abbrev rm_c_X1_fillWays : Room := { frames := 3, cells := 0, slots := 0, locals := 69 }
set_option maxHeartbeats 1000000 in
set_option maxRecDepth 20000 in
theorem c_X1_fillWays {l : Launch} {D : va_G} {cA : ClassId} {o0 : Nat} {b0 : Nat} {t0 : Nat} {aL : Nat} {aB : Nat} {aS : Nat} {aW : Nat} {aE : Nat} {aY : Nat} {aZ : Nat} {aF : Nat} {qk : Nat} {qs : Nat} {N : Nat} {pt : Int32} {kf : Nat → Int32} {wd : Nat} {tw : Nat} {ts : Nat} {L : Nat} {B : Nat} {t : Nat} {ou : Int32} {si : Int32} {en : Int32} {w0 : Int32} {w1 : Int32} {br : Int32} {ftw : Nat → Int32} {fts : Nat → Int32} {lt : Nat → Int32} {bt : Nat → Int32} {y : Nat → Int32} {mw : Nat} (h5 : N ≤ 5) (ht : t ≤ 8) (hL : L < 7) (hB : B < 6) (hm6 : mw ≤ 6) : zMv l yX1_fillWays wsX1_fillWays rm_c_X1_fillWays D cA [(o0, .inr (1, [.ref b0, .ref t0, .ref aL, .ref aB, .ref aS, .ref aW, .ref aE, .ref aY, .ref aZ, .ref aF])), (b0, .inr (0, [.ref qk, .ref qs, .int (nI N), .int pt])), (qk, .inl (cA, 5, .inl kf)), (t0, .inr (3, [.int (pI L), .int (pI B), .int ou, .int si, .int en, .int w0, .int w1, .int br, .ref wd, .int (nI t), .ref tw, .ref ts])), (tw, .inl (cA, 8, .inl ftw)), (ts, .inl (cA, 8, .inl fts)), (aL, .inl (cA, 35, .inl lt)), (aB, .inl (cA, 35, .inl bt)), (aY, .inl (cA, 49, .inl y))] [.ref o0, .int (nI mw)] (fun (_ : Unit) => True) (fun (_ : Unit) => [(o0, .inr (1, [.ref b0, .ref t0, .ref aL, .ref aB, .ref aS, .ref aW, .ref aE, .ref aY, .ref aZ, .ref aF])), (b0, .inr (0, [.ref qk, .ref qs, .int (nI N), .int pt])), (qk, .inl (cA, 5, .inl kf)), (t0, .inr (3, [.int (pI L), .int (pI B), .int ou, .int si, .int en, .int w0, .int w1, .int br, .ref wd, .int (nI t), .ref tw, .ref ts])), (tw, .inl (cA, 8, .inl ftw)), (ts, .inl (cA, 8, .inl fts)), (aL, .inl (cA, 35, .inl (jLT N kf ou))), (aB, .inl (cA, 35, .inl (jBT N kf ou))), (aY, .inl (cA, 49, .inl (jWay (jLT N kf ou) (jBT N kf ou) t ftw fts (jWay0 t ftw fts L B) (35 * mw))))]) := by
  refine z_enterv (cc := cX1_fillWays) (maxL := 6) (by decide) rfl (Nat.le_of_ble_eq_true rfl) (fun p e s m args below meth c ls A H0 H locs Q hi_ hA hK hP hD hS hl hret => ?_)
  obtain ⟨hx, hb, hr, hml, hown, hts, hlocks, hN⟩ := hi_
  have hl : lv_has ls 6 [(0, .ref o0), (1, .int (nI mw))] := hl
  have hiX1 : ∀ w ∈ wsX10, w ∈ wsX1_fillWays := by decide +kernel
  have hiX3 : ∀ w ∈ wsX30, w ∈ wsX1_fillWays := by decide +kernel
  refine lv_aload_n hx hb dX1_fillWays_0 rfl (lv_at hl 0 rfl) ?_
  refine z_bwv (wr := [(tw, .inl (cA, 8, .inl ftw)), (ts, .inl (cA, 8, .inl fts)), (aY, .inl (cA, 49, .inl y))]) (ws' := fun (_ : Unit) => [(o0, .inr (1, [.ref b0, .ref t0, .ref aL, .ref aB, .ref aS, .ref aW, .ref aE, .ref aY, .ref aZ, .ref aF])), (b0, .inr (0, [.ref qk, .ref qs, .int (nI N), .int pt])), (qk, .inl (cA, 5, .inl kf)), (t0, .inr (3, [.int (pI L), .int (pI B), .int ou, .int si, .int en, .int w0, .int w1, .int br, .ref wd, .int (nI t), .ref tw, .ref ts])), (tw, .inl (cA, 8, .inl ftw)), (ts, .inl (cA, 8, .inl fts)), (aL, .inl (cA, 35, .inl (jLT N kf ou))), (aB, .inl (cA, 35, .inl (jBT N kf ou))), (aY, .inl (cA, 49, .inl y))]) (z_runV (As := []) (rest := []) (ci := 1) ⟨hx, hb, hml, hown, hts⟩ (c_X1_tableWords (o0 := o0) (b0 := b0) (t0 := t0) (aL := aL) (aB := aB) (aS := aS) (aW := aW) (aE := aE) (aY := aY) (aZ := aZ) (aF := aF) (qk := qk) (qs := qs) (N := N) (pt := pt) (kf := kf) (wd := wd) (tw := tw) (ts := ts) (la := pI L) (be := pI B) (ou := ou) (si := si) (en := en) (w0 := w0) (w1 := w1) (br := br) (td := nI t) (lt := lt) (bt := bt) (by first | assumption | omega) _) (cwV 0 hts gX1_fillWays_X1_tableWords rfl rfl rfl (by decide +kernel) ⟨Nat.le_of_ble_eq_true rfl, Nat.le_of_ble_eq_true rfl⟩) hK hP hD hN [0, 1, 2, 3, 6, 7] rfl rfl rfl rfl rfl hl.1 rfl (Nat.le_of_ble_eq_true rfl) dX1_fillWays_1 ⟨Nat.zero_le _, Nat.zero_le _⟩) hP hD hS hA [0, 1, 2, 3, 6, 7] [4, 5, 8] [3, 4, 5, 6, 0, 1, 7, 8, 2] rfl rfl rfl (by decide) rfl (fun _ => rfl) (fun u_3 H locs hq_1 hP hD hS => ?_)
  have hP : va_P D vwCl [(o0, .inr (1, [.ref b0, .ref t0, .ref aL, .ref aB, .ref aS, .ref aW, .ref aE, .ref aY, .ref aZ, .ref aF])), (b0, .inr (0, [.ref qk, .ref qs, .int (nI N), .int pt])), (qk, .inl (cA, 5, .inl kf)), (t0, .inr (3, [.int (pI L), .int (pI B), .int ou, .int si, .int en, .int w0, .int w1, .int br, .ref wd, .int (nI t), .ref tw, .ref ts])), (tw, .inl (cA, 8, .inl ftw)), (ts, .inl (cA, 8, .inl fts)), (aL, .inl (cA, 35, .inl (jLT N kf ou))), (aB, .inl (cA, 35, .inl (jBT N kf ou))), (aY, .inl (cA, 49, .inl y))] H := hP
  have hD : va_D A [(o0, .inr (1, [.ref b0, .ref t0, .ref aL, .ref aB, .ref aS, .ref aW, .ref aE, .ref aY, .ref aZ, .ref aF])), (b0, .inr (0, [.ref qk, .ref qs, .int (nI N), .int pt])), (qk, .inl (cA, 5, .inl kf)), (t0, .inr (3, [.int (pI L), .int (pI B), .int ou, .int si, .int en, .int w0, .int w1, .int br, .ref wd, .int (nI t), .ref tw, .ref ts])), (tw, .inl (cA, 8, .inl ftw)), (ts, .inl (cA, 8, .inl fts)), (aL, .inl (cA, 35, .inl (jLT N kf ou))), (aB, .inl (cA, 35, .inl (jBT N kf ou))), (aY, .inl (cA, 49, .inl y))] := hD
  refine lv_aload_n hx hb dX1_fillWays_4 rfl (lv_at hl 0 rfl) ?_
  refine va_get (D := D) (ci := 1) (v := .ref aY) (C := RX1) (T := TX1) (N := 10) hx hb hts hiX1 hown hK hP 0 rfl rfl 7 (by decide) (hts (.fieldLink RX1 27 "HeardSecond$Outlook" "ways" "[I") (by decide +kernel)) (fun _ h9 => h9) rfl dX1_fillWays_5 ?_
  refine lv_iconst (v := 0) hx hb dX1_fillWays_8 (by decide) ?_
  refine z_bwv (wr := [(o0, .inr (1, [.ref b0, .ref t0, .ref aL, .ref aB, .ref aS, .ref aW, .ref aE, .ref aY, .ref aZ, .ref aF])), (b0, .inr (0, [.ref qk, .ref qs, .int (nI N), .int pt])), (qk, .inl (cA, 5, .inl kf)), (t0, .inr (3, [.int (pI L), .int (pI B), .int ou, .int si, .int en, .int w0, .int w1, .int br, .ref wd, .int (nI t), .ref tw, .ref ts])), (tw, .inl (cA, 8, .inl ftw)), (ts, .inl (cA, 8, .inl fts)), (aL, .inl (cA, 35, .inl (jLT N kf ou))), (aB, .inl (cA, 35, .inl (jBT N kf ou)))]) (ws' := fun (_ : Unit) => [(o0, .inr (1, [.ref b0, .ref t0, .ref aL, .ref aB, .ref aS, .ref aW, .ref aE, .ref aY, .ref aZ, .ref aF])), (b0, .inr (0, [.ref qk, .ref qs, .int (nI N), .int pt])), (qk, .inl (cA, 5, .inl kf)), (t0, .inr (3, [.int (pI L), .int (pI B), .int ou, .int si, .int en, .int w0, .int w1, .int br, .ref wd, .int (nI t), .ref tw, .ref ts])), (tw, .inl (cA, 8, .inl ftw)), (ts, .inl (cA, 8, .inl fts)), (aL, .inl (cA, 35, .inl (jLT N kf ou))), (aB, .inl (cA, 35, .inl (jBT N kf ou))), (aY, .inl (cA, 49, .inl (fun _ => 0)))]) (z_runSN (As := [.ref aY, .int 0]) (rest := []) ⟨hx, hb, hml, hown, hts⟩ (c_X4_fill (n := 49) (q := aY) (f := y) (x := 0) (by first | assumption | omega) _) (va_cnB (own := RX1) (host := "HeardSecond") (index := 74) 2 hts ggX1_fillWays_X4_fill rfl rfl rfl (hN.get 27 rfl) (hts (.initialized RX4) (by decide +kernel)) (by decide +kernel) ⟨Nat.le_of_ble_eq_true rfl, Nat.le_of_ble_eq_true rfl⟩) (hts (.static yX4_fill) (by decide +kernel)) hK hP hD hN [8] rfl rfl rfl hl.1 rfl (Nat.le_of_ble_eq_true rfl) dX1_fillWays_9 ⟨Nat.zero_le _, Nat.zero_le _⟩) hP hD hS hA [8] [0, 1, 2, 3, 4, 5, 6, 7] [0, 1, 2, 3, 4, 5, 6, 7, 8] rfl rfl rfl (by decide) rfl (fun _ => rfl) (fun u_6 H locs hq_4 hP hD hS => ?_)
  have hP : va_P D vwCl [(o0, .inr (1, [.ref b0, .ref t0, .ref aL, .ref aB, .ref aS, .ref aW, .ref aE, .ref aY, .ref aZ, .ref aF])), (b0, .inr (0, [.ref qk, .ref qs, .int (nI N), .int pt])), (qk, .inl (cA, 5, .inl kf)), (t0, .inr (3, [.int (pI L), .int (pI B), .int ou, .int si, .int en, .int w0, .int w1, .int br, .ref wd, .int (nI t), .ref tw, .ref ts])), (tw, .inl (cA, 8, .inl ftw)), (ts, .inl (cA, 8, .inl fts)), (aL, .inl (cA, 35, .inl (jLT N kf ou))), (aB, .inl (cA, 35, .inl (jBT N kf ou))), (aY, .inl (cA, 49, .inl (fun _ => 0)))] H := hP
  have hD : va_D A [(o0, .inr (1, [.ref b0, .ref t0, .ref aL, .ref aB, .ref aS, .ref aW, .ref aE, .ref aY, .ref aZ, .ref aF])), (b0, .inr (0, [.ref qk, .ref qs, .int (nI N), .int pt])), (qk, .inl (cA, 5, .inl kf)), (t0, .inr (3, [.int (pI L), .int (pI B), .int ou, .int si, .int en, .int w0, .int w1, .int br, .ref wd, .int (nI t), .ref tw, .ref ts])), (tw, .inl (cA, 8, .inl ftw)), (ts, .inl (cA, 8, .inl fts)), (aL, .inl (cA, 35, .inl (jLT N kf ou))), (aB, .inl (cA, 35, .inl (jBT N kf ou))), (aY, .inl (cA, 49, .inl (fun _ => 0)))] := hD
  refine lv_aload_n hx hb dX1_fillWays_12 rfl (lv_at hl 0 rfl) ?_
  refine va_get (D := D) (ci := 1) (v := .ref aY) (C := RX1) (T := TX1) (N := 10) hx hb hts hiX1 hown hK hP 0 rfl rfl 7 (by decide) (hts (.fieldLink RX1 27 "HeardSecond$Outlook" "ways" "[I") (by decide +kernel)) (fun _ h9 => h9) rfl dX1_fillWays_13 ?_
  refine lv_iconst (v := 0) hx hb dX1_fillWays_16 (by decide) ?_
  refine lv_aload_n hx hb dX1_fillWays_17 rfl (lv_at hl 0 rfl) ?_
  refine va_get (D := D) (ci := 1) (v := .ref t0) (C := RX1) (T := TX1) (N := 10) hx hb hts hiX1 hown hK hP 0 rfl rfl 1 (by decide) (hts (.fieldLink RX1 40 "HeardSecond$Outlook" "now" "LHeardSecond$Trial;") (by decide +kernel)) (fun _ h9 => h9) rfl dX1_fillWays_18 ?_
  refine va_getN (D := D) (ci := 3) (v := .int (pI L)) (C := RX3) (T := TX3) (N := 12) hx hb hts hiX3 hown hK hP 3 rfl rfl 0 (by decide) (hN.getb 5 rfl) (fun _ h9 => h9) rfl dX1_fillWays_21 ?_
  refine z_bri (z_runS (As := [.int 0, .int (pI L)]) (rest := [.ref aY]) ⟨hx, hb, hml, hown, hts⟩ (c_X1_rowPlace (x := 0) (y := pI L) _) (va_cwS 2 hts gX1_fillWays_X1_rowPlace rfl rfl rfl (by decide +kernel) ⟨Nat.le_of_ble_eq_true rfl, Nat.le_of_ble_eq_true rfl⟩) hK hP hD hN [] rfl rfl rfl hl.1 rfl (Nat.le_of_ble_eq_true rfl) dX1_fillWays_24 ⟨Nat.zero_le _, Nat.zero_le _⟩) hP hD hS hA [] rfl (fun r_8 u_9 H locs hq_7 hP hS => ?_)
  obtain rfl : r_8 = 0 * 7 + (pI L) + 1 := hq_7
  refine z_top (y := nI L) (rp_eq0 L) ?_
  refine lv_aload_n hx hb dX1_fillWays_27 rfl (lv_at hl 0 rfl) ?_
  refine va_get (D := D) (ci := 1) (v := .ref t0) (C := RX1) (T := TX1) (N := 10) hx hb hts hiX1 hown hK hP 0 rfl rfl 1 (by decide) (hts (.fieldLink RX1 40 "HeardSecond$Outlook" "now" "LHeardSecond$Trial;") (by decide +kernel)) (fun _ h9 => h9) rfl dX1_fillWays_28 ?_
  refine lv_iconst (v := 0) hx hb dX1_fillWays_31 (by decide) ?_
  refine lv_aload_n hx hb dX1_fillWays_32 rfl (lv_at hl 0 rfl) ?_
  refine va_get (D := D) (ci := 1) (v := .ref t0) (C := RX1) (T := TX1) (N := 10) hx hb hts hiX1 hown hK hP 0 rfl rfl 1 (by decide) (hts (.fieldLink RX1 40 "HeardSecond$Outlook" "now" "LHeardSecond$Trial;") (by decide +kernel)) (fun _ h9 => h9) rfl dX1_fillWays_33 ?_
  refine va_getN (D := D) (ci := 3) (v := .int (pI B)) (C := RX3) (T := TX3) (N := 12) hx hb hts hiX3 hown hK hP 3 rfl rfl 1 (by decide) (hN.getb 7 rfl) (fun _ h9 => h9) rfl dX1_fillWays_36 ?_
  refine z_bri (z_runV (As := [.int 0, .int (pI B)]) (rest := [.int (nI L), .ref aY]) (ci := 3) ⟨hx, hb, hml, hown, hts⟩ (c_X3_allows (t0 := t0) (wd := wd) (tw := tw) (ts := ts) (t := t) (la := pI L) (be := pI B) (ou := ou) (si := si) (en := en) (w0 := w0) (w1 := w1) (br := br) (ftw := ftw) (fts := fts) (x := 0) (y := pI B) (by first | assumption | omega) _) (cwV 2 hts gX1_fillWays_X3_allows rfl rfl rfl (by decide +kernel) ⟨Nat.le_of_ble_eq_true rfl, Nat.le_of_ble_eq_true rfl⟩) hK hP hD hN [3, 4, 5] rfl rfl rfl rfl rfl hl.1 rfl (Nat.le_of_ble_eq_true rfl) dX1_fillWays_39 ⟨Nat.zero_le _, Nat.zero_le _⟩) hP hD hS hA [3, 4, 5] rfl (fun r_11 u_12 H locs hq_10 hP hS => ?_)
  obtain rfl : r_11 = bI (jAllows t ftw fts 0 (pI B)) := hq_10
  refine lv_if_eq (tgt := 49) hx hb dX1_fillWays_42 (by decide) (fun c42_13 => ?_) (fun c42_13 => ?_)
  · skip
    have c42_13 := bI_0.mp c42_13
    refine lv_iconst (v := 0) hx hb dX1_fillWays_49 (by decide) ?_
    refine z_bwv (wr := [(o0, .inr (1, [.ref b0, .ref t0, .ref aL, .ref aB, .ref aS, .ref aW, .ref aE, .ref aY, .ref aZ, .ref aF])), (b0, .inr (0, [.ref qk, .ref qs, .int (nI N), .int pt])), (qk, .inl (cA, 5, .inl kf)), (t0, .inr (3, [.int (pI L), .int (pI B), .int ou, .int si, .int en, .int w0, .int w1, .int br, .ref wd, .int (nI t), .ref tw, .ref ts])), (tw, .inl (cA, 8, .inl ftw)), (ts, .inl (cA, 8, .inl fts)), (aL, .inl (cA, 35, .inl (jLT N kf ou))), (aB, .inl (cA, 35, .inl (jBT N kf ou)))]) (ws' := fun (_ : Unit) => [(o0, .inr (1, [.ref b0, .ref t0, .ref aL, .ref aB, .ref aS, .ref aW, .ref aE, .ref aY, .ref aZ, .ref aF])), (b0, .inr (0, [.ref qk, .ref qs, .int (nI N), .int pt])), (qk, .inl (cA, 5, .inl kf)), (t0, .inr (3, [.int (pI L), .int (pI B), .int ou, .int si, .int en, .int w0, .int w1, .int br, .ref wd, .int (nI t), .ref tw, .ref ts])), (tw, .inl (cA, 8, .inl ftw)), (ts, .inl (cA, 8, .inl fts)), (aL, .inl (cA, 35, .inl (jLT N kf ou))), (aB, .inl (cA, 35, .inl (jBT N kf ou))), (aY, .inl (cA, 49, .inl (jPut 49 (fun _ => 0) (nI L) 0)))]) (z_runSN (As := [.ref aY, .int (nI L), .int 0]) (rest := []) ⟨hx, hb, hml, hown, hts⟩ (c_X4_put (n := 49) (q := aY) (f := fun _ => 0) (x := nI L) (v := 0) (by first | assumption | omega) _) (va_cnB (own := RX1) (host := "HeardSecond") (index := 64) 3 hts ggX1_fillWays_X4_put rfl rfl rfl (hN.get 26 rfl) (hts (.initialized RX4) (by decide +kernel)) (by decide +kernel) ⟨Nat.le_of_ble_eq_true rfl, Nat.le_of_ble_eq_true rfl⟩) (hts (.static yX4_put) (by decide +kernel)) hK hP hD hN [8] rfl rfl rfl hl.1 rfl (Nat.le_of_ble_eq_true rfl) dX1_fillWays_50 ⟨Nat.zero_le _, Nat.zero_le _⟩) hP hD hS hA [8] [0, 1, 2, 3, 4, 5, 6, 7] [0, 1, 2, 3, 4, 5, 6, 7, 8] rfl rfl rfl (by decide) rfl (fun _ => rfl) (fun u_16 H locs hq_14 hP hD hS => ?_)
    have hP : va_P D vwCl [(o0, .inr (1, [.ref b0, .ref t0, .ref aL, .ref aB, .ref aS, .ref aW, .ref aE, .ref aY, .ref aZ, .ref aF])), (b0, .inr (0, [.ref qk, .ref qs, .int (nI N), .int pt])), (qk, .inl (cA, 5, .inl kf)), (t0, .inr (3, [.int (pI L), .int (pI B), .int ou, .int si, .int en, .int w0, .int w1, .int br, .ref wd, .int (nI t), .ref tw, .ref ts])), (tw, .inl (cA, 8, .inl ftw)), (ts, .inl (cA, 8, .inl fts)), (aL, .inl (cA, 35, .inl (jLT N kf ou))), (aB, .inl (cA, 35, .inl (jBT N kf ou))), (aY, .inl (cA, 49, .inl (jPut 49 (fun _ => 0) (nI L) 0)))] H := hP
    have hD : va_D A [(o0, .inr (1, [.ref b0, .ref t0, .ref aL, .ref aB, .ref aS, .ref aW, .ref aE, .ref aY, .ref aZ, .ref aF])), (b0, .inr (0, [.ref qk, .ref qs, .int (nI N), .int pt])), (qk, .inl (cA, 5, .inl kf)), (t0, .inr (3, [.int (pI L), .int (pI B), .int ou, .int si, .int en, .int w0, .int w1, .int br, .ref wd, .int (nI t), .ref tw, .ref ts])), (tw, .inl (cA, 8, .inl ftw)), (ts, .inl (cA, 8, .inl fts)), (aL, .inl (cA, 35, .inl (jLT N kf ou))), (aB, .inl (cA, 35, .inl (jBT N kf ou))), (aY, .inl (cA, 49, .inl (jPut 49 (fun _ => 0) (nI L) 0)))] := hD
    refine lv_iconst (v := nI 1) hx hb dX1_fillWays_53 (by decide) ?_
    refine lv_istore_n (lv' := [(2, .int (nI 1)), (0, .ref o0), (1, .int (nI mw))]) hx hb dX1_fillWays_54 rfl hl (by decide) rfl (fun ls hl => ?_)
    have L55 : ∀ (n_ : Nat) (w : Nat) (g : Nat → Int32) (hm_ : mw + 2 ≤ w + n_) (hw1 : 1 ≤ w) (hw : w ≤ mw + 1) (hg : g = jWay (jLT N kf ou) (jBT N kf ou) t ftw fts (jWay0 t ftw fts L B) (35 * (w - 1))) (H : Heap) (locs : List Loc) (ls : Array Slot), va_P D vwCl [(o0, .inr (1, [.ref b0, .ref t0, .ref aL, .ref aB, .ref aS, .ref aW, .ref aE, .ref aY, .ref aZ, .ref aF])), (b0, .inr (0, [.ref qk, .ref qs, .int (nI N), .int pt])), (qk, .inl (cA, 5, .inl kf)), (t0, .inr (3, [.int (pI L), .int (pI B), .int ou, .int si, .int en, .int w0, .int w1, .int br, .ref wd, .int (nI t), .ref tw, .ref ts])), (tw, .inl (cA, 8, .inl ftw)), (ts, .inl (cA, 8, .inl fts)), (aL, .inl (cA, 35, .inl (jLT N kf ou))), (aB, .inl (cA, 35, .inl (jBT N kf ou))), (aY, .inl (cA, 49, .inl g))] H → va_D A [(o0, .inr (1, [.ref b0, .ref t0, .ref aL, .ref aB, .ref aS, .ref aW, .ref aE, .ref aY, .ref aZ, .ref aF])), (b0, .inr (0, [.ref qk, .ref qs, .int (nI N), .int pt])), (qk, .inl (cA, 5, .inl kf)), (t0, .inr (3, [.int (pI L), .int (pI B), .int ou, .int si, .int en, .int w0, .int w1, .int br, .ref wd, .int (nI t), .ref tw, .ref ts])), (tw, .inl (cA, 8, .inl ftw)), (ts, .inl (cA, 8, .inl fts)), (aL, .inl (cA, 35, .inl (jLT N kf ou))), (aB, .inl (cA, 35, .inl (jBT N kf ou))), (aY, .inl (cA, 49, .inl g))] → va_S A H0 H locs → lv_has ls 6 [(0, .ref o0), (1, .int (nI mw)), (2, .int (nI w))] → W p l e rm_c_X1_fillWays s m args below meth c H locs 0 0 Q (F0 m 55 ls []) := by
      intro n_
      induction n_ with
      | zero =>
        intro w g hm_ hw1 hw hg
        exact absurd hm_ (by omega)
      | succ n_ ih_ =>
        intro w g hm_ hw1 hw hg H locs ls hP hD hS hl
        have ih17 := ih_
        clear ih_
        refine lv_iload_n hx hb dX1_fillWays_55 rfl (lv_at hl 2 rfl) ?_
        refine lv_iload_n hx hb dX1_fillWays_56 rfl (lv_at hl 1 rfl) ?_
        refine lv_icmp_gt (tgt := 157) hx hb dX1_fillWays_57 (by decide) (fun c57_18 => ?_) (fun c57_18 => ?_)
        · skip
          have ht_ : w = mw + 1 := by have := (nI_ltI (a := mw) (b := w) (by omega) (by omega)).mp c57_18; omega
          -- path 1
          have hP : va_P D vwCl [(o0, .inr (1, [.ref b0, .ref t0, .ref aL, .ref aB, .ref aS, .ref aW, .ref aE, .ref aY, .ref aZ, .ref aF])), (b0, .inr (0, [.ref qk, .ref qs, .int (nI N), .int pt])), (qk, .inl (cA, 5, .inl kf)), (t0, .inr (3, [.int (pI L), .int (pI B), .int ou, .int si, .int en, .int w0, .int w1, .int br, .ref wd, .int (nI t), .ref tw, .ref ts])), (tw, .inl (cA, 8, .inl ftw)), (ts, .inl (cA, 8, .inl fts)), (aL, .inl (cA, 35, .inl (jLT N kf ou))), (aB, .inl (cA, 35, .inl (jBT N kf ou))), (aY, .inl (cA, 49, .inl (jWay (jLT N kf ou) (jBT N kf ou) t ftw fts (jWay0 t ftw fts L B) (35 * mw))))] H := z_arrP hP 8 (g := (jWay (jLT N kf ou) (jBT N kf ou) t ftw fts (jWay0 t ftw fts L B) (35 * mw))) rfl (by clear hret hl hS hD hP hK hA hN hts hx hb hr hml hown hlocks hiX1 hiX3 ih17; intro p hp; rw [hg, ht_]; rfl) rfl
          have hD : va_D A [(o0, .inr (1, [.ref b0, .ref t0, .ref aL, .ref aB, .ref aS, .ref aW, .ref aE, .ref aY, .ref aZ, .ref aF])), (b0, .inr (0, [.ref qk, .ref qs, .int (nI N), .int pt])), (qk, .inl (cA, 5, .inl kf)), (t0, .inr (3, [.int (pI L), .int (pI B), .int ou, .int si, .int en, .int w0, .int w1, .int br, .ref wd, .int (nI t), .ref tw, .ref ts])), (tw, .inl (cA, 8, .inl ftw)), (ts, .inl (cA, 8, .inl fts)), (aL, .inl (cA, 35, .inl (jLT N kf ou))), (aB, .inl (cA, 35, .inl (jBT N kf ou))), (aY, .inl (cA, 49, .inl (jWay (jLT N kf ou) (jBT N kf ou) t ftw fts (jWay0 t ftw fts L B) (35 * mw))))] := z_arrD hD 8 rfl rfl
          exact hret () _ _ _ _ dX1_fillWays_157 (by trivial) hP hD hS
        · skip
          have hltw : w ≤ mw := Nat.le_of_not_lt (fun q_ => c57_18 ((nI_ltI (a := mw) (b := w) (by omega) (by omega)).mpr q_))
          refine lv_iconst (v := pI 0) hx hb dX1_fillWays_60 (by decide) ?_
          refine lv_istore_n (lv' := [(3, .int (pI 0)), (0, .ref o0), (1, .int (nI mw)), (2, .int (nI w))]) hx hb dX1_fillWays_61 rfl hl (by decide) rfl (fun ls hl => ?_)
          have L62 : ∀ (n_ : Nat) (K : Nat) (k : Nat → Int32) (hm_ : 8 ≤ K + n_) (hK_ : K ≤ 7) (hk : k = jWay (jLT N kf ou) (jBT N kf ou) t ftw fts (jWay0 t ftw fts L B) (35 * (w - 1) + 5 * K)) (H : Heap) (locs : List Loc) (ls : Array Slot), va_P D vwCl [(o0, .inr (1, [.ref b0, .ref t0, .ref aL, .ref aB, .ref aS, .ref aW, .ref aE, .ref aY, .ref aZ, .ref aF])), (b0, .inr (0, [.ref qk, .ref qs, .int (nI N), .int pt])), (qk, .inl (cA, 5, .inl kf)), (t0, .inr (3, [.int (pI L), .int (pI B), .int ou, .int si, .int en, .int w0, .int w1, .int br, .ref wd, .int (nI t), .ref tw, .ref ts])), (tw, .inl (cA, 8, .inl ftw)), (ts, .inl (cA, 8, .inl fts)), (aL, .inl (cA, 35, .inl (jLT N kf ou))), (aB, .inl (cA, 35, .inl (jBT N kf ou))), (aY, .inl (cA, 49, .inl k))] H → va_D A [(o0, .inr (1, [.ref b0, .ref t0, .ref aL, .ref aB, .ref aS, .ref aW, .ref aE, .ref aY, .ref aZ, .ref aF])), (b0, .inr (0, [.ref qk, .ref qs, .int (nI N), .int pt])), (qk, .inl (cA, 5, .inl kf)), (t0, .inr (3, [.int (pI L), .int (pI B), .int ou, .int si, .int en, .int w0, .int w1, .int br, .ref wd, .int (nI t), .ref tw, .ref ts])), (tw, .inl (cA, 8, .inl ftw)), (ts, .inl (cA, 8, .inl fts)), (aL, .inl (cA, 35, .inl (jLT N kf ou))), (aB, .inl (cA, 35, .inl (jBT N kf ou))), (aY, .inl (cA, 49, .inl k))] → va_S A H0 H locs → lv_has ls 6 [(0, .ref o0), (1, .int (nI mw)), (2, .int (nI w)), (3, .int (pI K))] → W p l e rm_c_X1_fillWays s m args below meth c H locs 0 0 Q (F0 m 62 ls []) := by
            intro n_
            induction n_ with
            | zero =>
              intro K k hm_ hK_ hk
              exact absurd hm_ (by omega)
            | succ n_ ih_ =>
              intro K k hm_ hK_ hk H locs ls hP hD hS hl
              have ih19 := ih_
              clear ih_
              refine lv_iload_n hx hb dX1_fillWays_62 rfl (lv_at hl 3 rfl) ?_
              refine lv_iconst (v := 5) hx hb dX1_fillWays_63 (by decide) ?_
              refine lv_icmp_gt (tgt := 151) hx hb dX1_fillWays_64 (by decide) (fun c64_20 => ?_) (fun c64_20 => ?_)
              · skip
                have ht_ : K = 7 := by have := (pI_7 K (by omega)).mp c64_20; omega
                refine lv_iinc (v := nI (w + 1)) (lv' := [(2, .int (nI (w + 1))), (0, .ref o0), (1, .int (nI mw)), (3, .int (pI K))]) hx hb dX1_fillWays_151 hl (k := 2) rfl (nI_1 w) (by decide) rfl (fun ls hl => ?_)
                refine lv_goto (tgt := 55) hx hb dX1_fillWays_154 (by decide) ?_
                exact ih17 (w + 1) k (by omega) (by first | assumption | omega) (by first | assumption | omega) (by clear hret hl hS hD hP hK hA hN hts hx hb hr hml hown hlocks hiX1 hiX3 ih17 ih19; rw [hk, ht_, show 35 * (w - 1) + 5 * 7 = 35 * (w + 1 - 1) from by omega]) _ _ _ hP hD hS (lv_sub hl [1, 2, 0] rfl)
              · skip
                have hltK : K < 7 := Nat.lt_of_not_le (fun q_ => c64_20 ((pI_7 K (by omega)).mpr q_))
                refine lv_iconst (v := nI 0) hx hb dX1_fillWays_67 (by decide) ?_
                refine lv_istore (lv' := [(4, .int (nI 0)), (0, .ref o0), (1, .int (nI mw)), (2, .int (nI w)), (3, .int (pI K))]) hx hb dX1_fillWays_68 hl (by decide) rfl (fun ls hl => ?_)
                have L70 : ∀ (n_ : Nat) (sx : Nat) (k2 : Nat → Int32) (hm_ : 6 ≤ sx + n_) (hs : sx ≤ 5) (hk2 : k2 = jWay (jLT N kf ou) (jBT N kf ou) t ftw fts (jWay0 t ftw fts L B) (35 * (w - 1) + 5 * K + sx)) (H : Heap) (locs : List Loc) (ls : Array Slot), va_P D vwCl [(o0, .inr (1, [.ref b0, .ref t0, .ref aL, .ref aB, .ref aS, .ref aW, .ref aE, .ref aY, .ref aZ, .ref aF])), (b0, .inr (0, [.ref qk, .ref qs, .int (nI N), .int pt])), (qk, .inl (cA, 5, .inl kf)), (t0, .inr (3, [.int (pI L), .int (pI B), .int ou, .int si, .int en, .int w0, .int w1, .int br, .ref wd, .int (nI t), .ref tw, .ref ts])), (tw, .inl (cA, 8, .inl ftw)), (ts, .inl (cA, 8, .inl fts)), (aL, .inl (cA, 35, .inl (jLT N kf ou))), (aB, .inl (cA, 35, .inl (jBT N kf ou))), (aY, .inl (cA, 49, .inl k2))] H → va_D A [(o0, .inr (1, [.ref b0, .ref t0, .ref aL, .ref aB, .ref aS, .ref aW, .ref aE, .ref aY, .ref aZ, .ref aF])), (b0, .inr (0, [.ref qk, .ref qs, .int (nI N), .int pt])), (qk, .inl (cA, 5, .inl kf)), (t0, .inr (3, [.int (pI L), .int (pI B), .int ou, .int si, .int en, .int w0, .int w1, .int br, .ref wd, .int (nI t), .ref tw, .ref ts])), (tw, .inl (cA, 8, .inl ftw)), (ts, .inl (cA, 8, .inl fts)), (aL, .inl (cA, 35, .inl (jLT N kf ou))), (aB, .inl (cA, 35, .inl (jBT N kf ou))), (aY, .inl (cA, 49, .inl k2))] → va_S A H0 H locs → lv_has ls 6 [(0, .ref o0), (1, .int (nI mw)), (2, .int (nI w)), (3, .int (pI K)), (4, .int (nI sx))] → W p l e rm_c_X1_fillWays s m args below meth c H locs 0 0 Q (F0 m 70 ls []) := by
                  intro n_
                  induction n_ with
                  | zero =>
                    intro sx k2 hm_ hs hk2
                    exact absurd hm_ (by omega)
                  | succ n_ ih_ =>
                    intro sx k2 hm_ hs hk2 H locs ls hP hD hS hl
                    have ih21 := ih_
                    clear ih_
                    refine lv_iload hx hb dX1_fillWays_70 (lv_at hl 4 rfl) ?_
                    refine lv_iconst (v := 5) hx hb dX1_fillWays_72 (by decide) ?_
                    refine lv_icmp_ge (tgt := 145) hx hb dX1_fillWays_73 (by decide) (fun c73_22 => ?_) (fun c73_22 => ?_)
                    · skip
                      have ht_ : sx = 5 := by have := (nI_leI (a := 5) (b := sx) (by omega) (by omega)).mp c73_22; omega
                      refine lv_iinc (v := pI (K + 1)) (lv' := [(3, .int (pI (K + 1))), (0, .ref o0), (1, .int (nI mw)), (2, .int (nI w)), (4, .int (nI sx))]) hx hb dX1_fillWays_145 hl (k := 3) rfl (pI_1 K) (by decide) rfl (fun ls hl => ?_)
                      refine lv_goto (tgt := 62) hx hb dX1_fillWays_148 (by decide) ?_
                      exact ih19 (K + 1) k2 (by omega) (by first | assumption | omega) (by clear hret hl hS hD hP hK hA hN hts hx hb hr hml hown hlocks hiX1 hiX3 ih17 ih19 ih21; rw [hk2, ht_, show 35 * (w - 1) + 5 * K + 5 = 35 * (w - 1) + 5 * (K + 1) from by omega]) _ _ _ hP hD hS (lv_sub hl [1, 2, 3, 0] rfl)
                    · skip
                      have hltsx : sx < 5 := Nat.lt_of_not_le (fun q_ => c73_22 ((nI_leI (a := 5) (b := sx) (by omega) (by omega)).mpr q_))
                      refine lv_aload_n hx hb dX1_fillWays_76 rfl (lv_at hl 0 rfl) ?_
                      refine lv_iload_n hx hb dX1_fillWays_77 rfl (lv_at hl 2 rfl) ?_
                      refine lv_iload hx hb dX1_fillWays_78 (lv_at hl 4 rfl) ?_
                      refine lv_iload_n hx hb dX1_fillWays_80 rfl (lv_at hl 3 rfl) ?_
                      refine z_bri (z_runV (As := [.int (nI w), .int (nI sx), .int (pI K)]) (rest := []) (ci := 1) ⟨hx, hb, hml, hown, hts⟩ (c_X1_canBeWord (o0 := o0) (b0 := b0) (t0 := t0) (aL := aL) (aB := aB) (aS := aS) (aW := aW) (aE := aE) (aY := aY) (aZ := aZ) (aF := aF) (wd := wd) (tw := tw) (ts := ts) (t := t) (la := pI L) (be := pI B) (ou := ou) (si := si) (en := en) (w0 := w0) (w1 := w1) (br := br) (ftw := ftw) (fts := fts) (lt := jLT N kf ou) (bt := jBT N kf ou) (sx := sx) (L := K) (x := nI w) (by first | assumption | omega) (by first | assumption | omega) (by first | assumption | omega) _) (cwV 3 hts gX1_fillWays_X1_canBeWord rfl rfl rfl (by decide +kernel) ⟨Nat.le_of_ble_eq_true rfl, Nat.le_of_ble_eq_true rfl⟩) hK hP hD hN [0, 3, 4, 5, 6, 7] rfl rfl rfl rfl rfl hl.1 rfl (Nat.le_of_ble_eq_true rfl) dX1_fillWays_81 ⟨Nat.zero_le _, Nat.zero_le _⟩) hP hD hS hA [0, 3, 4, 5, 6, 7] rfl (fun r_24 u_25 H locs hq_23 hP hS => ?_)
                      obtain rfl : r_24 = bI (jOk (jLT N kf ou) (jBT N kf ou) t ftw fts (nI w) sx K) := hq_23
                      refine lv_if_eq (tgt := 139) hx hb dX1_fillWays_84 (by decide) (fun c84_26 => ?_) (fun c84_26 => ?_)
                      · skip
                        have c84_26 := bI_0.mp c84_26
                        refine lv_iinc (v := nI (sx + 1)) (lv' := [(4, .int (nI (sx + 1))), (0, .ref o0), (1, .int (nI mw)), (2, .int (nI w)), (3, .int (pI K))]) hx hb dX1_fillWays_139 hl (k := 4) rfl (nI_1 sx) (by decide) rfl (fun ls hl => ?_)
                        refine lv_goto (tgt := 70) hx hb dX1_fillWays_142 (by decide) ?_
                        exact ih21 (sx + 1) k2 (by omega) (by first | assumption | omega) (by clear hret hl hS hD hP hK hA hN hts hx hb hr hml hown hlocks hiX1 hiX3 ih17 ih19 ih21; rw [show 35 * (w - 1) + 5 * K + (sx + 1) = (35 * (w - 1) + 5 * K + sx) + 1 from by omega, jWay, ← hk2, show (35 * (w - 1) + 5 * K + sx) / 35 + 1 = w from by omega, show (35 * (w - 1) + 5 * K + sx) / 5 % 7 = K from by omega, show (35 * (w - 1) + 5 * K + sx) % 5 = sx from by omega]; simp_all [jWay1]) _ _ _ hP hD hS (lv_sub hl [1, 2, 3, 4, 0] rfl)
                      · skip
                        have c84_26 := bI_n0.mp c84_26
                        refine lv_iload_n hx hb dX1_fillWays_87 rfl (lv_at hl 2 rfl) ?_
                        refine lv_aload_n hx hb dX1_fillWays_88 rfl (lv_at hl 0 rfl) ?_
                        refine va_get (D := D) (ci := 1) (v := .ref aL) (C := RX1) (T := TX1) (N := 10) hx hb hts hiX1 hown hK hP 0 rfl rfl 2 (by decide) (hts (.fieldLink RX1 9 "HeardSecond$Outlook" "lastThen" "[I") (by decide +kernel)) (fun _ h9 => h9) rfl dX1_fillWays_89 ?_
                        refine lv_iload_n hx hb dX1_fillWays_92 rfl (lv_at hl 3 rfl) ?_
                        refine lv_iload hx hb dX1_fillWays_93 (lv_at hl 4 rfl) ?_
                        refine z_bri (z_runS (As := [.int (pI K), .int (nI sx)]) (rest := [.ref aL, .int (nI w)]) ⟨hx, hb, hml, hown, hts⟩ (c_X1_wordPlace (x := pI K) (y := nI sx) _) (va_cwS 2 hts gX1_fillWays_X1_wordPlace rfl rfl rfl (by decide +kernel) ⟨Nat.le_of_ble_eq_true rfl, Nat.le_of_ble_eq_true rfl⟩) hK hP hD hN [] rfl rfl rfl hl.1 rfl (Nat.le_of_ble_eq_true rfl) dX1_fillWays_95 ⟨Nat.zero_le _, Nat.zero_le _⟩) hP hD hS hA [] rfl (fun r_28 u_29 H locs hq_27 hP hS => ?_)
                        obtain rfl : r_28 = ((pI K) + 1) * 5 + (nI sx) := hq_27
                        refine z_top (y := nI (5 * K + sx)) (wp_eq K sx) ?_
                        refine z_bri (z_runSN (As := [.ref aL, .int (nI (5 * K + sx))]) (rest := [.int (nI w)]) ⟨hx, hb, hml, hown, hts⟩ (c_X4_at (n := 35) (q := aL) (f := jLT N kf ou) (x := nI (5 * K + sx)) (by first | assumption | omega) _) (va_cnB (own := RX1) (host := "HeardSecond") (index := 93) 2 hts ggX1_fillWays_X4_at rfl rfl rfl (hN.get 28 rfl) (hts (.initialized RX4) (by decide +kernel)) (by decide +kernel) ⟨Nat.le_of_ble_eq_true rfl, Nat.le_of_ble_eq_true rfl⟩) (hts (.static yX4_at) (by decide +kernel)) hK hP hD hN [6] rfl rfl rfl hl.1 rfl (Nat.le_of_ble_eq_true rfl) dX1_fillWays_98 ⟨Nat.zero_le _, Nat.zero_le _⟩) hP hD hS hA [6] rfl (fun r_31 u_32 H locs hq_30 hP hS => ?_)
                        obtain rfl : r_31 = jAt 35 (jLT N kf ou) (nI (5 * K + sx)) := hq_30
                        refine z_top (y := jLT N kf ou (5 * K + sx)) (jAt_nI (by omega) (by decide)) ?_
                        refine z_bri (z_runS (As := [.int (nI w), .int (jLT N kf ou (5 * K + sx))]) (rest := []) ⟨hx, hb, hml, hown, hts⟩ (c_X1_rowPlace (x := nI w) (y := jLT N kf ou (5 * K + sx)) _) (va_cwS 2 hts gX1_fillWays_X1_rowPlace rfl rfl rfl (by decide +kernel) ⟨Nat.le_of_ble_eq_true rfl, Nat.le_of_ble_eq_true rfl⟩) hK hP hD hN [] rfl rfl rfl hl.1 rfl (Nat.le_of_ble_eq_true rfl) dX1_fillWays_101 ⟨Nat.zero_le _, Nat.zero_le _⟩) hP hD hS hA [] rfl (fun r_34 u_35 H locs hq_33 hP hS => ?_)
                        obtain rfl : r_34 = (nI w) * 7 + (jLT N kf ou (5 * K + sx)) + 1 := hq_33
                        refine z_top (y := jTo w (jLT N kf ou) sx K) (rfl) ?_
                        refine lv_istore (lv' := [(5, .int (jTo w (jLT N kf ou) sx K)), (0, .ref o0), (1, .int (nI mw)), (2, .int (nI w)), (3, .int (pI K)), (4, .int (nI sx))]) hx hb dX1_fillWays_104 hl (by decide) rfl (fun ls hl => ?_)
                        refine lv_aload_n hx hb dX1_fillWays_106 rfl (lv_at hl 1 rfl) ?_
                        refine va_get (D := D) (ci := 1) (v := .ref aY) (C := RX1) (T := TX1) (N := 10) hx hb hts hiX1 hown hK hP 0 rfl rfl 7 (by decide) (hts (.fieldLink RX1 27 "HeardSecond$Outlook" "ways" "[I") (by decide +kernel)) (fun _ h9 => h9) rfl dX1_fillWays_107 ?_
                        refine lv_iload hx hb dX1_fillWays_110 (lv_at hl 0 rfl) ?_
                        refine lv_aload_n hx hb dX1_fillWays_112 rfl (lv_at hl 1 rfl) ?_
                        refine va_get (D := D) (ci := 1) (v := .ref aY) (C := RX1) (T := TX1) (N := 10) hx hb hts hiX1 hown hK hP 0 rfl rfl 7 (by decide) (hts (.fieldLink RX1 27 "HeardSecond$Outlook" "ways" "[I") (by decide +kernel)) (fun _ h9 => h9) rfl dX1_fillWays_113 ?_
                        refine lv_iload hx hb dX1_fillWays_116 (lv_at hl 0 rfl) ?_
                        refine z_bri (z_runSN (As := [.ref aY, .int (jTo w (jLT N kf ou) sx K)]) (rest := [.int (jTo w (jLT N kf ou) sx K), .ref aY]) ⟨hx, hb, hml, hown, hts⟩ (c_X4_at (n := 49) (q := aY) (f := k2) (x := jTo w (jLT N kf ou) sx K) (by first | assumption | omega) _) (va_cnB (own := RX1) (host := "HeardSecond") (index := 93) 2 hts ggX1_fillWays_X4_at rfl rfl rfl (hN.get 28 rfl) (hts (.initialized RX4) (by decide +kernel)) (by decide +kernel) ⟨Nat.le_of_ble_eq_true rfl, Nat.le_of_ble_eq_true rfl⟩) (hts (.static yX4_at) (by decide +kernel)) hK hP hD hN [8] rfl rfl rfl hl.1 rfl (Nat.le_of_ble_eq_true rfl) dX1_fillWays_118 ⟨Nat.zero_le _, Nat.zero_le _⟩) hP hD hS hA [8] rfl (fun r_37 u_38 H locs hq_36 hP hS => ?_)
                        obtain rfl : r_37 = jAt 49 k2 (jTo w (jLT N kf ou) sx K) := hq_36
                        refine lv_aload_n hx hb dX1_fillWays_121 rfl (lv_at hl 1 rfl) ?_
                        refine va_get (D := D) (ci := 1) (v := .ref aY) (C := RX1) (T := TX1) (N := 10) hx hb hts hiX1 hown hK hP 0 rfl rfl 7 (by decide) (hts (.fieldLink RX1 27 "HeardSecond$Outlook" "ways" "[I") (by decide +kernel)) (fun _ h9 => h9) rfl dX1_fillWays_122 ?_
                        refine lv_iload_n hx hb dX1_fillWays_125 rfl (lv_at hl 3 rfl) ?_
                        refine lv_iconst (v := 1) hx hb dX1_fillWays_126 (by decide) ?_
                        refine lv_isub hx hb dX1_fillWays_127 ?_
                        refine lv_iload_n hx hb dX1_fillWays_128 rfl (lv_at hl 4 rfl) ?_
                        refine z_bri (z_runS (As := [.int ((nI w) - 1), .int (pI K)]) (rest := [.ref aY, .int (jAt 49 k2 (jTo w (jLT N kf ou) sx K)), .int (jTo w (jLT N kf ou) sx K), .ref aY]) ⟨hx, hb, hml, hown, hts⟩ (c_X1_rowPlace (x := (nI w) - 1) (y := pI K) _) (va_cwS 2 hts gX1_fillWays_X1_rowPlace rfl rfl rfl (by decide +kernel) ⟨Nat.le_of_ble_eq_true rfl, Nat.le_of_ble_eq_true rfl⟩) hK hP hD hN [] rfl rfl rfl hl.1 rfl (Nat.le_of_ble_eq_true rfl) dX1_fillWays_129 ⟨Nat.zero_le _, Nat.zero_le _⟩) hP hD hS hA [] rfl (fun r_40 u_41 H locs hq_39 hP hS => ?_)
                        obtain rfl : r_40 = ((nI w) - 1) * 7 + (pI K) + 1 := hq_39
                        refine z_top (y := nI (7 * (w - 1) + K)) (rp_eq1 (by omega) K) ?_
                        refine z_bri (z_runSN (As := [.ref aY, .int (nI (7 * (w - 1) + K))]) (rest := [.int (jAt 49 k2 (jTo w (jLT N kf ou) sx K)), .int (jTo w (jLT N kf ou) sx K), .ref aY]) ⟨hx, hb, hml, hown, hts⟩ (c_X4_at (n := 49) (q := aY) (f := k2) (x := nI (7 * (w - 1) + K)) (by first | assumption | omega) _) (va_cnB (own := RX1) (host := "HeardSecond") (index := 93) 2 hts ggX1_fillWays_X4_at rfl rfl rfl (hN.get 28 rfl) (hts (.initialized RX4) (by decide +kernel)) (by decide +kernel) ⟨Nat.le_of_ble_eq_true rfl, Nat.le_of_ble_eq_true rfl⟩) (hts (.static yX4_at) (by decide +kernel)) hK hP hD hN [8] rfl rfl rfl hl.1 rfl (Nat.le_of_ble_eq_true rfl) dX1_fillWays_132 ⟨Nat.zero_le _, Nat.zero_le _⟩) hP hD hS hA [8] rfl (fun r_43 u_44 H locs hq_42 hP hS => ?_)
                        obtain rfl : r_43 = jAt 49 k2 (nI (7 * (w - 1) + K)) := hq_42
                        refine lv_iadd hx hb dX1_fillWays_135 ?_
                        refine z_bwv (wr := [(o0, .inr (1, [.ref b0, .ref t0, .ref aL, .ref aB, .ref aS, .ref aW, .ref aE, .ref aY, .ref aZ, .ref aF])), (b0, .inr (0, [.ref qk, .ref qs, .int (nI N), .int pt])), (qk, .inl (cA, 5, .inl kf)), (t0, .inr (3, [.int (pI L), .int (pI B), .int ou, .int si, .int en, .int w0, .int w1, .int br, .ref wd, .int (nI t), .ref tw, .ref ts])), (tw, .inl (cA, 8, .inl ftw)), (ts, .inl (cA, 8, .inl fts)), (aL, .inl (cA, 35, .inl (jLT N kf ou))), (aB, .inl (cA, 35, .inl (jBT N kf ou)))]) (ws' := fun (_ : Unit) => [(o0, .inr (1, [.ref b0, .ref t0, .ref aL, .ref aB, .ref aS, .ref aW, .ref aE, .ref aY, .ref aZ, .ref aF])), (b0, .inr (0, [.ref qk, .ref qs, .int (nI N), .int pt])), (qk, .inl (cA, 5, .inl kf)), (t0, .inr (3, [.int (pI L), .int (pI B), .int ou, .int si, .int en, .int w0, .int w1, .int br, .ref wd, .int (nI t), .ref tw, .ref ts])), (tw, .inl (cA, 8, .inl ftw)), (ts, .inl (cA, 8, .inl fts)), (aL, .inl (cA, 35, .inl (jLT N kf ou))), (aB, .inl (cA, 35, .inl (jBT N kf ou))), (aY, .inl (cA, 49, .inl (jPut 49 k2 (jTo w (jLT N kf ou) sx K) ((jAt 49 k2 (jTo w (jLT N kf ou) sx K)) + (jAt 49 k2 (nI (7 * (w - 1) + K)))))))]) (z_runSN (As := [.ref aY, .int (jTo w (jLT N kf ou) sx K), .int ((jAt 49 k2 (jTo w (jLT N kf ou) sx K)) + (jAt 49 k2 (nI (7 * (w - 1) + K))))]) (rest := []) ⟨hx, hb, hml, hown, hts⟩ (c_X4_put (n := 49) (q := aY) (f := k2) (x := jTo w (jLT N kf ou) sx K) (v := (jAt 49 k2 (jTo w (jLT N kf ou) sx K)) + (jAt 49 k2 (nI (7 * (w - 1) + K)))) (by first | assumption | omega) _) (va_cnB (own := RX1) (host := "HeardSecond") (index := 64) 3 hts ggX1_fillWays_X4_put rfl rfl rfl (hN.get 26 rfl) (hts (.initialized RX4) (by decide +kernel)) (by decide +kernel) ⟨Nat.le_of_ble_eq_true rfl, Nat.le_of_ble_eq_true rfl⟩) (hts (.static yX4_put) (by decide +kernel)) hK hP hD hN [8] rfl rfl rfl hl.1 rfl (Nat.le_of_ble_eq_true rfl) dX1_fillWays_136 ⟨Nat.zero_le _, Nat.zero_le _⟩) hP hD hS hA [8] [0, 1, 2, 3, 4, 5, 6, 7] [0, 1, 2, 3, 4, 5, 6, 7, 8] rfl rfl rfl (by decide) rfl (fun _ => rfl) (fun u_47 H locs hq_45 hP hD hS => ?_)
                        have hP : va_P D vwCl [(o0, .inr (1, [.ref b0, .ref t0, .ref aL, .ref aB, .ref aS, .ref aW, .ref aE, .ref aY, .ref aZ, .ref aF])), (b0, .inr (0, [.ref qk, .ref qs, .int (nI N), .int pt])), (qk, .inl (cA, 5, .inl kf)), (t0, .inr (3, [.int (pI L), .int (pI B), .int ou, .int si, .int en, .int w0, .int w1, .int br, .ref wd, .int (nI t), .ref tw, .ref ts])), (tw, .inl (cA, 8, .inl ftw)), (ts, .inl (cA, 8, .inl fts)), (aL, .inl (cA, 35, .inl (jLT N kf ou))), (aB, .inl (cA, 35, .inl (jBT N kf ou))), (aY, .inl (cA, 49, .inl (jPut 49 k2 (jTo w (jLT N kf ou) sx K) ((jAt 49 k2 (jTo w (jLT N kf ou) sx K)) + (jAt 49 k2 (nI (7 * (w - 1) + K)))))))] H := hP
                        have hD : va_D A [(o0, .inr (1, [.ref b0, .ref t0, .ref aL, .ref aB, .ref aS, .ref aW, .ref aE, .ref aY, .ref aZ, .ref aF])), (b0, .inr (0, [.ref qk, .ref qs, .int (nI N), .int pt])), (qk, .inl (cA, 5, .inl kf)), (t0, .inr (3, [.int (pI L), .int (pI B), .int ou, .int si, .int en, .int w0, .int w1, .int br, .ref wd, .int (nI t), .ref tw, .ref ts])), (tw, .inl (cA, 8, .inl ftw)), (ts, .inl (cA, 8, .inl fts)), (aL, .inl (cA, 35, .inl (jLT N kf ou))), (aB, .inl (cA, 35, .inl (jBT N kf ou))), (aY, .inl (cA, 49, .inl (jPut 49 k2 (jTo w (jLT N kf ou) sx K) ((jAt 49 k2 (jTo w (jLT N kf ou) sx K)) + (jAt 49 k2 (nI (7 * (w - 1) + K)))))))] := hD
                        refine lv_iinc (v := nI (sx + 1)) (lv' := [(4, .int (nI (sx + 1))), (5, .int (jTo w (jLT N kf ou) sx K)), (0, .ref o0), (1, .int (nI mw)), (2, .int (nI w)), (3, .int (pI K))]) hx hb dX1_fillWays_139 hl (k := 5) rfl (nI_1 sx) (by decide) rfl (fun ls hl => ?_)
                        refine lv_goto (tgt := 70) hx hb dX1_fillWays_142 (by decide) ?_
                        exact ih21 (sx + 1) (jPut 49 k2 (jTo w (jLT N kf ou) sx K) ((jAt 49 k2 (jTo w (jLT N kf ou) sx K)) + (jAt 49 k2 (nI (7 * (w - 1) + K))))) (by omega) (by first | assumption | omega) (by clear hret hl hS hD hP hK hA hN hts hx hb hr hml hown hlocks hiX1 hiX3 ih17 ih19 ih21; rw [show 35 * (w - 1) + 5 * K + (sx + 1) = (35 * (w - 1) + 5 * K + sx) + 1 from by omega, jWay, ← hk2, show (35 * (w - 1) + 5 * K + sx) / 35 + 1 = w from by omega, show (35 * (w - 1) + 5 * K + sx) / 5 % 7 = K from by omega, show (35 * (w - 1) + 5 * K + sx) % 5 = sx from by omega]; simp_all [jWay1]) _ _ _ hP hD hS (lv_sub hl [2, 3, 4, 5, 0] rfl)
                exact L70 6 0 k (by omega) (by first | assumption | omega) (by clear hret hl hS hD hP hK hA hN hts hx hb hr hml hown hlocks hiX1 hiX3 ih17 ih19 L70; exact hk) _ _ _ hP hD hS (lv_sub hl [1, 2, 3, 4, 0] rfl)
          exact L62 8 0 g (by omega) (by first | assumption | omega) (by clear hret hl hS hD hP hK hA hN hts hx hb hr hml hown hlocks hiX1 hiX3 ih17 L62; exact hg) _ _ _ hP hD hS (lv_sub hl [1, 2, 3, 0] rfl)
    exact L55 8 1 (jPut 49 (fun _ => 0) (nI L) 0) (by omega) (by first | assumption | omega) (by first | assumption | omega) (by clear hret hl hS hD hP hK hA hN hts hx hb hr hml hown hlocks hiX1 hiX3 L55; rw [jPut_nI (by omega) (by decide)]; show _ = jWay0 t ftw fts L B; unfold jWay0; simp_all [bI]) _ _ _ hP hD hS (lv_sub hl [1, 2, 0] rfl)
  · skip
    have c42_13 := bI_n0.mp c42_13
    refine lv_iconst (v := 1) hx hb dX1_fillWays_45 (by decide) ?_
    refine lv_goto (tgt := 50) hx hb dX1_fillWays_46 (by decide) ?_
    refine z_bwv (wr := [(o0, .inr (1, [.ref b0, .ref t0, .ref aL, .ref aB, .ref aS, .ref aW, .ref aE, .ref aY, .ref aZ, .ref aF])), (b0, .inr (0, [.ref qk, .ref qs, .int (nI N), .int pt])), (qk, .inl (cA, 5, .inl kf)), (t0, .inr (3, [.int (pI L), .int (pI B), .int ou, .int si, .int en, .int w0, .int w1, .int br, .ref wd, .int (nI t), .ref tw, .ref ts])), (tw, .inl (cA, 8, .inl ftw)), (ts, .inl (cA, 8, .inl fts)), (aL, .inl (cA, 35, .inl (jLT N kf ou))), (aB, .inl (cA, 35, .inl (jBT N kf ou)))]) (ws' := fun (_ : Unit) => [(o0, .inr (1, [.ref b0, .ref t0, .ref aL, .ref aB, .ref aS, .ref aW, .ref aE, .ref aY, .ref aZ, .ref aF])), (b0, .inr (0, [.ref qk, .ref qs, .int (nI N), .int pt])), (qk, .inl (cA, 5, .inl kf)), (t0, .inr (3, [.int (pI L), .int (pI B), .int ou, .int si, .int en, .int w0, .int w1, .int br, .ref wd, .int (nI t), .ref tw, .ref ts])), (tw, .inl (cA, 8, .inl ftw)), (ts, .inl (cA, 8, .inl fts)), (aL, .inl (cA, 35, .inl (jLT N kf ou))), (aB, .inl (cA, 35, .inl (jBT N kf ou))), (aY, .inl (cA, 49, .inl (jPut 49 (fun _ => 0) (nI L) 1)))]) (z_runSN (As := [.ref aY, .int (nI L), .int 1]) (rest := []) ⟨hx, hb, hml, hown, hts⟩ (c_X4_put (n := 49) (q := aY) (f := fun _ => 0) (x := nI L) (v := 1) (by first | assumption | omega) _) (va_cnB (own := RX1) (host := "HeardSecond") (index := 64) 3 hts ggX1_fillWays_X4_put rfl rfl rfl (hN.get 26 rfl) (hts (.initialized RX4) (by decide +kernel)) (by decide +kernel) ⟨Nat.le_of_ble_eq_true rfl, Nat.le_of_ble_eq_true rfl⟩) (hts (.static yX4_put) (by decide +kernel)) hK hP hD hN [8] rfl rfl rfl hl.1 rfl (Nat.le_of_ble_eq_true rfl) dX1_fillWays_50 ⟨Nat.zero_le _, Nat.zero_le _⟩) hP hD hS hA [8] [0, 1, 2, 3, 4, 5, 6, 7] [0, 1, 2, 3, 4, 5, 6, 7, 8] rfl rfl rfl (by decide) rfl (fun _ => rfl) (fun u_50 H locs hq_48 hP hD hS => ?_)
    have hP : va_P D vwCl [(o0, .inr (1, [.ref b0, .ref t0, .ref aL, .ref aB, .ref aS, .ref aW, .ref aE, .ref aY, .ref aZ, .ref aF])), (b0, .inr (0, [.ref qk, .ref qs, .int (nI N), .int pt])), (qk, .inl (cA, 5, .inl kf)), (t0, .inr (3, [.int (pI L), .int (pI B), .int ou, .int si, .int en, .int w0, .int w1, .int br, .ref wd, .int (nI t), .ref tw, .ref ts])), (tw, .inl (cA, 8, .inl ftw)), (ts, .inl (cA, 8, .inl fts)), (aL, .inl (cA, 35, .inl (jLT N kf ou))), (aB, .inl (cA, 35, .inl (jBT N kf ou))), (aY, .inl (cA, 49, .inl (jPut 49 (fun _ => 0) (nI L) 1)))] H := hP
    have hD : va_D A [(o0, .inr (1, [.ref b0, .ref t0, .ref aL, .ref aB, .ref aS, .ref aW, .ref aE, .ref aY, .ref aZ, .ref aF])), (b0, .inr (0, [.ref qk, .ref qs, .int (nI N), .int pt])), (qk, .inl (cA, 5, .inl kf)), (t0, .inr (3, [.int (pI L), .int (pI B), .int ou, .int si, .int en, .int w0, .int w1, .int br, .ref wd, .int (nI t), .ref tw, .ref ts])), (tw, .inl (cA, 8, .inl ftw)), (ts, .inl (cA, 8, .inl fts)), (aL, .inl (cA, 35, .inl (jLT N kf ou))), (aB, .inl (cA, 35, .inl (jBT N kf ou))), (aY, .inl (cA, 49, .inl (jPut 49 (fun _ => 0) (nI L) 1)))] := hD
    refine lv_iconst (v := nI 1) hx hb dX1_fillWays_53 (by decide) ?_
    refine lv_istore_n (lv' := [(2, .int (nI 1)), (0, .ref o0), (1, .int (nI mw))]) hx hb dX1_fillWays_54 rfl hl (by decide) rfl (fun ls hl => ?_)
    have L55 : ∀ (n_ : Nat) (w : Nat) (g : Nat → Int32) (hm_ : mw + 2 ≤ w + n_) (hw1 : 1 ≤ w) (hw : w ≤ mw + 1) (hg : g = jWay (jLT N kf ou) (jBT N kf ou) t ftw fts (jWay0 t ftw fts L B) (35 * (w - 1))) (H : Heap) (locs : List Loc) (ls : Array Slot), va_P D vwCl [(o0, .inr (1, [.ref b0, .ref t0, .ref aL, .ref aB, .ref aS, .ref aW, .ref aE, .ref aY, .ref aZ, .ref aF])), (b0, .inr (0, [.ref qk, .ref qs, .int (nI N), .int pt])), (qk, .inl (cA, 5, .inl kf)), (t0, .inr (3, [.int (pI L), .int (pI B), .int ou, .int si, .int en, .int w0, .int w1, .int br, .ref wd, .int (nI t), .ref tw, .ref ts])), (tw, .inl (cA, 8, .inl ftw)), (ts, .inl (cA, 8, .inl fts)), (aL, .inl (cA, 35, .inl (jLT N kf ou))), (aB, .inl (cA, 35, .inl (jBT N kf ou))), (aY, .inl (cA, 49, .inl g))] H → va_D A [(o0, .inr (1, [.ref b0, .ref t0, .ref aL, .ref aB, .ref aS, .ref aW, .ref aE, .ref aY, .ref aZ, .ref aF])), (b0, .inr (0, [.ref qk, .ref qs, .int (nI N), .int pt])), (qk, .inl (cA, 5, .inl kf)), (t0, .inr (3, [.int (pI L), .int (pI B), .int ou, .int si, .int en, .int w0, .int w1, .int br, .ref wd, .int (nI t), .ref tw, .ref ts])), (tw, .inl (cA, 8, .inl ftw)), (ts, .inl (cA, 8, .inl fts)), (aL, .inl (cA, 35, .inl (jLT N kf ou))), (aB, .inl (cA, 35, .inl (jBT N kf ou))), (aY, .inl (cA, 49, .inl g))] → va_S A H0 H locs → lv_has ls 6 [(0, .ref o0), (1, .int (nI mw)), (2, .int (nI w))] → W p l e rm_c_X1_fillWays s m args below meth c H locs 0 0 Q (F0 m 55 ls []) := by
      intro n_
      induction n_ with
      | zero =>
        intro w g hm_ hw1 hw hg
        exact absurd hm_ (by omega)
      | succ n_ ih_ =>
        intro w g hm_ hw1 hw hg H locs ls hP hD hS hl
        have ih51 := ih_
        clear ih_
        refine lv_iload_n hx hb dX1_fillWays_55 rfl (lv_at hl 2 rfl) ?_
        refine lv_iload_n hx hb dX1_fillWays_56 rfl (lv_at hl 1 rfl) ?_
        refine lv_icmp_gt (tgt := 157) hx hb dX1_fillWays_57 (by decide) (fun c57_52 => ?_) (fun c57_52 => ?_)
        · skip
          have ht_ : w = mw + 1 := by have := (nI_ltI (a := mw) (b := w) (by omega) (by omega)).mp c57_52; omega
          -- path 2
          have hP : va_P D vwCl [(o0, .inr (1, [.ref b0, .ref t0, .ref aL, .ref aB, .ref aS, .ref aW, .ref aE, .ref aY, .ref aZ, .ref aF])), (b0, .inr (0, [.ref qk, .ref qs, .int (nI N), .int pt])), (qk, .inl (cA, 5, .inl kf)), (t0, .inr (3, [.int (pI L), .int (pI B), .int ou, .int si, .int en, .int w0, .int w1, .int br, .ref wd, .int (nI t), .ref tw, .ref ts])), (tw, .inl (cA, 8, .inl ftw)), (ts, .inl (cA, 8, .inl fts)), (aL, .inl (cA, 35, .inl (jLT N kf ou))), (aB, .inl (cA, 35, .inl (jBT N kf ou))), (aY, .inl (cA, 49, .inl (jWay (jLT N kf ou) (jBT N kf ou) t ftw fts (jWay0 t ftw fts L B) (35 * mw))))] H := z_arrP hP 8 (g := (jWay (jLT N kf ou) (jBT N kf ou) t ftw fts (jWay0 t ftw fts L B) (35 * mw))) rfl (by clear hret hl hS hD hP hK hA hN hts hx hb hr hml hown hlocks hiX1 hiX3 ih51; intro p hp; rw [hg, ht_]; rfl) rfl
          have hD : va_D A [(o0, .inr (1, [.ref b0, .ref t0, .ref aL, .ref aB, .ref aS, .ref aW, .ref aE, .ref aY, .ref aZ, .ref aF])), (b0, .inr (0, [.ref qk, .ref qs, .int (nI N), .int pt])), (qk, .inl (cA, 5, .inl kf)), (t0, .inr (3, [.int (pI L), .int (pI B), .int ou, .int si, .int en, .int w0, .int w1, .int br, .ref wd, .int (nI t), .ref tw, .ref ts])), (tw, .inl (cA, 8, .inl ftw)), (ts, .inl (cA, 8, .inl fts)), (aL, .inl (cA, 35, .inl (jLT N kf ou))), (aB, .inl (cA, 35, .inl (jBT N kf ou))), (aY, .inl (cA, 49, .inl (jWay (jLT N kf ou) (jBT N kf ou) t ftw fts (jWay0 t ftw fts L B) (35 * mw))))] := z_arrD hD 8 rfl rfl
          exact hret () _ _ _ _ dX1_fillWays_157 (by trivial) hP hD hS
        · skip
          have hltw : w ≤ mw := Nat.le_of_not_lt (fun q_ => c57_52 ((nI_ltI (a := mw) (b := w) (by omega) (by omega)).mpr q_))
          refine lv_iconst (v := pI 0) hx hb dX1_fillWays_60 (by decide) ?_
          refine lv_istore_n (lv' := [(3, .int (pI 0)), (0, .ref o0), (1, .int (nI mw)), (2, .int (nI w))]) hx hb dX1_fillWays_61 rfl hl (by decide) rfl (fun ls hl => ?_)
          have L62 : ∀ (n_ : Nat) (K : Nat) (k : Nat → Int32) (hm_ : 8 ≤ K + n_) (hK_ : K ≤ 7) (hk : k = jWay (jLT N kf ou) (jBT N kf ou) t ftw fts (jWay0 t ftw fts L B) (35 * (w - 1) + 5 * K)) (H : Heap) (locs : List Loc) (ls : Array Slot), va_P D vwCl [(o0, .inr (1, [.ref b0, .ref t0, .ref aL, .ref aB, .ref aS, .ref aW, .ref aE, .ref aY, .ref aZ, .ref aF])), (b0, .inr (0, [.ref qk, .ref qs, .int (nI N), .int pt])), (qk, .inl (cA, 5, .inl kf)), (t0, .inr (3, [.int (pI L), .int (pI B), .int ou, .int si, .int en, .int w0, .int w1, .int br, .ref wd, .int (nI t), .ref tw, .ref ts])), (tw, .inl (cA, 8, .inl ftw)), (ts, .inl (cA, 8, .inl fts)), (aL, .inl (cA, 35, .inl (jLT N kf ou))), (aB, .inl (cA, 35, .inl (jBT N kf ou))), (aY, .inl (cA, 49, .inl k))] H → va_D A [(o0, .inr (1, [.ref b0, .ref t0, .ref aL, .ref aB, .ref aS, .ref aW, .ref aE, .ref aY, .ref aZ, .ref aF])), (b0, .inr (0, [.ref qk, .ref qs, .int (nI N), .int pt])), (qk, .inl (cA, 5, .inl kf)), (t0, .inr (3, [.int (pI L), .int (pI B), .int ou, .int si, .int en, .int w0, .int w1, .int br, .ref wd, .int (nI t), .ref tw, .ref ts])), (tw, .inl (cA, 8, .inl ftw)), (ts, .inl (cA, 8, .inl fts)), (aL, .inl (cA, 35, .inl (jLT N kf ou))), (aB, .inl (cA, 35, .inl (jBT N kf ou))), (aY, .inl (cA, 49, .inl k))] → va_S A H0 H locs → lv_has ls 6 [(0, .ref o0), (1, .int (nI mw)), (2, .int (nI w)), (3, .int (pI K))] → W p l e rm_c_X1_fillWays s m args below meth c H locs 0 0 Q (F0 m 62 ls []) := by
            intro n_
            induction n_ with
            | zero =>
              intro K k hm_ hK_ hk
              exact absurd hm_ (by omega)
            | succ n_ ih_ =>
              intro K k hm_ hK_ hk H locs ls hP hD hS hl
              have ih53 := ih_
              clear ih_
              refine lv_iload_n hx hb dX1_fillWays_62 rfl (lv_at hl 3 rfl) ?_
              refine lv_iconst (v := 5) hx hb dX1_fillWays_63 (by decide) ?_
              refine lv_icmp_gt (tgt := 151) hx hb dX1_fillWays_64 (by decide) (fun c64_54 => ?_) (fun c64_54 => ?_)
              · skip
                have ht_ : K = 7 := by have := (pI_7 K (by omega)).mp c64_54; omega
                refine lv_iinc (v := nI (w + 1)) (lv' := [(2, .int (nI (w + 1))), (0, .ref o0), (1, .int (nI mw)), (3, .int (pI K))]) hx hb dX1_fillWays_151 hl (k := 2) rfl (nI_1 w) (by decide) rfl (fun ls hl => ?_)
                refine lv_goto (tgt := 55) hx hb dX1_fillWays_154 (by decide) ?_
                exact ih51 (w + 1) k (by omega) (by first | assumption | omega) (by first | assumption | omega) (by clear hret hl hS hD hP hK hA hN hts hx hb hr hml hown hlocks hiX1 hiX3 ih51 ih53; rw [hk, ht_, show 35 * (w - 1) + 5 * 7 = 35 * (w + 1 - 1) from by omega]) _ _ _ hP hD hS (lv_sub hl [1, 2, 0] rfl)
              · skip
                have hltK : K < 7 := Nat.lt_of_not_le (fun q_ => c64_54 ((pI_7 K (by omega)).mpr q_))
                refine lv_iconst (v := nI 0) hx hb dX1_fillWays_67 (by decide) ?_
                refine lv_istore (lv' := [(4, .int (nI 0)), (0, .ref o0), (1, .int (nI mw)), (2, .int (nI w)), (3, .int (pI K))]) hx hb dX1_fillWays_68 hl (by decide) rfl (fun ls hl => ?_)
                have L70 : ∀ (n_ : Nat) (sx : Nat) (k2 : Nat → Int32) (hm_ : 6 ≤ sx + n_) (hs : sx ≤ 5) (hk2 : k2 = jWay (jLT N kf ou) (jBT N kf ou) t ftw fts (jWay0 t ftw fts L B) (35 * (w - 1) + 5 * K + sx)) (H : Heap) (locs : List Loc) (ls : Array Slot), va_P D vwCl [(o0, .inr (1, [.ref b0, .ref t0, .ref aL, .ref aB, .ref aS, .ref aW, .ref aE, .ref aY, .ref aZ, .ref aF])), (b0, .inr (0, [.ref qk, .ref qs, .int (nI N), .int pt])), (qk, .inl (cA, 5, .inl kf)), (t0, .inr (3, [.int (pI L), .int (pI B), .int ou, .int si, .int en, .int w0, .int w1, .int br, .ref wd, .int (nI t), .ref tw, .ref ts])), (tw, .inl (cA, 8, .inl ftw)), (ts, .inl (cA, 8, .inl fts)), (aL, .inl (cA, 35, .inl (jLT N kf ou))), (aB, .inl (cA, 35, .inl (jBT N kf ou))), (aY, .inl (cA, 49, .inl k2))] H → va_D A [(o0, .inr (1, [.ref b0, .ref t0, .ref aL, .ref aB, .ref aS, .ref aW, .ref aE, .ref aY, .ref aZ, .ref aF])), (b0, .inr (0, [.ref qk, .ref qs, .int (nI N), .int pt])), (qk, .inl (cA, 5, .inl kf)), (t0, .inr (3, [.int (pI L), .int (pI B), .int ou, .int si, .int en, .int w0, .int w1, .int br, .ref wd, .int (nI t), .ref tw, .ref ts])), (tw, .inl (cA, 8, .inl ftw)), (ts, .inl (cA, 8, .inl fts)), (aL, .inl (cA, 35, .inl (jLT N kf ou))), (aB, .inl (cA, 35, .inl (jBT N kf ou))), (aY, .inl (cA, 49, .inl k2))] → va_S A H0 H locs → lv_has ls 6 [(0, .ref o0), (1, .int (nI mw)), (2, .int (nI w)), (3, .int (pI K)), (4, .int (nI sx))] → W p l e rm_c_X1_fillWays s m args below meth c H locs 0 0 Q (F0 m 70 ls []) := by
                  intro n_
                  induction n_ with
                  | zero =>
                    intro sx k2 hm_ hs hk2
                    exact absurd hm_ (by omega)
                  | succ n_ ih_ =>
                    intro sx k2 hm_ hs hk2 H locs ls hP hD hS hl
                    have ih55 := ih_
                    clear ih_
                    refine lv_iload hx hb dX1_fillWays_70 (lv_at hl 4 rfl) ?_
                    refine lv_iconst (v := 5) hx hb dX1_fillWays_72 (by decide) ?_
                    refine lv_icmp_ge (tgt := 145) hx hb dX1_fillWays_73 (by decide) (fun c73_56 => ?_) (fun c73_56 => ?_)
                    · skip
                      have ht_ : sx = 5 := by have := (nI_leI (a := 5) (b := sx) (by omega) (by omega)).mp c73_56; omega
                      refine lv_iinc (v := pI (K + 1)) (lv' := [(3, .int (pI (K + 1))), (0, .ref o0), (1, .int (nI mw)), (2, .int (nI w)), (4, .int (nI sx))]) hx hb dX1_fillWays_145 hl (k := 3) rfl (pI_1 K) (by decide) rfl (fun ls hl => ?_)
                      refine lv_goto (tgt := 62) hx hb dX1_fillWays_148 (by decide) ?_
                      exact ih53 (K + 1) k2 (by omega) (by first | assumption | omega) (by clear hret hl hS hD hP hK hA hN hts hx hb hr hml hown hlocks hiX1 hiX3 ih51 ih53 ih55; rw [hk2, ht_, show 35 * (w - 1) + 5 * K + 5 = 35 * (w - 1) + 5 * (K + 1) from by omega]) _ _ _ hP hD hS (lv_sub hl [1, 2, 3, 0] rfl)
                    · skip
                      have hltsx : sx < 5 := Nat.lt_of_not_le (fun q_ => c73_56 ((nI_leI (a := 5) (b := sx) (by omega) (by omega)).mpr q_))
                      refine lv_aload_n hx hb dX1_fillWays_76 rfl (lv_at hl 0 rfl) ?_
                      refine lv_iload_n hx hb dX1_fillWays_77 rfl (lv_at hl 2 rfl) ?_
                      refine lv_iload hx hb dX1_fillWays_78 (lv_at hl 4 rfl) ?_
                      refine lv_iload_n hx hb dX1_fillWays_80 rfl (lv_at hl 3 rfl) ?_
                      refine z_bri (z_runV (As := [.int (nI w), .int (nI sx), .int (pI K)]) (rest := []) (ci := 1) ⟨hx, hb, hml, hown, hts⟩ (c_X1_canBeWord (o0 := o0) (b0 := b0) (t0 := t0) (aL := aL) (aB := aB) (aS := aS) (aW := aW) (aE := aE) (aY := aY) (aZ := aZ) (aF := aF) (wd := wd) (tw := tw) (ts := ts) (t := t) (la := pI L) (be := pI B) (ou := ou) (si := si) (en := en) (w0 := w0) (w1 := w1) (br := br) (ftw := ftw) (fts := fts) (lt := jLT N kf ou) (bt := jBT N kf ou) (sx := sx) (L := K) (x := nI w) (by first | assumption | omega) (by first | assumption | omega) (by first | assumption | omega) _) (cwV 3 hts gX1_fillWays_X1_canBeWord rfl rfl rfl (by decide +kernel) ⟨Nat.le_of_ble_eq_true rfl, Nat.le_of_ble_eq_true rfl⟩) hK hP hD hN [0, 3, 4, 5, 6, 7] rfl rfl rfl rfl rfl hl.1 rfl (Nat.le_of_ble_eq_true rfl) dX1_fillWays_81 ⟨Nat.zero_le _, Nat.zero_le _⟩) hP hD hS hA [0, 3, 4, 5, 6, 7] rfl (fun r_58 u_59 H locs hq_57 hP hS => ?_)
                      obtain rfl : r_58 = bI (jOk (jLT N kf ou) (jBT N kf ou) t ftw fts (nI w) sx K) := hq_57
                      refine lv_if_eq (tgt := 139) hx hb dX1_fillWays_84 (by decide) (fun c84_60 => ?_) (fun c84_60 => ?_)
                      · skip
                        have c84_60 := bI_0.mp c84_60
                        refine lv_iinc (v := nI (sx + 1)) (lv' := [(4, .int (nI (sx + 1))), (0, .ref o0), (1, .int (nI mw)), (2, .int (nI w)), (3, .int (pI K))]) hx hb dX1_fillWays_139 hl (k := 4) rfl (nI_1 sx) (by decide) rfl (fun ls hl => ?_)
                        refine lv_goto (tgt := 70) hx hb dX1_fillWays_142 (by decide) ?_
                        exact ih55 (sx + 1) k2 (by omega) (by first | assumption | omega) (by clear hret hl hS hD hP hK hA hN hts hx hb hr hml hown hlocks hiX1 hiX3 ih51 ih53 ih55; rw [show 35 * (w - 1) + 5 * K + (sx + 1) = (35 * (w - 1) + 5 * K + sx) + 1 from by omega, jWay, ← hk2, show (35 * (w - 1) + 5 * K + sx) / 35 + 1 = w from by omega, show (35 * (w - 1) + 5 * K + sx) / 5 % 7 = K from by omega, show (35 * (w - 1) + 5 * K + sx) % 5 = sx from by omega]; simp_all [jWay1]) _ _ _ hP hD hS (lv_sub hl [1, 2, 3, 4, 0] rfl)
                      · skip
                        have c84_60 := bI_n0.mp c84_60
                        refine lv_iload_n hx hb dX1_fillWays_87 rfl (lv_at hl 2 rfl) ?_
                        refine lv_aload_n hx hb dX1_fillWays_88 rfl (lv_at hl 0 rfl) ?_
                        refine va_get (D := D) (ci := 1) (v := .ref aL) (C := RX1) (T := TX1) (N := 10) hx hb hts hiX1 hown hK hP 0 rfl rfl 2 (by decide) (hts (.fieldLink RX1 9 "HeardSecond$Outlook" "lastThen" "[I") (by decide +kernel)) (fun _ h9 => h9) rfl dX1_fillWays_89 ?_
                        refine lv_iload_n hx hb dX1_fillWays_92 rfl (lv_at hl 3 rfl) ?_
                        refine lv_iload hx hb dX1_fillWays_93 (lv_at hl 4 rfl) ?_
                        refine z_bri (z_runS (As := [.int (pI K), .int (nI sx)]) (rest := [.ref aL, .int (nI w)]) ⟨hx, hb, hml, hown, hts⟩ (c_X1_wordPlace (x := pI K) (y := nI sx) _) (va_cwS 2 hts gX1_fillWays_X1_wordPlace rfl rfl rfl (by decide +kernel) ⟨Nat.le_of_ble_eq_true rfl, Nat.le_of_ble_eq_true rfl⟩) hK hP hD hN [] rfl rfl rfl hl.1 rfl (Nat.le_of_ble_eq_true rfl) dX1_fillWays_95 ⟨Nat.zero_le _, Nat.zero_le _⟩) hP hD hS hA [] rfl (fun r_62 u_63 H locs hq_61 hP hS => ?_)
                        obtain rfl : r_62 = ((pI K) + 1) * 5 + (nI sx) := hq_61
                        refine z_top (y := nI (5 * K + sx)) (wp_eq K sx) ?_
                        refine z_bri (z_runSN (As := [.ref aL, .int (nI (5 * K + sx))]) (rest := [.int (nI w)]) ⟨hx, hb, hml, hown, hts⟩ (c_X4_at (n := 35) (q := aL) (f := jLT N kf ou) (x := nI (5 * K + sx)) (by first | assumption | omega) _) (va_cnB (own := RX1) (host := "HeardSecond") (index := 93) 2 hts ggX1_fillWays_X4_at rfl rfl rfl (hN.get 28 rfl) (hts (.initialized RX4) (by decide +kernel)) (by decide +kernel) ⟨Nat.le_of_ble_eq_true rfl, Nat.le_of_ble_eq_true rfl⟩) (hts (.static yX4_at) (by decide +kernel)) hK hP hD hN [6] rfl rfl rfl hl.1 rfl (Nat.le_of_ble_eq_true rfl) dX1_fillWays_98 ⟨Nat.zero_le _, Nat.zero_le _⟩) hP hD hS hA [6] rfl (fun r_65 u_66 H locs hq_64 hP hS => ?_)
                        obtain rfl : r_65 = jAt 35 (jLT N kf ou) (nI (5 * K + sx)) := hq_64
                        refine z_top (y := jLT N kf ou (5 * K + sx)) (jAt_nI (by omega) (by decide)) ?_
                        refine z_bri (z_runS (As := [.int (nI w), .int (jLT N kf ou (5 * K + sx))]) (rest := []) ⟨hx, hb, hml, hown, hts⟩ (c_X1_rowPlace (x := nI w) (y := jLT N kf ou (5 * K + sx)) _) (va_cwS 2 hts gX1_fillWays_X1_rowPlace rfl rfl rfl (by decide +kernel) ⟨Nat.le_of_ble_eq_true rfl, Nat.le_of_ble_eq_true rfl⟩) hK hP hD hN [] rfl rfl rfl hl.1 rfl (Nat.le_of_ble_eq_true rfl) dX1_fillWays_101 ⟨Nat.zero_le _, Nat.zero_le _⟩) hP hD hS hA [] rfl (fun r_68 u_69 H locs hq_67 hP hS => ?_)
                        obtain rfl : r_68 = (nI w) * 7 + (jLT N kf ou (5 * K + sx)) + 1 := hq_67
                        refine z_top (y := jTo w (jLT N kf ou) sx K) (rfl) ?_
                        refine lv_istore (lv' := [(5, .int (jTo w (jLT N kf ou) sx K)), (0, .ref o0), (1, .int (nI mw)), (2, .int (nI w)), (3, .int (pI K)), (4, .int (nI sx))]) hx hb dX1_fillWays_104 hl (by decide) rfl (fun ls hl => ?_)
                        refine lv_aload_n hx hb dX1_fillWays_106 rfl (lv_at hl 1 rfl) ?_
                        refine va_get (D := D) (ci := 1) (v := .ref aY) (C := RX1) (T := TX1) (N := 10) hx hb hts hiX1 hown hK hP 0 rfl rfl 7 (by decide) (hts (.fieldLink RX1 27 "HeardSecond$Outlook" "ways" "[I") (by decide +kernel)) (fun _ h9 => h9) rfl dX1_fillWays_107 ?_
                        refine lv_iload hx hb dX1_fillWays_110 (lv_at hl 0 rfl) ?_
                        refine lv_aload_n hx hb dX1_fillWays_112 rfl (lv_at hl 1 rfl) ?_
                        refine va_get (D := D) (ci := 1) (v := .ref aY) (C := RX1) (T := TX1) (N := 10) hx hb hts hiX1 hown hK hP 0 rfl rfl 7 (by decide) (hts (.fieldLink RX1 27 "HeardSecond$Outlook" "ways" "[I") (by decide +kernel)) (fun _ h9 => h9) rfl dX1_fillWays_113 ?_
                        refine lv_iload hx hb dX1_fillWays_116 (lv_at hl 0 rfl) ?_
                        refine z_bri (z_runSN (As := [.ref aY, .int (jTo w (jLT N kf ou) sx K)]) (rest := [.int (jTo w (jLT N kf ou) sx K), .ref aY]) ⟨hx, hb, hml, hown, hts⟩ (c_X4_at (n := 49) (q := aY) (f := k2) (x := jTo w (jLT N kf ou) sx K) (by first | assumption | omega) _) (va_cnB (own := RX1) (host := "HeardSecond") (index := 93) 2 hts ggX1_fillWays_X4_at rfl rfl rfl (hN.get 28 rfl) (hts (.initialized RX4) (by decide +kernel)) (by decide +kernel) ⟨Nat.le_of_ble_eq_true rfl, Nat.le_of_ble_eq_true rfl⟩) (hts (.static yX4_at) (by decide +kernel)) hK hP hD hN [8] rfl rfl rfl hl.1 rfl (Nat.le_of_ble_eq_true rfl) dX1_fillWays_118 ⟨Nat.zero_le _, Nat.zero_le _⟩) hP hD hS hA [8] rfl (fun r_71 u_72 H locs hq_70 hP hS => ?_)
                        obtain rfl : r_71 = jAt 49 k2 (jTo w (jLT N kf ou) sx K) := hq_70
                        refine lv_aload_n hx hb dX1_fillWays_121 rfl (lv_at hl 1 rfl) ?_
                        refine va_get (D := D) (ci := 1) (v := .ref aY) (C := RX1) (T := TX1) (N := 10) hx hb hts hiX1 hown hK hP 0 rfl rfl 7 (by decide) (hts (.fieldLink RX1 27 "HeardSecond$Outlook" "ways" "[I") (by decide +kernel)) (fun _ h9 => h9) rfl dX1_fillWays_122 ?_
                        refine lv_iload_n hx hb dX1_fillWays_125 rfl (lv_at hl 3 rfl) ?_
                        refine lv_iconst (v := 1) hx hb dX1_fillWays_126 (by decide) ?_
                        refine lv_isub hx hb dX1_fillWays_127 ?_
                        refine lv_iload_n hx hb dX1_fillWays_128 rfl (lv_at hl 4 rfl) ?_
                        refine z_bri (z_runS (As := [.int ((nI w) - 1), .int (pI K)]) (rest := [.ref aY, .int (jAt 49 k2 (jTo w (jLT N kf ou) sx K)), .int (jTo w (jLT N kf ou) sx K), .ref aY]) ⟨hx, hb, hml, hown, hts⟩ (c_X1_rowPlace (x := (nI w) - 1) (y := pI K) _) (va_cwS 2 hts gX1_fillWays_X1_rowPlace rfl rfl rfl (by decide +kernel) ⟨Nat.le_of_ble_eq_true rfl, Nat.le_of_ble_eq_true rfl⟩) hK hP hD hN [] rfl rfl rfl hl.1 rfl (Nat.le_of_ble_eq_true rfl) dX1_fillWays_129 ⟨Nat.zero_le _, Nat.zero_le _⟩) hP hD hS hA [] rfl (fun r_74 u_75 H locs hq_73 hP hS => ?_)
                        obtain rfl : r_74 = ((nI w) - 1) * 7 + (pI K) + 1 := hq_73
                        refine z_top (y := nI (7 * (w - 1) + K)) (rp_eq1 (by omega) K) ?_
                        refine z_bri (z_runSN (As := [.ref aY, .int (nI (7 * (w - 1) + K))]) (rest := [.int (jAt 49 k2 (jTo w (jLT N kf ou) sx K)), .int (jTo w (jLT N kf ou) sx K), .ref aY]) ⟨hx, hb, hml, hown, hts⟩ (c_X4_at (n := 49) (q := aY) (f := k2) (x := nI (7 * (w - 1) + K)) (by first | assumption | omega) _) (va_cnB (own := RX1) (host := "HeardSecond") (index := 93) 2 hts ggX1_fillWays_X4_at rfl rfl rfl (hN.get 28 rfl) (hts (.initialized RX4) (by decide +kernel)) (by decide +kernel) ⟨Nat.le_of_ble_eq_true rfl, Nat.le_of_ble_eq_true rfl⟩) (hts (.static yX4_at) (by decide +kernel)) hK hP hD hN [8] rfl rfl rfl hl.1 rfl (Nat.le_of_ble_eq_true rfl) dX1_fillWays_132 ⟨Nat.zero_le _, Nat.zero_le _⟩) hP hD hS hA [8] rfl (fun r_77 u_78 H locs hq_76 hP hS => ?_)
                        obtain rfl : r_77 = jAt 49 k2 (nI (7 * (w - 1) + K)) := hq_76
                        refine lv_iadd hx hb dX1_fillWays_135 ?_
                        refine z_bwv (wr := [(o0, .inr (1, [.ref b0, .ref t0, .ref aL, .ref aB, .ref aS, .ref aW, .ref aE, .ref aY, .ref aZ, .ref aF])), (b0, .inr (0, [.ref qk, .ref qs, .int (nI N), .int pt])), (qk, .inl (cA, 5, .inl kf)), (t0, .inr (3, [.int (pI L), .int (pI B), .int ou, .int si, .int en, .int w0, .int w1, .int br, .ref wd, .int (nI t), .ref tw, .ref ts])), (tw, .inl (cA, 8, .inl ftw)), (ts, .inl (cA, 8, .inl fts)), (aL, .inl (cA, 35, .inl (jLT N kf ou))), (aB, .inl (cA, 35, .inl (jBT N kf ou)))]) (ws' := fun (_ : Unit) => [(o0, .inr (1, [.ref b0, .ref t0, .ref aL, .ref aB, .ref aS, .ref aW, .ref aE, .ref aY, .ref aZ, .ref aF])), (b0, .inr (0, [.ref qk, .ref qs, .int (nI N), .int pt])), (qk, .inl (cA, 5, .inl kf)), (t0, .inr (3, [.int (pI L), .int (pI B), .int ou, .int si, .int en, .int w0, .int w1, .int br, .ref wd, .int (nI t), .ref tw, .ref ts])), (tw, .inl (cA, 8, .inl ftw)), (ts, .inl (cA, 8, .inl fts)), (aL, .inl (cA, 35, .inl (jLT N kf ou))), (aB, .inl (cA, 35, .inl (jBT N kf ou))), (aY, .inl (cA, 49, .inl (jPut 49 k2 (jTo w (jLT N kf ou) sx K) ((jAt 49 k2 (jTo w (jLT N kf ou) sx K)) + (jAt 49 k2 (nI (7 * (w - 1) + K)))))))]) (z_runSN (As := [.ref aY, .int (jTo w (jLT N kf ou) sx K), .int ((jAt 49 k2 (jTo w (jLT N kf ou) sx K)) + (jAt 49 k2 (nI (7 * (w - 1) + K))))]) (rest := []) ⟨hx, hb, hml, hown, hts⟩ (c_X4_put (n := 49) (q := aY) (f := k2) (x := jTo w (jLT N kf ou) sx K) (v := (jAt 49 k2 (jTo w (jLT N kf ou) sx K)) + (jAt 49 k2 (nI (7 * (w - 1) + K)))) (by first | assumption | omega) _) (va_cnB (own := RX1) (host := "HeardSecond") (index := 64) 3 hts ggX1_fillWays_X4_put rfl rfl rfl (hN.get 26 rfl) (hts (.initialized RX4) (by decide +kernel)) (by decide +kernel) ⟨Nat.le_of_ble_eq_true rfl, Nat.le_of_ble_eq_true rfl⟩) (hts (.static yX4_put) (by decide +kernel)) hK hP hD hN [8] rfl rfl rfl hl.1 rfl (Nat.le_of_ble_eq_true rfl) dX1_fillWays_136 ⟨Nat.zero_le _, Nat.zero_le _⟩) hP hD hS hA [8] [0, 1, 2, 3, 4, 5, 6, 7] [0, 1, 2, 3, 4, 5, 6, 7, 8] rfl rfl rfl (by decide) rfl (fun _ => rfl) (fun u_81 H locs hq_79 hP hD hS => ?_)
                        have hP : va_P D vwCl [(o0, .inr (1, [.ref b0, .ref t0, .ref aL, .ref aB, .ref aS, .ref aW, .ref aE, .ref aY, .ref aZ, .ref aF])), (b0, .inr (0, [.ref qk, .ref qs, .int (nI N), .int pt])), (qk, .inl (cA, 5, .inl kf)), (t0, .inr (3, [.int (pI L), .int (pI B), .int ou, .int si, .int en, .int w0, .int w1, .int br, .ref wd, .int (nI t), .ref tw, .ref ts])), (tw, .inl (cA, 8, .inl ftw)), (ts, .inl (cA, 8, .inl fts)), (aL, .inl (cA, 35, .inl (jLT N kf ou))), (aB, .inl (cA, 35, .inl (jBT N kf ou))), (aY, .inl (cA, 49, .inl (jPut 49 k2 (jTo w (jLT N kf ou) sx K) ((jAt 49 k2 (jTo w (jLT N kf ou) sx K)) + (jAt 49 k2 (nI (7 * (w - 1) + K)))))))] H := hP
                        have hD : va_D A [(o0, .inr (1, [.ref b0, .ref t0, .ref aL, .ref aB, .ref aS, .ref aW, .ref aE, .ref aY, .ref aZ, .ref aF])), (b0, .inr (0, [.ref qk, .ref qs, .int (nI N), .int pt])), (qk, .inl (cA, 5, .inl kf)), (t0, .inr (3, [.int (pI L), .int (pI B), .int ou, .int si, .int en, .int w0, .int w1, .int br, .ref wd, .int (nI t), .ref tw, .ref ts])), (tw, .inl (cA, 8, .inl ftw)), (ts, .inl (cA, 8, .inl fts)), (aL, .inl (cA, 35, .inl (jLT N kf ou))), (aB, .inl (cA, 35, .inl (jBT N kf ou))), (aY, .inl (cA, 49, .inl (jPut 49 k2 (jTo w (jLT N kf ou) sx K) ((jAt 49 k2 (jTo w (jLT N kf ou) sx K)) + (jAt 49 k2 (nI (7 * (w - 1) + K)))))))] := hD
                        refine lv_iinc (v := nI (sx + 1)) (lv' := [(4, .int (nI (sx + 1))), (5, .int (jTo w (jLT N kf ou) sx K)), (0, .ref o0), (1, .int (nI mw)), (2, .int (nI w)), (3, .int (pI K))]) hx hb dX1_fillWays_139 hl (k := 5) rfl (nI_1 sx) (by decide) rfl (fun ls hl => ?_)
                        refine lv_goto (tgt := 70) hx hb dX1_fillWays_142 (by decide) ?_
                        exact ih55 (sx + 1) (jPut 49 k2 (jTo w (jLT N kf ou) sx K) ((jAt 49 k2 (jTo w (jLT N kf ou) sx K)) + (jAt 49 k2 (nI (7 * (w - 1) + K))))) (by omega) (by first | assumption | omega) (by clear hret hl hS hD hP hK hA hN hts hx hb hr hml hown hlocks hiX1 hiX3 ih51 ih53 ih55; rw [show 35 * (w - 1) + 5 * K + (sx + 1) = (35 * (w - 1) + 5 * K + sx) + 1 from by omega, jWay, ← hk2, show (35 * (w - 1) + 5 * K + sx) / 35 + 1 = w from by omega, show (35 * (w - 1) + 5 * K + sx) / 5 % 7 = K from by omega, show (35 * (w - 1) + 5 * K + sx) % 5 = sx from by omega]; simp_all [jWay1]) _ _ _ hP hD hS (lv_sub hl [2, 3, 4, 5, 0] rfl)
                exact L70 6 0 k (by omega) (by first | assumption | omega) (by clear hret hl hS hD hP hK hA hN hts hx hb hr hml hown hlocks hiX1 hiX3 ih51 ih53 L70; exact hk) _ _ _ hP hD hS (lv_sub hl [1, 2, 3, 4, 0] rfl)
          exact L62 8 0 g (by omega) (by first | assumption | omega) (by clear hret hl hS hD hP hK hA hN hts hx hb hr hml hown hlocks hiX1 hiX3 ih51 L62; exact hg) _ _ _ hP hD hS (lv_sub hl [1, 2, 3, 0] rfl)
    exact L55 8 1 (jPut 49 (fun _ => 0) (nI L) 1) (by omega) (by first | assumption | omega) (by first | assumption | omega) (by clear hret hl hS hD hP hK hA hN hts hx hb hr hml hown hlocks hiX1 hiX3 L55; rw [jPut_nI (by omega) (by decide)]; show _ = jWay0 t ftw fts L B; unfold jWay0; simp_all [bI]) _ _ _ hP hD hS (lv_sub hl [1, 2, 0] rfl)
abbrev rm_c_X1_waysOf : Room := { frames := 1, cells := 0, slots := 0, locals := 21 }
set_option maxHeartbeats 400000 in
set_option maxRecDepth 20000 in
theorem c_X1_waysOf {l : Launch} {D : va_G} {cA : ClassId} {o0 : Nat} {b0 : Nat} {t0 : Nat} {aL : Nat} {aB : Nat} {aS : Nat} {aW : Nat} {aE : Nat} {aY : Nat} {aZ : Nat} {aF : Nat} {y : Nat → Int32} {w : Nat} (hw : w ≤ 6) : zMi l yX1_waysOf wsX1_waysOf rm_c_X1_waysOf D cA [(o0, .inr (1, [.ref b0, .ref t0, .ref aL, .ref aB, .ref aS, .ref aW, .ref aE, .ref aY, .ref aZ, .ref aF])), (aY, .inl (cA, 49, .inl y))] [.ref o0, .int (nI w)] (fun (ret_ : Int32) (_ : Unit) => ret_ = jSum y w 7) (fun (_ : Unit) => [(o0, .inr (1, [.ref b0, .ref t0, .ref aL, .ref aB, .ref aS, .ref aW, .ref aE, .ref aY, .ref aZ, .ref aF])), (aY, .inl (cA, 49, .inl y))]) := by
  refine z_enteri (cc := cX1_waysOf) (maxL := 4) (ty := .int) (by decide) rfl (Nat.le_of_ble_eq_true rfl) (fun p e s m args below meth c ls A H0 H locs Q hi_ hA hK hP hD hS hl hret => ?_)
  obtain ⟨hx, hb, hr, hml, hown, hts, hlocks, hN⟩ := hi_
  have hl : lv_has ls 4 [(0, .ref o0), (1, .int (nI w))] := hl
  have hiX1 : ∀ w ∈ wsX10, w ∈ wsX1_waysOf := by decide +kernel
  refine lv_iconst (v := 0) hx hb dX1_waysOf_0 (by decide) ?_
  refine lv_istore_n (lv' := [(2, .int 0), (0, .ref o0), (1, .int (nI w))]) hx hb dX1_waysOf_1 rfl hl (by decide) rfl (fun ls hl => ?_)
  refine lv_iconst (v := pI 0) hx hb dX1_waysOf_2 (by decide) ?_
  refine lv_istore_n (lv' := [(3, .int (pI 0)), (2, .int 0), (0, .ref o0), (1, .int (nI w))]) hx hb dX1_waysOf_3 rfl hl (by decide) rfl (fun ls hl => ?_)
  have L4 : ∀ (n_ : Nat) (L : Nat) (v : Int32) (hm_ : 8 ≤ L + n_) (hL : L ≤ 7) (hv : v = jSum y w L) (H : Heap) (locs : List Loc) (ls : Array Slot), va_P D vwCl [(o0, .inr (1, [.ref b0, .ref t0, .ref aL, .ref aB, .ref aS, .ref aW, .ref aE, .ref aY, .ref aZ, .ref aF])), (aY, .inl (cA, 49, .inl y))] H → va_D A [(o0, .inr (1, [.ref b0, .ref t0, .ref aL, .ref aB, .ref aS, .ref aW, .ref aE, .ref aY, .ref aZ, .ref aF])), (aY, .inl (cA, 49, .inl y))] → va_S A H0 H locs → lv_has ls 4 [(0, .ref o0), (1, .int (nI w)), (2, .int v), (3, .int (pI L))] → W p l e rm_c_X1_waysOf s m args below meth c H locs 0 0 Q (F0 m 4 ls []) := by
    intro n_
    induction n_ with
    | zero =>
      intro L v hm_ hL hv
      exact absurd hm_ (by omega)
    | succ n_ ih_ =>
      intro L v hm_ hL hv H locs ls hP hD hS hl
      have ih1 := ih_
      clear ih_
      refine lv_iload_n hx hb dX1_waysOf_4 rfl (lv_at hl 3 rfl) ?_
      refine lv_iconst (v := 5) hx hb dX1_waysOf_5 (by decide) ?_
      refine lv_icmp_gt (tgt := 30) hx hb dX1_waysOf_6 (by decide) (fun c6_2 => ?_) (fun c6_2 => ?_)
      · skip
        have ht_ : L = 7 := by have := (pI_7 L (by omega)).mp c6_2; omega
        refine lv_iload_n hx hb dX1_waysOf_30 rfl (lv_at hl 2 rfl) ?_
        -- path 1
        exact hret (v) () _ _ _ _ dX1_waysOf_31 (rfl) (by clear hret hl hS hD hP hK hA hN hts hx hb hr hml hown hlocks hiX1 ih1; rw [hv, ht_]) hP hD hS
      · skip
        have hltL : L < 7 := Nat.lt_of_not_le (fun q_ => c6_2 ((pI_7 L (by omega)).mpr q_))
        refine lv_iload_n hx hb dX1_waysOf_9 rfl (lv_at hl 2 rfl) ?_
        refine lv_aload_n hx hb dX1_waysOf_10 rfl (lv_at hl 0 rfl) ?_
        refine va_get (D := D) (ci := 1) (v := .ref aY) (C := RX1) (T := TX1) (N := 10) hx hb hts hiX1 hown hK hP 0 rfl rfl 7 (by decide) (hts (.fieldLink RX1 27 "HeardSecond$Outlook" "ways" "[I") (by decide +kernel)) (fun _ h9 => h9) rfl dX1_waysOf_11 ?_
        refine lv_iload_n hx hb dX1_waysOf_14 rfl (lv_at hl 1 rfl) ?_
        refine lv_iload_n hx hb dX1_waysOf_15 rfl (lv_at hl 3 rfl) ?_
        refine z_bri (z_runS (As := [.int (nI w), .int (pI L)]) (rest := [.ref aY, .int v]) ⟨hx, hb, hml, hown, hts⟩ (c_X1_rowPlace (x := nI w) (y := pI L) _) (va_cwS 2 hts gX1_waysOf_X1_rowPlace rfl rfl rfl (by decide +kernel) ⟨Nat.le_of_ble_eq_true rfl, Nat.le_of_ble_eq_true rfl⟩) hK hP hD hN [] rfl rfl rfl hl.1 rfl (Nat.le_of_ble_eq_true rfl) dX1_waysOf_16 ⟨Nat.zero_le _, Nat.zero_le _⟩) hP hD hS hA [] rfl (fun r_4 u_5 H locs hq_3 hP hS => ?_)
        obtain rfl : r_4 = (nI w) * 7 + (pI L) + 1 := hq_3
        refine z_top (y := nI (7 * w + L)) (rp_eq w L) ?_
        refine z_bri (z_runSN (As := [.ref aY, .int (nI (7 * w + L))]) (rest := [.int v]) ⟨hx, hb, hml, hown, hts⟩ (c_X4_at (n := 49) (q := aY) (f := y) (x := nI (7 * w + L)) (by first | assumption | omega) _) (va_cnB (own := RX1) (host := "HeardSecond") (index := 93) 2 hts ggX1_waysOf_X4_at rfl rfl rfl (hN.get 28 rfl) (hts (.initialized RX4) (by decide +kernel)) (by decide +kernel) ⟨Nat.le_of_ble_eq_true rfl, Nat.le_of_ble_eq_true rfl⟩) (hts (.static yX4_at) (by decide +kernel)) hK hP hD hN [1] rfl rfl rfl hl.1 rfl (Nat.le_of_ble_eq_true rfl) dX1_waysOf_19 ⟨Nat.zero_le _, Nat.zero_le _⟩) hP hD hS hA [1] rfl (fun r_7 u_8 H locs hq_6 hP hS => ?_)
        obtain rfl : r_7 = jAt 49 y (nI (7 * w + L)) := hq_6
        refine lv_iadd hx hb dX1_waysOf_22 ?_
        refine lv_istore_n (lv' := [(2, .int (v + (jAt 49 y (nI (7 * w + L))))), (0, .ref o0), (1, .int (nI w)), (3, .int (pI L))]) hx hb dX1_waysOf_23 rfl hl (by decide) rfl (fun ls hl => ?_)
        refine lv_iinc (v := pI (L + 1)) (lv' := [(3, .int (pI (L + 1))), (2, .int (v + (jAt 49 y (nI (7 * w + L))))), (0, .ref o0), (1, .int (nI w))]) hx hb dX1_waysOf_24 hl (k := 3) rfl (pI_1 L) (by decide) rfl (fun ls hl => ?_)
        refine lv_goto (tgt := 4) hx hb dX1_waysOf_27 (by decide) ?_
        exact ih1 (L + 1) (v + (jAt 49 y (nI (7 * w + L)))) (by omega) (by first | assumption | omega) (by clear hret hl hS hD hP hK hA hN hts hx hb hr hml hown hlocks hiX1 ih1; rw [jSum, ← hv]) _ _ _ hP hD hS (lv_sub hl [2, 3, 1, 0] rfl)
  exact L4 8 0 0 (by omega) (by first | assumption | omega) (by rfl) _ _ _ hP hD hS (lv_sub hl [2, 3, 1, 0] rfl)
abbrev rm_c_X1_lastsBehind : Room := { frames := 1, cells := 0, slots := 0, locals := 21 }
set_option maxHeartbeats 400000 in
set_option maxRecDepth 20000 in
theorem c_X1_lastsBehind {l : Launch} {D : va_G} {cA : ClassId} {o0 : Nat} {b0 : Nat} {t0 : Nat} {aL : Nat} {aB : Nat} {aS : Nat} {aW : Nat} {aE : Nat} {aY : Nat} {aZ : Nat} {aF : Nat} {y : Nat → Int32} {w : Nat} (hw : w ≤ 6) : zMi l yX1_lastsBehind wsX1_lastsBehind rm_c_X1_lastsBehind D cA [(o0, .inr (1, [.ref b0, .ref t0, .ref aL, .ref aB, .ref aS, .ref aW, .ref aE, .ref aY, .ref aZ, .ref aF])), (aY, .inl (cA, 49, .inl y))] [.ref o0, .int (nI w)] (fun (ret_ : Int32) (_ : Unit) => ret_ = jBits y w 7) (fun (_ : Unit) => [(o0, .inr (1, [.ref b0, .ref t0, .ref aL, .ref aB, .ref aS, .ref aW, .ref aE, .ref aY, .ref aZ, .ref aF])), (aY, .inl (cA, 49, .inl y))]) := by
  refine z_enteri (cc := cX1_lastsBehind) (maxL := 4) (ty := .int) (by decide) rfl (Nat.le_of_ble_eq_true rfl) (fun p e s m args below meth c ls A H0 H locs Q hi_ hA hK hP hD hS hl hret => ?_)
  obtain ⟨hx, hb, hr, hml, hown, hts, hlocks, hN⟩ := hi_
  have hl : lv_has ls 4 [(0, .ref o0), (1, .int (nI w))] := hl
  have hiX1 : ∀ w ∈ wsX10, w ∈ wsX1_lastsBehind := by decide +kernel
  refine lv_iconst (v := 0) hx hb dX1_lastsBehind_0 (by decide) ?_
  refine lv_istore_n (lv' := [(2, .int 0), (0, .ref o0), (1, .int (nI w))]) hx hb dX1_lastsBehind_1 rfl hl (by decide) rfl (fun ls hl => ?_)
  refine lv_iconst (v := pI 0) hx hb dX1_lastsBehind_2 (by decide) ?_
  refine lv_istore_n (lv' := [(3, .int (pI 0)), (2, .int 0), (0, .ref o0), (1, .int (nI w))]) hx hb dX1_lastsBehind_3 rfl hl (by decide) rfl (fun ls hl => ?_)
  have L4 : ∀ (n_ : Nat) (L : Nat) (v : Int32) (hm_ : 8 ≤ L + n_) (hL : L ≤ 7) (hv : v = jBits y w L) (H : Heap) (locs : List Loc) (ls : Array Slot), va_P D vwCl [(o0, .inr (1, [.ref b0, .ref t0, .ref aL, .ref aB, .ref aS, .ref aW, .ref aE, .ref aY, .ref aZ, .ref aF])), (aY, .inl (cA, 49, .inl y))] H → va_D A [(o0, .inr (1, [.ref b0, .ref t0, .ref aL, .ref aB, .ref aS, .ref aW, .ref aE, .ref aY, .ref aZ, .ref aF])), (aY, .inl (cA, 49, .inl y))] → va_S A H0 H locs → lv_has ls 4 [(0, .ref o0), (1, .int (nI w)), (2, .int v), (3, .int (pI L))] → W p l e rm_c_X1_lastsBehind s m args below meth c H locs 0 0 Q (F0 m 4 ls []) := by
    intro n_
    induction n_ with
    | zero =>
      intro L v hm_ hL hv
      exact absurd hm_ (by omega)
    | succ n_ ih_ =>
      intro L v hm_ hL hv H locs ls hP hD hS hl
      have ih1 := ih_
      clear ih_
      refine lv_iload_n hx hb dX1_lastsBehind_4 rfl (lv_at hl 3 rfl) ?_
      refine lv_iconst (v := 5) hx hb dX1_lastsBehind_5 (by decide) ?_
      refine lv_icmp_gt (tgt := 46) hx hb dX1_lastsBehind_6 (by decide) (fun c6_2 => ?_) (fun c6_2 => ?_)
      · skip
        have ht_ : L = 7 := by have := (pI_7 L (by omega)).mp c6_2; omega
        refine lv_iload_n hx hb dX1_lastsBehind_46 rfl (lv_at hl 2 rfl) ?_
        -- path 1
        exact hret (v) () _ _ _ _ dX1_lastsBehind_47 (rfl) (by clear hret hl hS hD hP hK hA hN hts hx hb hr hml hown hlocks hiX1 ih1; rw [hv, ht_]) hP hD hS
      · skip
        have hltL : L < 7 := Nat.lt_of_not_le (fun q_ => c6_2 ((pI_7 L (by omega)).mpr q_))
        refine lv_aload_n hx hb dX1_lastsBehind_9 rfl (lv_at hl 0 rfl) ?_
        refine va_get (D := D) (ci := 1) (v := .ref aY) (C := RX1) (T := TX1) (N := 10) hx hb hts hiX1 hown hK hP 0 rfl rfl 7 (by decide) (hts (.fieldLink RX1 27 "HeardSecond$Outlook" "ways" "[I") (by decide +kernel)) (fun _ h9 => h9) rfl dX1_lastsBehind_10 ?_
        refine lv_iload_n hx hb dX1_lastsBehind_13 rfl (lv_at hl 1 rfl) ?_
        refine lv_iload_n hx hb dX1_lastsBehind_14 rfl (lv_at hl 3 rfl) ?_
        refine z_bri (z_runS (As := [.int (nI w), .int (pI L)]) (rest := [.ref aY]) ⟨hx, hb, hml, hown, hts⟩ (c_X1_rowPlace (x := nI w) (y := pI L) _) (va_cwS 2 hts gX1_lastsBehind_X1_rowPlace rfl rfl rfl (by decide +kernel) ⟨Nat.le_of_ble_eq_true rfl, Nat.le_of_ble_eq_true rfl⟩) hK hP hD hN [] rfl rfl rfl hl.1 rfl (Nat.le_of_ble_eq_true rfl) dX1_lastsBehind_15 ⟨Nat.zero_le _, Nat.zero_le _⟩) hP hD hS hA [] rfl (fun r_4 u_5 H locs hq_3 hP hS => ?_)
        obtain rfl : r_4 = (nI w) * 7 + (pI L) + 1 := hq_3
        refine z_top (y := nI (7 * w + L)) (rp_eq w L) ?_
        refine z_bri (z_runSN (As := [.ref aY, .int (nI (7 * w + L))]) (rest := []) ⟨hx, hb, hml, hown, hts⟩ (c_X4_at (n := 49) (q := aY) (f := y) (x := nI (7 * w + L)) (by first | assumption | omega) _) (va_cnB (own := RX1) (host := "HeardSecond") (index := 93) 2 hts ggX1_lastsBehind_X4_at rfl rfl rfl (hN.get 28 rfl) (hts (.initialized RX4) (by decide +kernel)) (by decide +kernel) ⟨Nat.le_of_ble_eq_true rfl, Nat.le_of_ble_eq_true rfl⟩) (hts (.static yX4_at) (by decide +kernel)) hK hP hD hN [1] rfl rfl rfl hl.1 rfl (Nat.le_of_ble_eq_true rfl) dX1_lastsBehind_18 ⟨Nat.zero_le _, Nat.zero_le _⟩) hP hD hS hA [1] rfl (fun r_7 u_8 H locs hq_6 hP hS => ?_)
        obtain rfl : r_7 = jAt 49 y (nI (7 * w + L)) := hq_6
        refine lv_if_le (tgt := 40) hx hb dX1_lastsBehind_21 (by decide) (fun c21_9 => ?_) (fun c21_9 => ?_)
        · skip
          refine lv_iinc (v := pI (L + 1)) (lv' := [(3, .int (pI (L + 1))), (0, .ref o0), (1, .int (nI w)), (2, .int v)]) hx hb dX1_lastsBehind_40 hl (k := 3) rfl (pI_1 L) (by decide) rfl (fun ls hl => ?_)
          refine lv_goto (tgt := 4) hx hb dX1_lastsBehind_43 (by decide) ?_
          exact ih1 (L + 1) v (by omega) (by first | assumption | omega) (by clear hret hl hS hD hP hK hA hN hts hx hb hr hml hown hlocks hiX1 ih1; first | (rw [jBits, if_neg (Int32.not_lt.mpr (by assumption)), hv]; done) | (rw [jBits, if_pos (Int32.not_le.mp (by assumption)), if_neg hl0, hv]; done) | (rw [jBits, if_pos (Int32.not_le.mp (by assumption)), if_pos hl0, hv])) _ _ _ hP hD hS (lv_sub hl [1, 2, 3, 0] rfl)
        · skip
          refine lv_iload_n hx hb dX1_lastsBehind_24 rfl (lv_at hl 2 rfl) ?_
          refine lv_iconst (v := 1) hx hb dX1_lastsBehind_25 (by decide) ?_
          refine lv_iload_n hx hb dX1_lastsBehind_26 rfl (lv_at hl 3 rfl) ?_
          refine lv_iconst (v := (-1)) hx hb dX1_lastsBehind_27 (by decide) ?_
          refine lv_icmp_ne (tgt := 36) hx hb dX1_lastsBehind_28 (by decide) (fun c28_10 => ?_) (fun c28_10 => ?_)
          · skip
            have hl0 : ¬ L = 0 := fun q_ => c28_10 (by rw [q_]; decide)
            refine lv_iload_n hx hb dX1_lastsBehind_36 rfl (lv_at hl 3 rfl) ?_
            refine lv_ishl hx hb dX1_lastsBehind_37 ?_
            refine lv_ior hx hb dX1_lastsBehind_38 ?_
            refine lv_istore_n (lv' := [(2, .int (v ||| (1 <<< ((pI L) &&& 31)))), (0, .ref o0), (1, .int (nI w)), (3, .int (pI L))]) hx hb dX1_lastsBehind_39 rfl hl (by decide) rfl (fun ls hl => ?_)
            refine lv_iinc (v := pI (L + 1)) (lv' := [(3, .int (pI (L + 1))), (2, .int (v ||| (1 <<< ((pI L) &&& 31)))), (0, .ref o0), (1, .int (nI w))]) hx hb dX1_lastsBehind_40 hl (k := 3) rfl (pI_1 L) (by decide) rfl (fun ls hl => ?_)
            refine lv_goto (tgt := 4) hx hb dX1_lastsBehind_43 (by decide) ?_
            exact ih1 (L + 1) (v ||| (1 <<< ((pI L) &&& 31))) (by omega) (by first | assumption | omega) (by clear hret hl hS hD hP hK hA hN hts hx hb hr hml hown hlocks hiX1 ih1; first | (rw [jBits, if_neg (Int32.not_lt.mpr (by assumption)), hv]; done) | (rw [jBits, if_pos (Int32.not_le.mp (by assumption)), if_neg hl0, hv]; done) | (rw [jBits, if_pos (Int32.not_le.mp (by assumption)), if_pos hl0, hv])) _ _ _ hP hD hS (lv_sub hl [2, 3, 1, 0] rfl)
          · skip
            have hl0 : L = 0 := by have := (pI_m1 L (by omega)).mp c28_10; omega
            refine lv_bipush (v := 6) hx hb dX1_lastsBehind_31 (by decide) ?_
            refine lv_goto (tgt := 37) hx hb dX1_lastsBehind_33 (by decide) ?_
            refine lv_ishl hx hb dX1_lastsBehind_37 ?_
            refine lv_ior hx hb dX1_lastsBehind_38 ?_
            refine lv_istore_n (lv' := [(2, .int (v ||| ((1 : Int32) <<< ((6 : Int32) &&& 31)))), (0, .ref o0), (1, .int (nI w)), (3, .int (pI L))]) hx hb dX1_lastsBehind_39 rfl hl (by decide) rfl (fun ls hl => ?_)
            refine lv_iinc (v := pI (L + 1)) (lv' := [(3, .int (pI (L + 1))), (2, .int (v ||| ((1 : Int32) <<< ((6 : Int32) &&& 31)))), (0, .ref o0), (1, .int (nI w))]) hx hb dX1_lastsBehind_40 hl (k := 3) rfl (pI_1 L) (by decide) rfl (fun ls hl => ?_)
            refine lv_goto (tgt := 4) hx hb dX1_lastsBehind_43 (by decide) ?_
            exact ih1 (L + 1) (v ||| ((1 : Int32) <<< ((6 : Int32) &&& 31))) (by omega) (by first | assumption | omega) (by clear hret hl hS hD hP hK hA hN hts hx hb hr hml hown hlocks hiX1 ih1; first | (rw [jBits, if_neg (Int32.not_lt.mpr (by assumption)), hv]; done) | (rw [jBits, if_pos (Int32.not_le.mp (by assumption)), if_neg hl0, hv]; done) | (rw [jBits, if_pos (Int32.not_le.mp (by assumption)), if_pos hl0, hv])) _ _ _ hP hD hS (lv_sub hl [2, 3, 1, 0] rfl)
  exact L4 8 0 0 (by omega) (by first | assumption | omega) (by rfl) _ _ _ hP hD hS (lv_sub hl [2, 3, 1, 0] rfl)
abbrev rm_c_X1_fillEndings : Room := { frames := 3, cells := 0, slots := 0, locals := 68 }
set_option maxHeartbeats 1000000 in
set_option maxRecDepth 20000 in
theorem c_X1_fillEndings {l : Launch} {D : va_G} {cA : ClassId} {o0 : Nat} {b0 : Nat} {t0 : Nat} {aL : Nat} {aB : Nat} {aS : Nat} {aW : Nat} {aE : Nat} {aY : Nat} {aZ : Nat} {aF : Nat} {wd : Nat} {tw : Nat} {ts : Nat} {t : Nat} {la : Int32} {be : Int32} {ou : Int32} {si : Int32} {en : Int32} {w0 : Int32} {w1 : Int32} {br : Int32} {ftw : Nat → Int32} {fts : Nat → Int32} {lt : Nat → Int32} {bt : Nat → Int32} {z : Nat → Int32} (ht : t ≤ 8) : zMv l yX1_fillEndings wsX1_fillEndings rm_c_X1_fillEndings D cA [(o0, .inr (1, [.ref b0, .ref t0, .ref aL, .ref aB, .ref aS, .ref aW, .ref aE, .ref aY, .ref aZ, .ref aF])), (t0, .inr (3, [.int la, .int be, .int ou, .int si, .int en, .int w0, .int w1, .int br, .ref wd, .int (nI t), .ref tw, .ref ts])), (tw, .inl (cA, 8, .inl ftw)), (ts, .inl (cA, 8, .inl fts)), (aL, .inl (cA, 35, .inl lt)), (aB, .inl (cA, 35, .inl bt)), (aZ, .inl (cA, 49, .inl z))] [.ref o0] (fun (_ : Unit) => True) (fun (_ : Unit) => [(o0, .inr (1, [.ref b0, .ref t0, .ref aL, .ref aB, .ref aS, .ref aW, .ref aE, .ref aY, .ref aZ, .ref aF])), (t0, .inr (3, [.int la, .int be, .int ou, .int si, .int en, .int w0, .int w1, .int br, .ref wd, .int (nI t), .ref tw, .ref ts])), (tw, .inl (cA, 8, .inl ftw)), (ts, .inl (cA, 8, .inl fts)), (aL, .inl (cA, 35, .inl lt)), (aB, .inl (cA, 35, .inl bt)), (aZ, .inl (cA, 49, .inl (jEndz z lt bt t ftw fts 35)))]) := by
  refine z_enterv (cc := cX1_fillEndings) (maxL := 5) (by decide) rfl (Nat.le_of_ble_eq_true rfl) (fun p e s m args below meth c ls A H0 H locs Q hi_ hA hK hP hD hS hl hret => ?_)
  obtain ⟨hx, hb, hr, hml, hown, hts, hlocks, hN⟩ := hi_
  have hl : lv_has ls 5 [(0, .ref o0)] := hl
  have hiX1 : ∀ w ∈ wsX10, w ∈ wsX1_fillEndings := by decide +kernel
  refine lv_iconst (v := pI 0) hx hb dX1_fillEndings_0 (by decide) ?_
  refine lv_istore_n (lv' := [(1, .int (pI 0)), (0, .ref o0)]) hx hb dX1_fillEndings_1 rfl hl (by decide) rfl (fun ls hl => ?_)
  have L2 : ∀ (n_ : Nat) (L : Nat) (g : Nat → Int32) (hm_ : 8 ≤ L + n_) (hL : L ≤ 7) (hg : g = jEnd0z z L) (H : Heap) (locs : List Loc) (ls : Array Slot), va_P D vwCl [(o0, .inr (1, [.ref b0, .ref t0, .ref aL, .ref aB, .ref aS, .ref aW, .ref aE, .ref aY, .ref aZ, .ref aF])), (t0, .inr (3, [.int la, .int be, .int ou, .int si, .int en, .int w0, .int w1, .int br, .ref wd, .int (nI t), .ref tw, .ref ts])), (tw, .inl (cA, 8, .inl ftw)), (ts, .inl (cA, 8, .inl fts)), (aL, .inl (cA, 35, .inl lt)), (aB, .inl (cA, 35, .inl bt)), (aZ, .inl (cA, 49, .inl g))] H → va_D A [(o0, .inr (1, [.ref b0, .ref t0, .ref aL, .ref aB, .ref aS, .ref aW, .ref aE, .ref aY, .ref aZ, .ref aF])), (t0, .inr (3, [.int la, .int be, .int ou, .int si, .int en, .int w0, .int w1, .int br, .ref wd, .int (nI t), .ref tw, .ref ts])), (tw, .inl (cA, 8, .inl ftw)), (ts, .inl (cA, 8, .inl fts)), (aL, .inl (cA, 35, .inl lt)), (aB, .inl (cA, 35, .inl bt)), (aZ, .inl (cA, 49, .inl g))] → va_S A H0 H locs → lv_has ls 5 [(0, .ref o0), (1, .int (pI L))] → W p l e rm_c_X1_fillEndings s m args below meth c H locs 0 0 Q (F0 m 2 ls []) := by
    intro n_
    induction n_ with
    | zero =>
      intro L g hm_ hL hg
      exact absurd hm_ (by omega)
    | succ n_ ih_ =>
      intro L g hm_ hL hg H locs ls hP hD hS hl
      have ih1 := ih_
      clear ih_
      refine lv_iload_n hx hb dX1_fillEndings_2 rfl (lv_at hl 1 rfl) ?_
      refine lv_iconst (v := 5) hx hb dX1_fillEndings_3 (by decide) ?_
      refine lv_icmp_gt (tgt := 27) hx hb dX1_fillEndings_4 (by decide) (fun c4_2 => ?_) (fun c4_2 => ?_)
      · skip
        have ht_ : L = 7 := by have := (pI_7 L (by omega)).mp c4_2; omega
        refine lv_bipush (v := nI 6) hx hb dX1_fillEndings_27 (by decide) ?_
        refine lv_istore_n (lv' := [(1, .int (nI 6)), (0, .ref o0)]) hx hb dX1_fillEndings_29 rfl hl (by decide) rfl (fun ls hl => ?_)
        have L30 : ∀ (n_ : Nat) (w : Nat) (k : Nat → Int32) (hm_ : w ≤ n_) (hw1 : 1 ≤ w) (hw : w ≤ 6) (hk : k = jEndz z lt bt t ftw fts (7 * (6 - w))) (H : Heap) (locs : List Loc) (ls : Array Slot), va_P D vwCl [(o0, .inr (1, [.ref b0, .ref t0, .ref aL, .ref aB, .ref aS, .ref aW, .ref aE, .ref aY, .ref aZ, .ref aF])), (t0, .inr (3, [.int la, .int be, .int ou, .int si, .int en, .int w0, .int w1, .int br, .ref wd, .int (nI t), .ref tw, .ref ts])), (tw, .inl (cA, 8, .inl ftw)), (ts, .inl (cA, 8, .inl fts)), (aL, .inl (cA, 35, .inl lt)), (aB, .inl (cA, 35, .inl bt)), (aZ, .inl (cA, 49, .inl k))] H → va_D A [(o0, .inr (1, [.ref b0, .ref t0, .ref aL, .ref aB, .ref aS, .ref aW, .ref aE, .ref aY, .ref aZ, .ref aF])), (t0, .inr (3, [.int la, .int be, .int ou, .int si, .int en, .int w0, .int w1, .int br, .ref wd, .int (nI t), .ref tw, .ref ts])), (tw, .inl (cA, 8, .inl ftw)), (ts, .inl (cA, 8, .inl fts)), (aL, .inl (cA, 35, .inl lt)), (aB, .inl (cA, 35, .inl bt)), (aZ, .inl (cA, 49, .inl k))] → va_S A H0 H locs → lv_has ls 5 [(0, .ref o0), (1, .int (nI w))] → W p l e rm_c_X1_fillEndings s m args below meth c H locs 0 0 Q (F0 m 30 ls []) := by
          intro n_
          induction n_ with
          | zero =>
            intro w k hm_ hw1 hw hk
            exact absurd hm_ (by omega)
          | succ n_ ih_ =>
            intro w k hm_ hw1 hw hk H locs ls hP hD hS hl
            have ih3 := ih_
            clear ih_
            refine lv_iload_n hx hb dX1_fillEndings_30 rfl (lv_at hl 1 rfl) ?_
            refine lv_iconst (v := 1) hx hb dX1_fillEndings_31 (by decide) ?_
            refine lv_icmp_le (tgt := 124) hx hb dX1_fillEndings_32 (by decide) (fun c32_4 => ?_) (fun c32_4 => ?_)
            · skip
              have ht_ : w = 1 := by have := (nI_leI (a := w) (b := 1) (by omega) (by omega)).mp c32_4; omega
              -- path 1
              have hP : va_P D vwCl [(o0, .inr (1, [.ref b0, .ref t0, .ref aL, .ref aB, .ref aS, .ref aW, .ref aE, .ref aY, .ref aZ, .ref aF])), (t0, .inr (3, [.int la, .int be, .int ou, .int si, .int en, .int w0, .int w1, .int br, .ref wd, .int (nI t), .ref tw, .ref ts])), (tw, .inl (cA, 8, .inl ftw)), (ts, .inl (cA, 8, .inl fts)), (aL, .inl (cA, 35, .inl lt)), (aB, .inl (cA, 35, .inl bt)), (aZ, .inl (cA, 49, .inl (jEndz z lt bt t ftw fts 35)))] H := z_arrP hP 6 (g := (jEndz z lt bt t ftw fts 35)) rfl (by clear hret hl hS hD hP hK hA hN hts hx hb hr hml hown hlocks hiX1 ih1 ih3; intro p hp; rw [hk, ht_]) rfl
              have hD : va_D A [(o0, .inr (1, [.ref b0, .ref t0, .ref aL, .ref aB, .ref aS, .ref aW, .ref aE, .ref aY, .ref aZ, .ref aF])), (t0, .inr (3, [.int la, .int be, .int ou, .int si, .int en, .int w0, .int w1, .int br, .ref wd, .int (nI t), .ref tw, .ref ts])), (tw, .inl (cA, 8, .inl ftw)), (ts, .inl (cA, 8, .inl fts)), (aL, .inl (cA, 35, .inl lt)), (aB, .inl (cA, 35, .inl bt)), (aZ, .inl (cA, 49, .inl (jEndz z lt bt t ftw fts 35)))] := z_arrD hD 6 rfl rfl
              exact hret () _ _ _ _ dX1_fillEndings_124 (by trivial) hP hD hS
            · skip
              have hltw : 1 < w := Nat.lt_of_not_le (fun q_ => c32_4 ((nI_leI (a := w) (b := 1) (by omega) (by omega)).mpr q_))
              refine lv_iconst (v := pI 0) hx hb dX1_fillEndings_35 (by decide) ?_
              refine lv_istore_n (lv' := [(2, .int (pI 0)), (0, .ref o0), (1, .int (nI w))]) hx hb dX1_fillEndings_36 rfl hl (by decide) rfl (fun ls hl => ?_)
              have L37 : ∀ (n_ : Nat) (K : Nat) (k2 : Nat → Int32) (hm_ : 8 ≤ K + n_) (hK_ : K ≤ 7) (hk2 : k2 = jEndz z lt bt t ftw fts (7 * (6 - w) + K)) (H : Heap) (locs : List Loc) (ls : Array Slot), va_P D vwCl [(o0, .inr (1, [.ref b0, .ref t0, .ref aL, .ref aB, .ref aS, .ref aW, .ref aE, .ref aY, .ref aZ, .ref aF])), (t0, .inr (3, [.int la, .int be, .int ou, .int si, .int en, .int w0, .int w1, .int br, .ref wd, .int (nI t), .ref tw, .ref ts])), (tw, .inl (cA, 8, .inl ftw)), (ts, .inl (cA, 8, .inl fts)), (aL, .inl (cA, 35, .inl lt)), (aB, .inl (cA, 35, .inl bt)), (aZ, .inl (cA, 49, .inl k2))] H → va_D A [(o0, .inr (1, [.ref b0, .ref t0, .ref aL, .ref aB, .ref aS, .ref aW, .ref aE, .ref aY, .ref aZ, .ref aF])), (t0, .inr (3, [.int la, .int be, .int ou, .int si, .int en, .int w0, .int w1, .int br, .ref wd, .int (nI t), .ref tw, .ref ts])), (tw, .inl (cA, 8, .inl ftw)), (ts, .inl (cA, 8, .inl fts)), (aL, .inl (cA, 35, .inl lt)), (aB, .inl (cA, 35, .inl bt)), (aZ, .inl (cA, 49, .inl k2))] → va_S A H0 H locs → lv_has ls 5 [(0, .ref o0), (1, .int (nI w)), (2, .int (pI K))] → W p l e rm_c_X1_fillEndings s m args below meth c H locs 0 0 Q (F0 m 37 ls []) := by
                intro n_
                induction n_ with
                | zero =>
                  intro K k2 hm_ hK_ hk2
                  exact absurd hm_ (by omega)
                | succ n_ ih_ =>
                  intro K k2 hm_ hK_ hk2 H locs ls hP hD hS hl
                  have ih5 := ih_
                  clear ih_
                  refine lv_iload_n hx hb dX1_fillEndings_37 rfl (lv_at hl 2 rfl) ?_
                  refine lv_iconst (v := 5) hx hb dX1_fillEndings_38 (by decide) ?_
                  refine lv_icmp_gt (tgt := 118) hx hb dX1_fillEndings_39 (by decide) (fun c39_6 => ?_) (fun c39_6 => ?_)
                  · skip
                    have ht_ : K = 7 := by have := (pI_7 K (by omega)).mp c39_6; omega
                    refine lv_iinc (v := nI (w - 1)) (lv' := [(1, .int (nI (w - 1))), (0, .ref o0), (2, .int (pI K))]) hx hb dX1_fillEndings_118 hl (k := 1) rfl (z_dec (by omega)) (by decide) rfl (fun ls hl => ?_)
                    refine lv_goto (tgt := 30) hx hb dX1_fillEndings_121 (by decide) ?_
                    exact ih3 (w - 1) k2 (by omega) (by first | assumption | omega) (by first | assumption | omega) (by clear hret hl hS hD hP hK hA hN hts hx hb hr hml hown hlocks hiX1 ih1 ih3 ih5; rw [hk2, ht_]; congr 1; omega) _ _ _ hP hD hS (lv_sub hl [1, 0] rfl)
                  · skip
                    have hltK : K < 7 := Nat.lt_of_not_le (fun q_ => c39_6 ((pI_7 K (by omega)).mpr q_))
                    refine lv_iconst (v := 0) hx hb dX1_fillEndings_42 (by decide) ?_
                    refine lv_istore_n (lv' := [(3, .int 0), (0, .ref o0), (1, .int (nI w)), (2, .int (pI K))]) hx hb dX1_fillEndings_43 rfl hl (by decide) rfl (fun ls hl => ?_)
                    refine lv_iconst (v := nI 0) hx hb dX1_fillEndings_44 (by decide) ?_
                    refine lv_istore (lv' := [(4, .int (nI 0)), (3, .int 0), (0, .ref o0), (1, .int (nI w)), (2, .int (pI K))]) hx hb dX1_fillEndings_45 hl (by decide) rfl (fun ls hl => ?_)
                    have L47 : ∀ (n_ : Nat) (sx : Nat) (v : Int32) (hm_ : 6 ≤ sx + n_) (hs : sx ≤ 5) (hv : v = jE1 lt bt t ftw fts w K k2 sx) (H : Heap) (locs : List Loc) (ls : Array Slot), va_P D vwCl [(o0, .inr (1, [.ref b0, .ref t0, .ref aL, .ref aB, .ref aS, .ref aW, .ref aE, .ref aY, .ref aZ, .ref aF])), (t0, .inr (3, [.int la, .int be, .int ou, .int si, .int en, .int w0, .int w1, .int br, .ref wd, .int (nI t), .ref tw, .ref ts])), (tw, .inl (cA, 8, .inl ftw)), (ts, .inl (cA, 8, .inl fts)), (aL, .inl (cA, 35, .inl lt)), (aB, .inl (cA, 35, .inl bt)), (aZ, .inl (cA, 49, .inl k2))] H → va_D A [(o0, .inr (1, [.ref b0, .ref t0, .ref aL, .ref aB, .ref aS, .ref aW, .ref aE, .ref aY, .ref aZ, .ref aF])), (t0, .inr (3, [.int la, .int be, .int ou, .int si, .int en, .int w0, .int w1, .int br, .ref wd, .int (nI t), .ref tw, .ref ts])), (tw, .inl (cA, 8, .inl ftw)), (ts, .inl (cA, 8, .inl fts)), (aL, .inl (cA, 35, .inl lt)), (aB, .inl (cA, 35, .inl bt)), (aZ, .inl (cA, 49, .inl k2))] → va_S A H0 H locs → lv_has ls 5 [(0, .ref o0), (1, .int (nI w)), (2, .int (pI K)), (3, .int v), (4, .int (nI sx))] → W p l e rm_c_X1_fillEndings s m args below meth c H locs 0 0 Q (F0 m 47 ls []) := by
                      intro n_
                      induction n_ with
                      | zero =>
                        intro sx v hm_ hs hv
                        exact absurd hm_ (by omega)
                      | succ n_ ih_ =>
                        intro sx v hm_ hs hv H locs ls hP hD hS hl
                        have ih7 := ih_
                        clear ih_
                        refine lv_iload hx hb dX1_fillEndings_47 (lv_at hl 4 rfl) ?_
                        refine lv_iconst (v := 5) hx hb dX1_fillEndings_49 (by decide) ?_
                        refine lv_icmp_ge (tgt := 97) hx hb dX1_fillEndings_50 (by decide) (fun c50_8 => ?_) (fun c50_8 => ?_)
                        · skip
                          have ht_ : sx = 5 := by have := (nI_leI (a := 5) (b := sx) (by omega) (by omega)).mp c50_8; omega
                          refine lv_aload_n hx hb dX1_fillEndings_97 rfl (lv_at hl 0 rfl) ?_
                          refine va_get (D := D) (ci := 1) (v := .ref aZ) (C := RX1) (T := TX1) (N := 10) hx hb hts hiX1 hown hK hP 0 rfl rfl 8 (by decide) (hts (.fieldLink RX1 30 "HeardSecond$Outlook" "endings" "[I") (by decide +kernel)) (fun _ h9 => h9) rfl dX1_fillEndings_98 ?_
                          refine lv_iload_n hx hb dX1_fillEndings_101 rfl (lv_at hl 1 rfl) ?_
                          refine lv_iconst (v := 1) hx hb dX1_fillEndings_102 (by decide) ?_
                          refine lv_isub hx hb dX1_fillEndings_103 ?_
                          refine lv_iload_n hx hb dX1_fillEndings_104 rfl (lv_at hl 2 rfl) ?_
                          refine z_bri (z_runS (As := [.int ((nI w) - 1), .int (pI K)]) (rest := [.ref aZ]) ⟨hx, hb, hml, hown, hts⟩ (c_X1_rowPlace (x := (nI w) - 1) (y := pI K) _) (va_cwS 2 hts gX1_fillEndings_X1_rowPlace rfl rfl rfl (by decide +kernel) ⟨Nat.le_of_ble_eq_true rfl, Nat.le_of_ble_eq_true rfl⟩) hK hP hD hN [] rfl rfl rfl hl.1 rfl (Nat.le_of_ble_eq_true rfl) dX1_fillEndings_105 ⟨Nat.zero_le _, Nat.zero_le _⟩) hP hD hS hA [] rfl (fun r_10 u_11 H locs hq_9 hP hS => ?_)
                          obtain rfl : r_10 = ((nI w) - 1) * 7 + (pI K) + 1 := hq_9
                          refine z_top (y := nI (7 * (w - 1) + K)) (rp_eq1 (by omega) K) ?_
                          refine lv_iload_n hx hb dX1_fillEndings_108 rfl (lv_at hl 3 rfl) ?_
                          refine z_bwv (wr := [(o0, .inr (1, [.ref b0, .ref t0, .ref aL, .ref aB, .ref aS, .ref aW, .ref aE, .ref aY, .ref aZ, .ref aF])), (t0, .inr (3, [.int la, .int be, .int ou, .int si, .int en, .int w0, .int w1, .int br, .ref wd, .int (nI t), .ref tw, .ref ts])), (tw, .inl (cA, 8, .inl ftw)), (ts, .inl (cA, 8, .inl fts)), (aL, .inl (cA, 35, .inl lt)), (aB, .inl (cA, 35, .inl bt))]) (ws' := fun (_ : Unit) => [(o0, .inr (1, [.ref b0, .ref t0, .ref aL, .ref aB, .ref aS, .ref aW, .ref aE, .ref aY, .ref aZ, .ref aF])), (t0, .inr (3, [.int la, .int be, .int ou, .int si, .int en, .int w0, .int w1, .int br, .ref wd, .int (nI t), .ref tw, .ref ts])), (tw, .inl (cA, 8, .inl ftw)), (ts, .inl (cA, 8, .inl fts)), (aL, .inl (cA, 35, .inl lt)), (aB, .inl (cA, 35, .inl bt)), (aZ, .inl (cA, 49, .inl (jPut 49 k2 (nI (7 * (w - 1) + K)) v)))]) (z_runSN (As := [.ref aZ, .int (nI (7 * (w - 1) + K)), .int v]) (rest := []) ⟨hx, hb, hml, hown, hts⟩ (c_X4_put (n := 49) (q := aZ) (f := k2) (x := nI (7 * (w - 1) + K)) (v := v) (by first | assumption | omega) _) (va_cnB (own := RX1) (host := "HeardSecond") (index := 64) 3 hts ggX1_fillEndings_X4_put rfl rfl rfl (hN.get 26 rfl) (hts (.initialized RX4) (by decide +kernel)) (by decide +kernel) ⟨Nat.le_of_ble_eq_true rfl, Nat.le_of_ble_eq_true rfl⟩) (hts (.static yX4_put) (by decide +kernel)) hK hP hD hN [6] rfl rfl rfl hl.1 rfl (Nat.le_of_ble_eq_true rfl) dX1_fillEndings_109 ⟨Nat.zero_le _, Nat.zero_le _⟩) hP hD hS hA [6] [0, 1, 2, 3, 4, 5] [0, 1, 2, 3, 4, 5, 6] rfl rfl rfl (by decide) rfl (fun _ => rfl) (fun u_14 H locs hq_12 hP hD hS => ?_)
                          have hP : va_P D vwCl [(o0, .inr (1, [.ref b0, .ref t0, .ref aL, .ref aB, .ref aS, .ref aW, .ref aE, .ref aY, .ref aZ, .ref aF])), (t0, .inr (3, [.int la, .int be, .int ou, .int si, .int en, .int w0, .int w1, .int br, .ref wd, .int (nI t), .ref tw, .ref ts])), (tw, .inl (cA, 8, .inl ftw)), (ts, .inl (cA, 8, .inl fts)), (aL, .inl (cA, 35, .inl lt)), (aB, .inl (cA, 35, .inl bt)), (aZ, .inl (cA, 49, .inl (jPut 49 k2 (nI (7 * (w - 1) + K)) v)))] H := hP
                          have hD : va_D A [(o0, .inr (1, [.ref b0, .ref t0, .ref aL, .ref aB, .ref aS, .ref aW, .ref aE, .ref aY, .ref aZ, .ref aF])), (t0, .inr (3, [.int la, .int be, .int ou, .int si, .int en, .int w0, .int w1, .int br, .ref wd, .int (nI t), .ref tw, .ref ts])), (tw, .inl (cA, 8, .inl ftw)), (ts, .inl (cA, 8, .inl fts)), (aL, .inl (cA, 35, .inl lt)), (aB, .inl (cA, 35, .inl bt)), (aZ, .inl (cA, 49, .inl (jPut 49 k2 (nI (7 * (w - 1) + K)) v)))] := hD
                          refine lv_iinc (v := pI (K + 1)) (lv' := [(2, .int (pI (K + 1))), (0, .ref o0), (1, .int (nI w)), (3, .int v), (4, .int (nI sx))]) hx hb dX1_fillEndings_112 hl (k := 2) rfl (pI_1 K) (by decide) rfl (fun ls hl => ?_)
                          refine lv_goto (tgt := 37) hx hb dX1_fillEndings_115 (by decide) ?_
                          exact ih5 (K + 1) (jPut 49 k2 (nI (7 * (w - 1) + K)) v) (by omega) (by first | assumption | omega) (by clear hret hl hS hD hP hK hA hN hts hx hb hr hml hown hlocks hiX1 ih1 ih3 ih5 ih7; rw [show 7 * (6 - w) + (K + 1) = (7 * (6 - w) + K) + 1 from by omega, jEndz, ← hk2, show 5 - (7 * (6 - w) + K) / 7 = w - 1 from by omega, show (7 * (6 - w) + K) % 7 = K from by omega, show 6 - (7 * (6 - w) + K) / 7 = w from by omega, ← ht_, ← hv]) _ _ _ hP hD hS (lv_sub hl [1, 2, 0] rfl)
                        · skip
                          have hltsx : sx < 5 := Nat.lt_of_not_le (fun q_ => c50_8 ((nI_leI (a := 5) (b := sx) (by omega) (by omega)).mpr q_))
                          refine lv_aload_n hx hb dX1_fillEndings_53 rfl (lv_at hl 0 rfl) ?_
                          refine lv_iload_n hx hb dX1_fillEndings_54 rfl (lv_at hl 1 rfl) ?_
                          refine lv_iload hx hb dX1_fillEndings_55 (lv_at hl 4 rfl) ?_
                          refine lv_iload_n hx hb dX1_fillEndings_57 rfl (lv_at hl 2 rfl) ?_
                          refine z_bri (z_runV (As := [.int (nI w), .int (nI sx), .int (pI K)]) (rest := []) (ci := 1) ⟨hx, hb, hml, hown, hts⟩ (c_X1_canBeWord (o0 := o0) (b0 := b0) (t0 := t0) (aL := aL) (aB := aB) (aS := aS) (aW := aW) (aE := aE) (aY := aY) (aZ := aZ) (aF := aF) (wd := wd) (tw := tw) (ts := ts) (t := t) (la := la) (be := be) (ou := ou) (si := si) (en := en) (w0 := w0) (w1 := w1) (br := br) (ftw := ftw) (fts := fts) (lt := lt) (bt := bt) (sx := sx) (L := K) (x := nI w) (by first | assumption | omega) (by first | assumption | omega) (by first | assumption | omega) _) (cwV 3 hts gX1_fillEndings_X1_canBeWord rfl rfl rfl (by decide +kernel) ⟨Nat.le_of_ble_eq_true rfl, Nat.le_of_ble_eq_true rfl⟩) hK hP hD hN [0, 1, 2, 3, 4, 5] rfl rfl rfl rfl rfl hl.1 rfl (Nat.le_of_ble_eq_true rfl) dX1_fillEndings_58 ⟨Nat.zero_le _, Nat.zero_le _⟩) hP hD hS hA [0, 1, 2, 3, 4, 5] rfl (fun r_16 u_17 H locs hq_15 hP hS => ?_)
                          obtain rfl : r_16 = bI (jOk lt bt t ftw fts (nI w) sx K) := hq_15
                          refine lv_if_eq (tgt := 91) hx hb dX1_fillEndings_61 (by decide) (fun c61_18 => ?_) (fun c61_18 => ?_)
                          · skip
                            have c61_18 := bI_0.mp c61_18
                            refine lv_iinc (v := nI (sx + 1)) (lv' := [(4, .int (nI (sx + 1))), (0, .ref o0), (1, .int (nI w)), (2, .int (pI K)), (3, .int v)]) hx hb dX1_fillEndings_91 hl (k := 4) rfl (nI_1 sx) (by decide) rfl (fun ls hl => ?_)
                            refine lv_goto (tgt := 47) hx hb dX1_fillEndings_94 (by decide) ?_
                            exact ih7 (sx + 1) v (by omega) (by first | assumption | omega) (by clear hret hl hS hD hP hK hA hN hts hx hb hr hml hown hlocks hiX1 ih1 ih3 ih5 ih7; rw [jE1]; simp_all) _ _ _ hP hD hS (lv_sub hl [1, 2, 3, 4, 0] rfl)
                          · skip
                            have c61_18 := bI_n0.mp c61_18
                            refine lv_iload_n hx hb dX1_fillEndings_64 rfl (lv_at hl 3 rfl) ?_
                            refine lv_aload_n hx hb dX1_fillEndings_65 rfl (lv_at hl 0 rfl) ?_
                            refine va_get (D := D) (ci := 1) (v := .ref aZ) (C := RX1) (T := TX1) (N := 10) hx hb hts hiX1 hown hK hP 0 rfl rfl 8 (by decide) (hts (.fieldLink RX1 30 "HeardSecond$Outlook" "endings" "[I") (by decide +kernel)) (fun _ h9 => h9) rfl dX1_fillEndings_66 ?_
                            refine lv_iload_n hx hb dX1_fillEndings_69 rfl (lv_at hl 1 rfl) ?_
                            refine lv_aload_n hx hb dX1_fillEndings_70 rfl (lv_at hl 0 rfl) ?_
                            refine va_get (D := D) (ci := 1) (v := .ref aL) (C := RX1) (T := TX1) (N := 10) hx hb hts hiX1 hown hK hP 0 rfl rfl 2 (by decide) (hts (.fieldLink RX1 9 "HeardSecond$Outlook" "lastThen" "[I") (by decide +kernel)) (fun _ h9 => h9) rfl dX1_fillEndings_71 ?_
                            refine lv_iload_n hx hb dX1_fillEndings_74 rfl (lv_at hl 2 rfl) ?_
                            refine lv_iload hx hb dX1_fillEndings_75 (lv_at hl 4 rfl) ?_
                            refine z_bri (z_runS (As := [.int (pI K), .int (nI sx)]) (rest := [.ref aL, .int (nI w), .ref aZ, .int v]) ⟨hx, hb, hml, hown, hts⟩ (c_X1_wordPlace (x := pI K) (y := nI sx) _) (va_cwS 2 hts gX1_fillEndings_X1_wordPlace rfl rfl rfl (by decide +kernel) ⟨Nat.le_of_ble_eq_true rfl, Nat.le_of_ble_eq_true rfl⟩) hK hP hD hN [] rfl rfl rfl hl.1 rfl (Nat.le_of_ble_eq_true rfl) dX1_fillEndings_77 ⟨Nat.zero_le _, Nat.zero_le _⟩) hP hD hS hA [] rfl (fun r_20 u_21 H locs hq_19 hP hS => ?_)
                            obtain rfl : r_20 = ((pI K) + 1) * 5 + (nI sx) := hq_19
                            refine z_top (y := nI (5 * K + sx)) (wp_eq K sx) ?_
                            refine z_bri (z_runSN (As := [.ref aL, .int (nI (5 * K + sx))]) (rest := [.int (nI w), .ref aZ, .int v]) ⟨hx, hb, hml, hown, hts⟩ (c_X4_at (n := 35) (q := aL) (f := lt) (x := nI (5 * K + sx)) (by first | assumption | omega) _) (va_cnB (own := RX1) (host := "HeardSecond") (index := 93) 2 hts ggX1_fillEndings_X4_at rfl rfl rfl (hN.get 28 rfl) (hts (.initialized RX4) (by decide +kernel)) (by decide +kernel) ⟨Nat.le_of_ble_eq_true rfl, Nat.le_of_ble_eq_true rfl⟩) (hts (.static yX4_at) (by decide +kernel)) hK hP hD hN [4] rfl rfl rfl hl.1 rfl (Nat.le_of_ble_eq_true rfl) dX1_fillEndings_80 ⟨Nat.zero_le _, Nat.zero_le _⟩) hP hD hS hA [4] rfl (fun r_23 u_24 H locs hq_22 hP hS => ?_)
                            obtain rfl : r_23 = jAt 35 lt (nI (5 * K + sx)) := hq_22
                            refine z_top (y := lt (5 * K + sx)) (jAt_nI (by omega) (by decide)) ?_
                            refine z_bri (z_runS (As := [.int (nI w), .int (lt (5 * K + sx))]) (rest := [.ref aZ, .int v]) ⟨hx, hb, hml, hown, hts⟩ (c_X1_rowPlace (x := nI w) (y := lt (5 * K + sx)) _) (va_cwS 2 hts gX1_fillEndings_X1_rowPlace rfl rfl rfl (by decide +kernel) ⟨Nat.le_of_ble_eq_true rfl, Nat.le_of_ble_eq_true rfl⟩) hK hP hD hN [] rfl rfl rfl hl.1 rfl (Nat.le_of_ble_eq_true rfl) dX1_fillEndings_83 ⟨Nat.zero_le _, Nat.zero_le _⟩) hP hD hS hA [] rfl (fun r_26 u_27 H locs hq_25 hP hS => ?_)
                            obtain rfl : r_26 = (nI w) * 7 + (lt (5 * K + sx)) + 1 := hq_25
                            refine z_top (y := jTo w lt sx K) (rfl) ?_
                            refine z_bri (z_runSN (As := [.ref aZ, .int (jTo w lt sx K)]) (rest := [.int v]) ⟨hx, hb, hml, hown, hts⟩ (c_X4_at (n := 49) (q := aZ) (f := k2) (x := jTo w lt sx K) (by first | assumption | omega) _) (va_cnB (own := RX1) (host := "HeardSecond") (index := 93) 2 hts ggX1_fillEndings_X4_at rfl rfl rfl (hN.get 28 rfl) (hts (.initialized RX4) (by decide +kernel)) (by decide +kernel) ⟨Nat.le_of_ble_eq_true rfl, Nat.le_of_ble_eq_true rfl⟩) (hts (.static yX4_at) (by decide +kernel)) hK hP hD hN [6] rfl rfl rfl hl.1 rfl (Nat.le_of_ble_eq_true rfl) dX1_fillEndings_86 ⟨Nat.zero_le _, Nat.zero_le _⟩) hP hD hS hA [6] rfl (fun r_29 u_30 H locs hq_28 hP hS => ?_)
                            obtain rfl : r_29 = jAt 49 k2 (jTo w lt sx K) := hq_28
                            refine lv_iadd hx hb dX1_fillEndings_89 ?_
                            refine lv_istore_n (lv' := [(3, .int (v + (jAt 49 k2 (jTo w lt sx K)))), (0, .ref o0), (1, .int (nI w)), (2, .int (pI K)), (4, .int (nI sx))]) hx hb dX1_fillEndings_90 rfl hl (by decide) rfl (fun ls hl => ?_)
                            refine lv_iinc (v := nI (sx + 1)) (lv' := [(4, .int (nI (sx + 1))), (3, .int (v + (jAt 49 k2 (jTo w lt sx K)))), (0, .ref o0), (1, .int (nI w)), (2, .int (pI K))]) hx hb dX1_fillEndings_91 hl (k := 4) rfl (nI_1 sx) (by decide) rfl (fun ls hl => ?_)
                            refine lv_goto (tgt := 47) hx hb dX1_fillEndings_94 (by decide) ?_
                            exact ih7 (sx + 1) (v + (jAt 49 k2 (jTo w lt sx K))) (by omega) (by first | assumption | omega) (by clear hret hl hS hD hP hK hA hN hts hx hb hr hml hown hlocks hiX1 ih1 ih3 ih5 ih7; rw [jE1]; simp_all) _ _ _ hP hD hS (lv_sub hl [2, 3, 4, 1, 0] rfl)
                    exact L47 6 0 0 (by omega) (by first | assumption | omega) (by rfl) _ _ _ hP hD hS (lv_sub hl [2, 3, 4, 1, 0] rfl)
              exact L37 8 0 k (by omega) (by first | assumption | omega) (by clear hret hl hS hD hP hK hA hN hts hx hb hr hml hown hlocks hiX1 ih1 ih3 L37; exact hk) _ _ _ hP hD hS (lv_sub hl [1, 2, 0] rfl)
        exact L30 7 6 g (by omega) (by first | assumption | omega) (by first | assumption | omega) (by clear hret hl hS hD hP hK hA hN hts hx hb hr hml hown hlocks hiX1 ih1 L30; rw [hg, ht_]; rfl) _ _ _ hP hD hS (lv_sub hl [1, 0] rfl)
      · skip
        have hltL : L < 7 := Nat.lt_of_not_le (fun q_ => c4_2 ((pI_7 L (by omega)).mpr q_))
        refine lv_aload_n hx hb dX1_fillEndings_7 rfl (lv_at hl 0 rfl) ?_
        refine va_get (D := D) (ci := 1) (v := .ref aZ) (C := RX1) (T := TX1) (N := 10) hx hb hts hiX1 hown hK hP 0 rfl rfl 8 (by decide) (hts (.fieldLink RX1 30 "HeardSecond$Outlook" "endings" "[I") (by decide +kernel)) (fun _ h9 => h9) rfl dX1_fillEndings_8 ?_
        refine lv_bipush (v := 6) hx hb dX1_fillEndings_11 (by decide) ?_
        refine lv_iload_n hx hb dX1_fillEndings_13 rfl (lv_at hl 1 rfl) ?_
        refine z_bri (z_runS (As := [.int 6, .int (pI L)]) (rest := [.ref aZ]) ⟨hx, hb, hml, hown, hts⟩ (c_X1_rowPlace (x := 6) (y := pI L) _) (va_cwS 2 hts gX1_fillEndings_X1_rowPlace rfl rfl rfl (by decide +kernel) ⟨Nat.le_of_ble_eq_true rfl, Nat.le_of_ble_eq_true rfl⟩) hK hP hD hN [] rfl rfl rfl hl.1 rfl (Nat.le_of_ble_eq_true rfl) dX1_fillEndings_14 ⟨Nat.zero_le _, Nat.zero_le _⟩) hP hD hS hA [] rfl (fun r_32 u_33 H locs hq_31 hP hS => ?_)
        obtain rfl : r_32 = 6 * 7 + (pI L) + 1 := hq_31
        refine z_top (y := nI (42 + L)) (rp_eq 6 L) ?_
        refine lv_iconst (v := 1) hx hb dX1_fillEndings_17 (by decide) ?_
        refine z_bwv (wr := [(o0, .inr (1, [.ref b0, .ref t0, .ref aL, .ref aB, .ref aS, .ref aW, .ref aE, .ref aY, .ref aZ, .ref aF])), (t0, .inr (3, [.int la, .int be, .int ou, .int si, .int en, .int w0, .int w1, .int br, .ref wd, .int (nI t), .ref tw, .ref ts])), (tw, .inl (cA, 8, .inl ftw)), (ts, .inl (cA, 8, .inl fts)), (aL, .inl (cA, 35, .inl lt)), (aB, .inl (cA, 35, .inl bt))]) (ws' := fun (_ : Unit) => [(o0, .inr (1, [.ref b0, .ref t0, .ref aL, .ref aB, .ref aS, .ref aW, .ref aE, .ref aY, .ref aZ, .ref aF])), (t0, .inr (3, [.int la, .int be, .int ou, .int si, .int en, .int w0, .int w1, .int br, .ref wd, .int (nI t), .ref tw, .ref ts])), (tw, .inl (cA, 8, .inl ftw)), (ts, .inl (cA, 8, .inl fts)), (aL, .inl (cA, 35, .inl lt)), (aB, .inl (cA, 35, .inl bt)), (aZ, .inl (cA, 49, .inl (jPut 49 g (nI (42 + L)) 1)))]) (z_runSN (As := [.ref aZ, .int (nI (42 + L)), .int 1]) (rest := []) ⟨hx, hb, hml, hown, hts⟩ (c_X4_put (n := 49) (q := aZ) (f := g) (x := nI (42 + L)) (v := 1) (by first | assumption | omega) _) (va_cnB (own := RX1) (host := "HeardSecond") (index := 64) 3 hts ggX1_fillEndings_X4_put rfl rfl rfl (hN.get 26 rfl) (hts (.initialized RX4) (by decide +kernel)) (by decide +kernel) ⟨Nat.le_of_ble_eq_true rfl, Nat.le_of_ble_eq_true rfl⟩) (hts (.static yX4_put) (by decide +kernel)) hK hP hD hN [6] rfl rfl rfl hl.1 rfl (Nat.le_of_ble_eq_true rfl) dX1_fillEndings_18 ⟨Nat.zero_le _, Nat.zero_le _⟩) hP hD hS hA [6] [0, 1, 2, 3, 4, 5] [0, 1, 2, 3, 4, 5, 6] rfl rfl rfl (by decide) rfl (fun _ => rfl) (fun u_36 H locs hq_34 hP hD hS => ?_)
        have hP : va_P D vwCl [(o0, .inr (1, [.ref b0, .ref t0, .ref aL, .ref aB, .ref aS, .ref aW, .ref aE, .ref aY, .ref aZ, .ref aF])), (t0, .inr (3, [.int la, .int be, .int ou, .int si, .int en, .int w0, .int w1, .int br, .ref wd, .int (nI t), .ref tw, .ref ts])), (tw, .inl (cA, 8, .inl ftw)), (ts, .inl (cA, 8, .inl fts)), (aL, .inl (cA, 35, .inl lt)), (aB, .inl (cA, 35, .inl bt)), (aZ, .inl (cA, 49, .inl (jPut 49 g (nI (42 + L)) 1)))] H := hP
        have hD : va_D A [(o0, .inr (1, [.ref b0, .ref t0, .ref aL, .ref aB, .ref aS, .ref aW, .ref aE, .ref aY, .ref aZ, .ref aF])), (t0, .inr (3, [.int la, .int be, .int ou, .int si, .int en, .int w0, .int w1, .int br, .ref wd, .int (nI t), .ref tw, .ref ts])), (tw, .inl (cA, 8, .inl ftw)), (ts, .inl (cA, 8, .inl fts)), (aL, .inl (cA, 35, .inl lt)), (aB, .inl (cA, 35, .inl bt)), (aZ, .inl (cA, 49, .inl (jPut 49 g (nI (42 + L)) 1)))] := hD
        refine lv_iinc (v := pI (L + 1)) (lv' := [(1, .int (pI (L + 1))), (0, .ref o0)]) hx hb dX1_fillEndings_21 hl (k := 1) rfl (pI_1 L) (by decide) rfl (fun ls hl => ?_)
        refine lv_goto (tgt := 2) hx hb dX1_fillEndings_24 (by decide) ?_
        exact ih1 (L + 1) (jPut 49 g (nI (42 + L)) 1) (by omega) (by first | assumption | omega) (by clear hret hl hS hD hP hK hA hN hts hx hb hr hml hown hlocks hiX1 ih1; rw [jEnd0z, hg]) _ _ _ hP hD hS (lv_sub hl [1, 0] rfl)
  exact L2 8 0 z (by omega) (by first | assumption | omega) (by rfl) _ _ _ hP hD hS (lv_sub hl [1, 0] rfl)
