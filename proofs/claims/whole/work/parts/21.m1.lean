abbrev rm_c_X5_in : Room := { frames := 0, cells := 0, slots := 0, locals := 0 }
set_option maxHeartbeats 400000 in
set_option maxRecDepth 20000 in
theorem c_X5_in {l : Launch} {D : va_G} {cA : ClassId} {x : Int64} {lo : Int64} {hi : Int64} : zMi l yX5_in wsX5_in rm_c_X5_in D cA [] [.long x, .long lo, .long hi] (fun (r : Int32) (_ : Unit) => r = bI (decide (lo ≤ x) && decide (x ≤ hi))) (fun (_ : Unit) => []) := by
  refine z_enteri (cc := cX5_in) (maxL := 6) (ty := .boolean) (by decide) rfl (Nat.le_of_ble_eq_true rfl) (fun p e s m args below meth c ls A H0 H locs Q hi_ hA hK hP hD hS hl hret => ?_)
  obtain ⟨hx, hb, hr, hml, hown, hts, hlocks, hN⟩ := hi_
  have hl : lv_has ls 6 [(0, .long x), (2, .long lo), (4, .long hi)] := hl
  refine lv_lload_n hx hb dX5_in_0 rfl (lv_at hl 0 rfl) ?_
  refine lv_lload_n hx hb dX5_in_1 rfl (lv_at hl 1 rfl) ?_
  refine W.lcmp hx hb dX5_in_2 ?_
  refine lv_if_lt (tgt := 17) hx hb dX5_in_3 (by decide) (fun c3_1 => ?_) (fun c3_1 => ?_)
  · skip
    have h1_ := (lg_cmp_lt _ _).mp c3_1
    refine lv_iconst (v := 0) hx hb dX5_in_17 (by decide) ?_
    -- path 1
    exact hret (0) () _ _ _ _ dX5_in_18 (rfl) (by clear hret hl hS hD hP hK hA hN hts hx hb hr hml hown hlocks ; grind [bI]) hP hD hS
  · skip
    have h1_ := fun q_ => c3_1 ((lg_cmp_lt _ _).mpr q_)
    refine lv_lload_n hx hb dX5_in_6 rfl (lv_at hl 0 rfl) ?_
    refine lv_lload hx hb dX5_in_7 (lv_at hl 2 rfl) ?_
    refine W.lcmp hx hb dX5_in_9 ?_
    refine lv_if_gt (tgt := 17) hx hb dX5_in_10 (by decide) (fun c10_2 => ?_) (fun c10_2 => ?_)
    · skip
      have h2_ := (lg_cmp_gt _ _).mp c10_2
      refine lv_iconst (v := 0) hx hb dX5_in_17 (by decide) ?_
      -- path 2
      exact hret (0) () _ _ _ _ dX5_in_18 (rfl) (by clear hret hl hS hD hP hK hA hN hts hx hb hr hml hown hlocks ; grind [bI]) hP hD hS
    · skip
      have h2_ := fun q_ => c10_2 ((lg_cmp_gt _ _).mpr q_)
      refine lv_iconst (v := 1) hx hb dX5_in_13 (by decide) ?_
      refine lv_goto (tgt := 18) hx hb dX5_in_14 (by decide) ?_
      -- path 3
      exact hret (1) () _ _ _ _ dX5_in_18 (rfl) (by clear hret hl hS hD hP hK hA hN hts hx hb hr hml hown hlocks ; grind [bI]) hP hD hS
abbrev rm_c_X5_copy : Room := { frames := 0, cells := 0, slots := 0, locals := 0 }
set_option maxHeartbeats 400000 in
set_option maxRecDepth 20000 in
theorem c_X5_copy {l : Launch} {D : va_G} {cA : ClassId} {n : Nat} {q : Nat} {q2 : Nat} {f : Nat → Int32} {f2 : Nat → Int32} (hn : n < 2147483648) : zMv l yX5_copy wsX5_copy rm_c_X5_copy D cA [(q, .inl (cA, n, .inl f)), (q2, .inl (cA, n, .inl f2))] [.ref q, .ref q2] (fun (_ : Unit) => True) (fun (_ : Unit) => [(q, .inl (cA, n, .inl f)), (q2, .inl (cA, n, .inl f))]) := by
  refine z_enterv (cc := cX5_copy) (maxL := 3) (by decide) rfl (Nat.le_of_ble_eq_true rfl) (fun p e s m args below meth c ls A H0 H locs Q hi_ hA hK hP hD hS hl hret => ?_)
  obtain ⟨hx, hb, hr, hml, hown, hts, hlocks, hN⟩ := hi_
  have hl : lv_has ls 3 [(0, .ref q), (1, .ref q2)] := hl
  refine lv_iconst (v := nI 0) hx hb dX5_copy_0 (by decide) ?_
  refine lv_istore_n (lv' := [(2, .int (nI 0)), (0, .ref q), (1, .ref q2)]) hx hb dX5_copy_1 rfl hl (by decide) rfl (fun ls hl => ?_)
  have L2 : ∀ (n_ : Nat) (i : Nat) (g : Nat → Int32) (hm_ : n + 1 ≤ i + n_) (hi : i ≤ n) (hg : ∀ j, j < i → g j = f j) (H : Heap) (locs : List Loc) (ls : Array Slot), va_P D vwCl [(q, .inl (cA, n, .inl f)), (q2, .inl (cA, n, .inl g))] H → va_D A [(q, .inl (cA, n, .inl f)), (q2, .inl (cA, n, .inl g))] → va_S A H0 H locs → lv_has ls 3 [(0, .ref q), (1, .ref q2), (2, .int (nI i))] → W p l e rm_c_X5_copy s m args below meth c H locs 0 0 Q (F0 m 2 ls []) := by
    intro n_
    induction n_ with
    | zero =>
      intro i g hm_ hi hg
      exact absurd hm_ (by omega)
    | succ n_ ih_ =>
      intro i g hm_ hi hg H locs ls hP hD hS hl
      have ih1 := ih_
      clear ih_
      refine lv_iload_n hx hb dX5_copy_2 rfl (lv_at hl 2 rfl) ?_
      refine lv_aload_n hx hb dX5_copy_3 rfl (lv_at hl 0 rfl) ?_
      refine va_alen (v := nI n) hx hb hK hP 0 0 rfl rfl rfl dX5_copy_4 ?_
      refine lv_icmp_ge (tgt := 20) hx hb dX5_copy_5 (by decide) (fun c5_2 => ?_) (fun c5_2 => ?_)
      · skip
        have ht_ : i = n := by have := (nI_leI (a := n) (b := i) (by omega) (by omega)).mp c5_2; omega
        -- path 1
        have hP : va_P D vwCl [(q, .inl (cA, n, .inl f)), (q2, .inl (cA, n, .inl f))] H := z_arrP hP 1 (g := f) rfl (by clear hret hl hS hD hP hK hA hN hts hx hb hr hml hown hlocks  ih1; intro j hj; exact hg j (by omega)) rfl
        have hD : va_D A [(q, .inl (cA, n, .inl f)), (q2, .inl (cA, n, .inl f))] := z_arrD hD 1 rfl rfl
        exact hret () _ _ _ _ dX5_copy_20 (by trivial) hP hD hS
      · skip
        have hlti : i < n := Nat.lt_of_not_le (fun q_ => c5_2 ((nI_leI (a := n) (b := i) (by omega) (by omega)).mpr q_))
        refine lv_aload_n hx hb dX5_copy_8 rfl (lv_at hl 1 rfl) ?_
        refine lv_iload_n hx hb dX5_copy_9 rfl (lv_at hl 2 rfl) ?_
        refine lv_aload_n hx hb dX5_copy_10 rfl (lv_at hl 0 rfl) ?_
        refine lv_iload_n hx hb dX5_copy_11 rfl (lv_at hl 2 rfl) ?_
        refine va_iald hx hb hK hP 0 0 rfl rfl (z_inN (by assumption) hn) dX5_copy_12 ?_
        refine z_top (y := f i) (by rw [z_nat (by omega)]) ?_
        refine va_iast hx hb hK hP hD hS 1 0 rfl rfl (z_inN (by assumption) hn) dX5_copy_13 (fun H locs hP hD hS => ?_)
        have hP : va_P D vwCl [(q, .inl (cA, n, .inl f)), (q2, .inl (cA, n, .inl (upd g (Int32.toNatClampNeg (nI i)) (f i))))] H := hP
        have hD : va_D A [(q, .inl (cA, n, .inl f)), (q2, .inl (cA, n, .inl (upd g (Int32.toNatClampNeg (nI i)) (f i))))] := hD
        refine lv_iinc (v := nI (i + 1)) (lv' := [(2, .int (nI (i + 1))), (0, .ref q), (1, .ref q2)]) hx hb dX5_copy_14 hl (k := 2) rfl (nI_1 i) (by decide) rfl (fun ls hl => ?_)
        refine lv_goto (tgt := 2) hx hb dX5_copy_17 (by decide) ?_
        exact ih1 (i + 1) (upd g (Int32.toNatClampNeg (nI i)) (f i)) (by omega) (by first | assumption | omega) (by clear hret hl hS hD hP hK hA hN hts hx hb hr hml hown hlocks  ih1; intro j hj; rw [z_nat (by omega)]; unfold upd; split <;> first | (rename_i e_; rw [e_]) | exact hg j (by omega)) _ _ _ hP hD hS (lv_sub hl [1, 2, 0] rfl)
  exact L2 (n + 1) 0 f2 (by omega) (by first | assumption | omega) (by clear hret hl hS hD hP hK hA hN hts hx hb hr hml hown hlocks  L2; intro j hj; omega) _ _ _ hP hD hS (lv_sub hl [1, 2, 0] rfl)
abbrev rm_c_X5_letter : Room := { frames := 1, cells := 0, slots := 0, locals := 25 }
set_option maxHeartbeats 400000 in
set_option maxRecDepth 20000 in
theorem c_X5_letter {l : Launch} {D : va_G} {cA : ClassId} {m0 : Nat} {pg : Nat} {rd : Nat} {ro : Nat} {fa : Nat} {wo : Nat} {ah : Nat} {he : Nat} {wy : Nat} {on_ : Nat} {pa : Nat} {kr : Nat} {kn : Nat} {kh : Nat} {sr : Nat} {sn : Nat} {n : Nat} {N : Nat} {t : Nat} {rmy : Int32} {rpt : Int32} {sta : Int32} {pt : Int32} {nw : Int32} {ou : Int32} {si : Int32} {en : Int32} {w0 : Int32} {w1 : Int32} {br : Int32} {cr : Int32} {pf : Int32} {kt : Int32} {kc : Int32} {sd : Int32} {ha : Int64} {f : Nat → Int32} {c_ : Int32} (hn : n ≤ 18) : zMi l yX5_letter wsX5_letter rm_c_X5_letter D cA [(m0, .inr (5, [.ref pg, .int (nI n), .ref rd, .int rmy, .int rpt, .int sta, .int (nI N), .int pt, .int nw, .int ou, .int si, .int en, .int w0, .int w1, .int br, .int cr, .ref ro, .ref fa, .ref wo, .ref ah, .int pf, .int (nI t), .ref he, .ref wy, .ref on_, .ref pa, .ref kr, .ref kn, .ref kh, .int kt, .int kc, .int sd, .ref sr, .ref sn, .long ha])), (pg, .inl (cA, 18, .inl f))] [.ref m0, .int c_] (fun (r : Int32) (_ : Unit) => r = if c_ < 1 ∨ 126 < c_ then -102 else if 18 ≤ n then -104 else nI (n + 1)) (fun (_ : Unit) => [(m0, .inr (5, [.ref pg, .int (nI (if jLetOk n c_ then n + 1 else n)), .ref rd, .int rmy, .int rpt, .int sta, .int (nI N), .int pt, .int nw, .int ou, .int si, .int en, .int w0, .int w1, .int br, .int cr, .ref ro, .ref fa, .ref wo, .ref ah, .int pf, .int (nI t), .ref he, .ref wy, .ref on_, .ref pa, .ref kr, .ref kn, .ref kh, .int kt, .int kc, .int sd, .ref sr, .ref sn, .long ha])), (pg, .inl (cA, 18, .inl (if jLetOk n c_ then upd f n c_ else f)))]) := by
  refine z_enteri (cc := cX5_letter) (maxL := 2) (ty := .int) (by decide) rfl (Nat.le_of_ble_eq_true rfl) (fun p e s m args below meth c ls A H0 H locs Q hi_ hA hK hP hD hS hl hret => ?_)
  obtain ⟨hx, hb, hr, hml, hown, hts, hlocks, hN⟩ := hi_
  have hl : lv_has ls 2 [(0, .ref m0), (1, .int c_)] := hl
  have hiX5 : ∀ w ∈ wsX50, w ∈ wsX5_letter := by decide +kernel
  refine lv_iload_n hx hb dX5_letter_0 rfl (lv_at hl 1 rfl) ?_
  refine lv_i2l hx hb dX5_letter_1 rfl ?_
  refine lv_lconst (v := 1) hx hb dX5_letter_2 (by decide) ?_
  refine lv_ldc2 (v := 126) hx hb hown (hts (.constantLong RX5 62 (126)) (by decide +kernel)) dX5_letter_3 ?_
  refine z_bri (z_runS (As := [.long (Int32.toInt64 c_), .long 1, .long 126]) (rest := []) ⟨hx, hb, hml, hown, hts⟩ (c_X5_in (x := Int32.toInt64 c_) (lo := 1) (hi := 126) _) (va_cwS 3 hts gX5_letter_X5_in rfl rfl rfl (by decide +kernel) ⟨Nat.le_of_ble_eq_true rfl, Nat.le_of_ble_eq_true rfl⟩) hK hP hD hN [] rfl rfl rfl hl.1 rfl (Nat.le_of_ble_eq_true rfl) dX5_letter_6 ⟨Nat.zero_le _, Nat.zero_le _⟩) hP hD hS hA [] rfl (fun r_2 u_3 H locs hq_1 hP hS => ?_)
  obtain rfl : r_2 = bI (decide (1 ≤ (Int32.toInt64 c_)) && decide ((Int32.toInt64 c_) ≤ 126)) := hq_1
  refine z_top (y := bI (mIn c_ 1 126)) (z_in64 rfl rfl) ?_
  refine lv_if_ne (tgt := 15) hx hb dX5_letter_9 (by decide) (fun c9_4 => ?_) (fun c9_4 => ?_)
  · skip
    have c9_4 := bI_n0.mp c9_4
    refine lv_aload_n hx hb dX5_letter_15 rfl (lv_at hl 0 rfl) ?_
    refine va_get (D := D) (ci := 5) (v := .int (nI n)) (C := RX5) (T := TX5) (N := 35) hx hb hts hiX5 hown hK hP 0 rfl rfl 1 (by decide) (hts (.fieldLink RX5 68 "HeardSecondModel" "pageMany" "I") (by decide +kernel)) (fun _ h9 => h9) rfl dX5_letter_16 ?_
    refine lv_bipush (v := 18) hx hb dX5_letter_19 (by decide) ?_
    refine lv_icmp_ne (tgt := 27) hx hb dX5_letter_21 (by decide) (fun c21_5 => ?_) (fun c21_5 => ?_)
    · skip
      have hn18 : n < 18 := Nat.lt_of_le_of_ne hn (fun q_ => c21_5 (by rw [q_]; rfl))
      refine lv_aload_n hx hb dX5_letter_27 rfl (lv_at hl 0 rfl) ?_
      refine va_get (D := D) (ci := 5) (v := .ref pg) (C := RX5) (T := TX5) (N := 35) hx hb hts hiX5 hown hK hP 0 rfl rfl 0 (by decide) (hts (.fieldLink RX5 7 "HeardSecondModel" "page" "[I") (by decide +kernel)) (fun _ h9 => h9) rfl dX5_letter_28 ?_
      refine lv_aload_n hx hb dX5_letter_31 rfl (lv_at hl 0 rfl) ?_
      refine va_get (D := D) (ci := 5) (v := .int (nI n)) (C := RX5) (T := TX5) (N := 35) hx hb hts hiX5 hown hK hP 0 rfl rfl 1 (by decide) (hts (.fieldLink RX5 68 "HeardSecondModel" "pageMany" "I") (by decide +kernel)) (fun _ h9 => h9) rfl dX5_letter_32 ?_
      refine lv_iload_n hx hb dX5_letter_35 rfl (lv_at hl 1 rfl) ?_
      refine va_iast hx hb hK hP hD hS 1 0 rfl rfl (z_inN (by omega) (by decide)) dX5_letter_36 (fun H locs hP hD hS => ?_)
      have hP : va_P D vwCl [(m0, .inr (5, [.ref pg, .int (nI n), .ref rd, .int rmy, .int rpt, .int sta, .int (nI N), .int pt, .int nw, .int ou, .int si, .int en, .int w0, .int w1, .int br, .int cr, .ref ro, .ref fa, .ref wo, .ref ah, .int pf, .int (nI t), .ref he, .ref wy, .ref on_, .ref pa, .ref kr, .ref kn, .ref kh, .int kt, .int kc, .int sd, .ref sr, .ref sn, .long ha])), (pg, .inl (cA, 18, .inl (upd f (Int32.toNatClampNeg (nI n)) c_)))] H := hP
      have hD : va_D A [(m0, .inr (5, [.ref pg, .int (nI n), .ref rd, .int rmy, .int rpt, .int sta, .int (nI N), .int pt, .int nw, .int ou, .int si, .int en, .int w0, .int w1, .int br, .int cr, .ref ro, .ref fa, .ref wo, .ref ah, .int pf, .int (nI t), .ref he, .ref wy, .ref on_, .ref pa, .ref kr, .ref kn, .ref kh, .int kt, .int kc, .int sd, .ref sr, .ref sn, .long ha])), (pg, .inl (cA, 18, .inl (upd f (Int32.toNatClampNeg (nI n)) c_)))] := hD
      rw [show upd f (Int32.toNatClampNeg (nI n)) c_ = upd f n c_ from by rw [z_nat (by omega)]] at hP hD
      refine lv_aload_n hx hb dX5_letter_37 rfl (lv_at hl 0 rfl) ?_
      refine lv_dup hx hb dX5_letter_38 rfl ?_
      refine va_get (D := D) (ci := 5) (v := .int (nI n)) (C := RX5) (T := TX5) (N := 35) hx hb hts hiX5 hown hK hP 0 rfl rfl 1 (by decide) (hts (.fieldLink RX5 68 "HeardSecondModel" "pageMany" "I") (by decide +kernel)) (fun _ h9 => h9) rfl dX5_letter_39 ?_
      refine lv_iconst (v := 1) hx hb dX5_letter_42 (by decide) ?_
      refine lv_iadd hx hb dX5_letter_43 ?_
      refine z_top (y := nI (n + 1)) (nI_1 n) ?_
      refine va_put (D := D) (ci := 5) (v := .int (nI (n + 1))) (ty := .int) (C := RX5) (T := TX5) (N := 35) hx hb hts hiX5 tyX5 tyX5_ok nmX5 hown hK hP hD hS 0 rfl rfl 1 (by decide) (hts (.fieldLink RX5 68 "HeardSecondModel" "pageMany" "I") (by decide +kernel)) (fun _ h9 => h9) rfl (by decide +kernel) (rfl) rfl (Nat.le_of_ble_eq_true rfl) dX5_letter_44 (fun H locs hP hD hS => ?_)
      have hP : va_P D vwCl [(m0, .inr (5, [.ref pg, .int (nI (n + 1)), .ref rd, .int rmy, .int rpt, .int sta, .int (nI N), .int pt, .int nw, .int ou, .int si, .int en, .int w0, .int w1, .int br, .int cr, .ref ro, .ref fa, .ref wo, .ref ah, .int pf, .int (nI t), .ref he, .ref wy, .ref on_, .ref pa, .ref kr, .ref kn, .ref kh, .int kt, .int kc, .int sd, .ref sr, .ref sn, .long ha])), (pg, .inl (cA, 18, .inl (upd f n c_)))] H := hP
      have hD : va_D A [(m0, .inr (5, [.ref pg, .int (nI (n + 1)), .ref rd, .int rmy, .int rpt, .int sta, .int (nI N), .int pt, .int nw, .int ou, .int si, .int en, .int w0, .int w1, .int br, .int cr, .ref ro, .ref fa, .ref wo, .ref ah, .int pf, .int (nI t), .ref he, .ref wy, .ref on_, .ref pa, .ref kr, .ref kn, .ref kh, .int kt, .int kc, .int sd, .ref sr, .ref sn, .long ha])), (pg, .inl (cA, 18, .inl (upd f n c_)))] := hD
      refine lv_aload_n hx hb dX5_letter_47 rfl (lv_at hl 0 rfl) ?_
      refine va_get (D := D) (ci := 5) (v := .int (nI (n + 1))) (C := RX5) (T := TX5) (N := 35) hx hb hts hiX5 hown hK hP 0 rfl rfl 1 (by decide) (hts (.fieldLink RX5 68 "HeardSecondModel" "pageMany" "I") (by decide +kernel)) (fun _ h9 => h9) rfl dX5_letter_48 ?_
      -- path 1
      have hP : va_P D vwCl [(m0, .inr (5, [.ref pg, .int (nI (if jLetOk n c_ then n + 1 else n)), .ref rd, .int rmy, .int rpt, .int sta, .int (nI N), .int pt, .int nw, .int ou, .int si, .int en, .int w0, .int w1, .int br, .int cr, .ref ro, .ref fa, .ref wo, .ref ah, .int pf, .int (nI t), .ref he, .ref wy, .ref on_, .ref pa, .ref kr, .ref kn, .ref kh, .int kt, .int kc, .int sd, .ref sr, .ref sn, .long ha])), (pg, .inl (cA, 18, .inl (upd f n c_)))] H := by have e_ : nI (n + 1) = nI (if jLetOk n c_ then n + 1 else n) := (by clear hret hl hS hD hP hK hA hN hts hx hb hr hml hown hlocks hiX5; first | (rw [show jLetOk n c_ = true from by grind [jLetOk, mIn]]; rfl) | (rw [show jLetOk n c_ = false from by grind [jLetOk, mIn]]; rfl) | (intro j_ hj_; rw [show jLetOk n c_ = true from by grind [jLetOk, mIn]]; rfl) | (intro j_ hj_; rw [show jLetOk n c_ = false from by grind [jLetOk, mIn]]; rfl)); rw [← e_]; exact hP
      have hD : va_D A [(m0, .inr (5, [.ref pg, .int (nI (if jLetOk n c_ then n + 1 else n)), .ref rd, .int rmy, .int rpt, .int sta, .int (nI N), .int pt, .int nw, .int ou, .int si, .int en, .int w0, .int w1, .int br, .int cr, .ref ro, .ref fa, .ref wo, .ref ah, .int pf, .int (nI t), .ref he, .ref wy, .ref on_, .ref pa, .ref kr, .ref kn, .ref kh, .int kt, .int kc, .int sd, .ref sr, .ref sn, .long ha])), (pg, .inl (cA, 18, .inl (upd f n c_)))] := by have e_ : nI (n + 1) = nI (if jLetOk n c_ then n + 1 else n) := (by clear hret hl hS hD hP hK hA hN hts hx hb hr hml hown hlocks hiX5; first | (rw [show jLetOk n c_ = true from by grind [jLetOk, mIn]]; rfl) | (rw [show jLetOk n c_ = false from by grind [jLetOk, mIn]]; rfl) | (intro j_ hj_; rw [show jLetOk n c_ = true from by grind [jLetOk, mIn]]; rfl) | (intro j_ hj_; rw [show jLetOk n c_ = false from by grind [jLetOk, mIn]]; rfl)); rw [← e_]; exact hD
      have hP : va_P D vwCl [(m0, .inr (5, [.ref pg, .int (nI (if jLetOk n c_ then n + 1 else n)), .ref rd, .int rmy, .int rpt, .int sta, .int (nI N), .int pt, .int nw, .int ou, .int si, .int en, .int w0, .int w1, .int br, .int cr, .ref ro, .ref fa, .ref wo, .ref ah, .int pf, .int (nI t), .ref he, .ref wy, .ref on_, .ref pa, .ref kr, .ref kn, .ref kh, .int kt, .int kc, .int sd, .ref sr, .ref sn, .long ha])), (pg, .inl (cA, 18, .inl (if jLetOk n c_ then upd f n c_ else f)))] H := z_arrP hP 1 (g := (if jLetOk n c_ then upd f n c_ else f)) rfl (by clear hret hl hS hD hP hK hA hN hts hx hb hr hml hown hlocks hiX5; first | (rw [show jLetOk n c_ = true from by grind [jLetOk, mIn]]; rfl) | (rw [show jLetOk n c_ = false from by grind [jLetOk, mIn]]; rfl) | (intro j_ hj_; rw [show jLetOk n c_ = true from by grind [jLetOk, mIn]]; rfl) | (intro j_ hj_; rw [show jLetOk n c_ = false from by grind [jLetOk, mIn]]; rfl)) rfl
      have hD : va_D A [(m0, .inr (5, [.ref pg, .int (nI (if jLetOk n c_ then n + 1 else n)), .ref rd, .int rmy, .int rpt, .int sta, .int (nI N), .int pt, .int nw, .int ou, .int si, .int en, .int w0, .int w1, .int br, .int cr, .ref ro, .ref fa, .ref wo, .ref ah, .int pf, .int (nI t), .ref he, .ref wy, .ref on_, .ref pa, .ref kr, .ref kn, .ref kh, .int kt, .int kc, .int sd, .ref sr, .ref sn, .long ha])), (pg, .inl (cA, 18, .inl (if jLetOk n c_ then upd f n c_ else f)))] := z_arrD hD 1 rfl rfl
      exact hret (nI (n + 1)) () _ _ _ _ dX5_letter_51 (rfl) (by clear hret hl hS hD hP hK hA hN hts hx hb hr hml hown hlocks hiX5; grind [mIn]) hP hD hS
    · skip
      have hn18 : 18 ≤ n := by have := (nI_eq (a := n) (b := 18) (by omega) (by omega)).mp c21_5; omega
      refine lv_bipush (v := (-104)) hx hb dX5_letter_24 (by decide) ?_
      -- path 2
      have hP : va_P D vwCl [(m0, .inr (5, [.ref pg, .int (nI (if jLetOk n c_ then n + 1 else n)), .ref rd, .int rmy, .int rpt, .int sta, .int (nI N), .int pt, .int nw, .int ou, .int si, .int en, .int w0, .int w1, .int br, .int cr, .ref ro, .ref fa, .ref wo, .ref ah, .int pf, .int (nI t), .ref he, .ref wy, .ref on_, .ref pa, .ref kr, .ref kn, .ref kh, .int kt, .int kc, .int sd, .ref sr, .ref sn, .long ha])), (pg, .inl (cA, 18, .inl f))] H := by have e_ : nI n = nI (if jLetOk n c_ then n + 1 else n) := (by clear hret hl hS hD hP hK hA hN hts hx hb hr hml hown hlocks hiX5; first | (rw [show jLetOk n c_ = true from by grind [jLetOk, mIn]]; rfl) | (rw [show jLetOk n c_ = false from by grind [jLetOk, mIn]]; rfl) | (intro j_ hj_; rw [show jLetOk n c_ = true from by grind [jLetOk, mIn]]; rfl) | (intro j_ hj_; rw [show jLetOk n c_ = false from by grind [jLetOk, mIn]]; rfl)); rw [← e_]; exact hP
      have hD : va_D A [(m0, .inr (5, [.ref pg, .int (nI (if jLetOk n c_ then n + 1 else n)), .ref rd, .int rmy, .int rpt, .int sta, .int (nI N), .int pt, .int nw, .int ou, .int si, .int en, .int w0, .int w1, .int br, .int cr, .ref ro, .ref fa, .ref wo, .ref ah, .int pf, .int (nI t), .ref he, .ref wy, .ref on_, .ref pa, .ref kr, .ref kn, .ref kh, .int kt, .int kc, .int sd, .ref sr, .ref sn, .long ha])), (pg, .inl (cA, 18, .inl f))] := by have e_ : nI n = nI (if jLetOk n c_ then n + 1 else n) := (by clear hret hl hS hD hP hK hA hN hts hx hb hr hml hown hlocks hiX5; first | (rw [show jLetOk n c_ = true from by grind [jLetOk, mIn]]; rfl) | (rw [show jLetOk n c_ = false from by grind [jLetOk, mIn]]; rfl) | (intro j_ hj_; rw [show jLetOk n c_ = true from by grind [jLetOk, mIn]]; rfl) | (intro j_ hj_; rw [show jLetOk n c_ = false from by grind [jLetOk, mIn]]; rfl)); rw [← e_]; exact hD
      have hP : va_P D vwCl [(m0, .inr (5, [.ref pg, .int (nI (if jLetOk n c_ then n + 1 else n)), .ref rd, .int rmy, .int rpt, .int sta, .int (nI N), .int pt, .int nw, .int ou, .int si, .int en, .int w0, .int w1, .int br, .int cr, .ref ro, .ref fa, .ref wo, .ref ah, .int pf, .int (nI t), .ref he, .ref wy, .ref on_, .ref pa, .ref kr, .ref kn, .ref kh, .int kt, .int kc, .int sd, .ref sr, .ref sn, .long ha])), (pg, .inl (cA, 18, .inl (if jLetOk n c_ then upd f n c_ else f)))] H := z_arrP hP 1 (g := (if jLetOk n c_ then upd f n c_ else f)) rfl (by clear hret hl hS hD hP hK hA hN hts hx hb hr hml hown hlocks hiX5; first | (rw [show jLetOk n c_ = true from by grind [jLetOk, mIn]]; rfl) | (rw [show jLetOk n c_ = false from by grind [jLetOk, mIn]]; rfl) | (intro j_ hj_; rw [show jLetOk n c_ = true from by grind [jLetOk, mIn]]; rfl) | (intro j_ hj_; rw [show jLetOk n c_ = false from by grind [jLetOk, mIn]]; rfl)) rfl
      have hD : va_D A [(m0, .inr (5, [.ref pg, .int (nI (if jLetOk n c_ then n + 1 else n)), .ref rd, .int rmy, .int rpt, .int sta, .int (nI N), .int pt, .int nw, .int ou, .int si, .int en, .int w0, .int w1, .int br, .int cr, .ref ro, .ref fa, .ref wo, .ref ah, .int pf, .int (nI t), .ref he, .ref wy, .ref on_, .ref pa, .ref kr, .ref kn, .ref kh, .int kt, .int kc, .int sd, .ref sr, .ref sn, .long ha])), (pg, .inl (cA, 18, .inl (if jLetOk n c_ then upd f n c_ else f)))] := z_arrD hD 1 rfl rfl
      exact hret ((-104)) () _ _ _ _ dX5_letter_26 (rfl) (by clear hret hl hS hD hP hK hA hN hts hx hb hr hml hown hlocks hiX5; grind [mIn]) hP hD hS
  · skip
    have c9_4 := bI_0.mp c9_4
    refine lv_bipush (v := (-102)) hx hb dX5_letter_12 (by decide) ?_
    -- path 3
    have hP : va_P D vwCl [(m0, .inr (5, [.ref pg, .int (nI (if jLetOk n c_ then n + 1 else n)), .ref rd, .int rmy, .int rpt, .int sta, .int (nI N), .int pt, .int nw, .int ou, .int si, .int en, .int w0, .int w1, .int br, .int cr, .ref ro, .ref fa, .ref wo, .ref ah, .int pf, .int (nI t), .ref he, .ref wy, .ref on_, .ref pa, .ref kr, .ref kn, .ref kh, .int kt, .int kc, .int sd, .ref sr, .ref sn, .long ha])), (pg, .inl (cA, 18, .inl f))] H := by have e_ : nI n = nI (if jLetOk n c_ then n + 1 else n) := (by clear hret hl hS hD hP hK hA hN hts hx hb hr hml hown hlocks hiX5; first | (rw [show jLetOk n c_ = true from by grind [jLetOk, mIn]]; rfl) | (rw [show jLetOk n c_ = false from by grind [jLetOk, mIn]]; rfl) | (intro j_ hj_; rw [show jLetOk n c_ = true from by grind [jLetOk, mIn]]; rfl) | (intro j_ hj_; rw [show jLetOk n c_ = false from by grind [jLetOk, mIn]]; rfl)); rw [← e_]; exact hP
    have hD : va_D A [(m0, .inr (5, [.ref pg, .int (nI (if jLetOk n c_ then n + 1 else n)), .ref rd, .int rmy, .int rpt, .int sta, .int (nI N), .int pt, .int nw, .int ou, .int si, .int en, .int w0, .int w1, .int br, .int cr, .ref ro, .ref fa, .ref wo, .ref ah, .int pf, .int (nI t), .ref he, .ref wy, .ref on_, .ref pa, .ref kr, .ref kn, .ref kh, .int kt, .int kc, .int sd, .ref sr, .ref sn, .long ha])), (pg, .inl (cA, 18, .inl f))] := by have e_ : nI n = nI (if jLetOk n c_ then n + 1 else n) := (by clear hret hl hS hD hP hK hA hN hts hx hb hr hml hown hlocks hiX5; first | (rw [show jLetOk n c_ = true from by grind [jLetOk, mIn]]; rfl) | (rw [show jLetOk n c_ = false from by grind [jLetOk, mIn]]; rfl) | (intro j_ hj_; rw [show jLetOk n c_ = true from by grind [jLetOk, mIn]]; rfl) | (intro j_ hj_; rw [show jLetOk n c_ = false from by grind [jLetOk, mIn]]; rfl)); rw [← e_]; exact hD
    have hP : va_P D vwCl [(m0, .inr (5, [.ref pg, .int (nI (if jLetOk n c_ then n + 1 else n)), .ref rd, .int rmy, .int rpt, .int sta, .int (nI N), .int pt, .int nw, .int ou, .int si, .int en, .int w0, .int w1, .int br, .int cr, .ref ro, .ref fa, .ref wo, .ref ah, .int pf, .int (nI t), .ref he, .ref wy, .ref on_, .ref pa, .ref kr, .ref kn, .ref kh, .int kt, .int kc, .int sd, .ref sr, .ref sn, .long ha])), (pg, .inl (cA, 18, .inl (if jLetOk n c_ then upd f n c_ else f)))] H := z_arrP hP 1 (g := (if jLetOk n c_ then upd f n c_ else f)) rfl (by clear hret hl hS hD hP hK hA hN hts hx hb hr hml hown hlocks hiX5; first | (rw [show jLetOk n c_ = true from by grind [jLetOk, mIn]]; rfl) | (rw [show jLetOk n c_ = false from by grind [jLetOk, mIn]]; rfl) | (intro j_ hj_; rw [show jLetOk n c_ = true from by grind [jLetOk, mIn]]; rfl) | (intro j_ hj_; rw [show jLetOk n c_ = false from by grind [jLetOk, mIn]]; rfl)) rfl
    have hD : va_D A [(m0, .inr (5, [.ref pg, .int (nI (if jLetOk n c_ then n + 1 else n)), .ref rd, .int rmy, .int rpt, .int sta, .int (nI N), .int pt, .int nw, .int ou, .int si, .int en, .int w0, .int w1, .int br, .int cr, .ref ro, .ref fa, .ref wo, .ref ah, .int pf, .int (nI t), .ref he, .ref wy, .ref on_, .ref pa, .ref kr, .ref kn, .ref kh, .int kt, .int kc, .int sd, .ref sr, .ref sn, .long ha])), (pg, .inl (cA, 18, .inl (if jLetOk n c_ then upd f n c_ else f)))] := z_arrD hD 1 rfl rfl
    exact hret ((-102)) () _ _ _ _ dX5_letter_14 (rfl) (by clear hret hl hS hD hP hK hA hN hts hx hb hr hml hown hlocks hiX5; grind [mIn]) hP hD hS
abbrev rm_c_X5_blank : Room := { frames := 0, cells := 0, slots := 0, locals := 0 }
set_option maxHeartbeats 400000 in
set_option maxRecDepth 20000 in
theorem c_X5_blank {l : Launch} {D : va_G} {cA : ClassId} {m0 : Nat} {pg : Nat} {rd : Nat} {ro : Nat} {fa : Nat} {wo : Nat} {ah : Nat} {he : Nat} {wy : Nat} {on_ : Nat} {pa : Nat} {kr : Nat} {kn : Nat} {kh : Nat} {sr : Nat} {sn : Nat} {n : Nat} {N : Nat} {t : Nat} {rmy : Int32} {rpt : Int32} {sta : Int32} {pt : Int32} {nw : Int32} {ou : Int32} {si : Int32} {en : Int32} {w0 : Int32} {w1 : Int32} {br : Int32} {cr : Int32} {pf : Int32} {kt : Int32} {kc : Int32} {sd : Int32} {ha : Int64} : zMi l yX5_blank wsX5_blank rm_c_X5_blank D cA [(m0, .inr (5, [.ref pg, .int (nI n), .ref rd, .int rmy, .int rpt, .int sta, .int (nI N), .int pt, .int nw, .int ou, .int si, .int en, .int w0, .int w1, .int br, .int cr, .ref ro, .ref fa, .ref wo, .ref ah, .int pf, .int (nI t), .ref he, .ref wy, .ref on_, .ref pa, .ref kr, .ref kn, .ref kh, .int kt, .int kc, .int sd, .ref sr, .ref sn, .long ha]))] [.ref m0] (fun (r : Int32) (_ : Unit) => r = nI n) (fun (_ : Unit) => [(m0, .inr (5, [.ref pg, .int (nI 0), .ref rd, .int rmy, .int rpt, .int sta, .int (nI N), .int pt, .int nw, .int ou, .int si, .int en, .int w0, .int w1, .int br, .int cr, .ref ro, .ref fa, .ref wo, .ref ah, .int pf, .int (nI t), .ref he, .ref wy, .ref on_, .ref pa, .ref kr, .ref kn, .ref kh, .int kt, .int kc, .int sd, .ref sr, .ref sn, .long ha]))]) := by
  refine z_enteri (cc := cX5_blank) (maxL := 2) (ty := .int) (by decide) rfl (Nat.le_of_ble_eq_true rfl) (fun p e s m args below meth c ls A H0 H locs Q hi_ hA hK hP hD hS hl hret => ?_)
  obtain ⟨hx, hb, hr, hml, hown, hts, hlocks, hN⟩ := hi_
  have hl : lv_has ls 2 [(0, .ref m0)] := hl
  have hiX5 : ∀ w ∈ wsX50, w ∈ wsX5_blank := by decide +kernel
  refine lv_aload_n hx hb dX5_blank_0 rfl (lv_at hl 0 rfl) ?_
  refine va_get (D := D) (ci := 5) (v := .int (nI n)) (C := RX5) (T := TX5) (N := 35) hx hb hts hiX5 hown hK hP 0 rfl rfl 1 (by decide) (hts (.fieldLink RX5 68 "HeardSecondModel" "pageMany" "I") (by decide +kernel)) (fun _ h9 => h9) rfl dX5_blank_1 ?_
  refine lv_istore_n (lv' := [(1, .int (nI n)), (0, .ref m0)]) hx hb dX5_blank_4 rfl hl (by decide) rfl (fun ls hl => ?_)
  refine lv_aload_n hx hb dX5_blank_5 rfl (lv_at hl 1 rfl) ?_
  refine lv_iconst (v := nI 0) hx hb dX5_blank_6 (by decide) ?_
  refine va_put (D := D) (ci := 5) (v := .int (nI 0)) (ty := .int) (C := RX5) (T := TX5) (N := 35) hx hb hts hiX5 tyX5 tyX5_ok nmX5 hown hK hP hD hS 0 rfl rfl 1 (by decide) (hts (.fieldLink RX5 68 "HeardSecondModel" "pageMany" "I") (by decide +kernel)) (fun _ h9 => h9) rfl (by decide +kernel) (rfl) rfl (Nat.le_of_ble_eq_true rfl) dX5_blank_7 (fun H locs hP hD hS => ?_)
  have hP : va_P D vwCl [(m0, .inr (5, [.ref pg, .int (nI 0), .ref rd, .int rmy, .int rpt, .int sta, .int (nI N), .int pt, .int nw, .int ou, .int si, .int en, .int w0, .int w1, .int br, .int cr, .ref ro, .ref fa, .ref wo, .ref ah, .int pf, .int (nI t), .ref he, .ref wy, .ref on_, .ref pa, .ref kr, .ref kn, .ref kh, .int kt, .int kc, .int sd, .ref sr, .ref sn, .long ha]))] H := hP
  have hD : va_D A [(m0, .inr (5, [.ref pg, .int (nI 0), .ref rd, .int rmy, .int rpt, .int sta, .int (nI N), .int pt, .int nw, .int ou, .int si, .int en, .int w0, .int w1, .int br, .int cr, .ref ro, .ref fa, .ref wo, .ref ah, .int pf, .int (nI t), .ref he, .ref wy, .ref on_, .ref pa, .ref kr, .ref kn, .ref kh, .int kt, .int kc, .int sd, .ref sr, .ref sn, .long ha]))] := hD
  refine lv_iload_n hx hb dX5_blank_10 rfl (lv_at hl 0 rfl) ?_
  -- path 1
  exact hret (nI n) () _ _ _ _ dX5_blank_11 (rfl) (by rfl) hP hD hS
abbrev rm_c_X5_kindBy : Room := { frames := 0, cells := 0, slots := 0, locals := 0 }
set_option maxHeartbeats 400000 in
set_option maxRecDepth 20000 in
theorem c_X5_kindBy {l : Launch} {D : va_G} {cA : ClassId} {c_ : Int32} : zMi l yX5_kindBy wsX5_kindBy rm_c_X5_kindBy D cA [] [.int c_] (fun (r : Int32) (_ : Unit) => r = jKindOf c_) (fun (_ : Unit) => []) := by
  refine z_enteri (cc := cX5_kindBy) (maxL := 1) (ty := .int) (by decide) rfl (Nat.le_of_ble_eq_true rfl) (fun p e s m args below meth c ls A H0 H locs Q hi_ hA hK hP hD hS hl hret => ?_)
  obtain ⟨hx, hb, hr, hml, hown, hts, hlocks, hN⟩ := hi_
  have hl : lv_has ls 1 [(0, .int c_)] := hl
  refine lv_iload_n hx hb dX5_kindBy_0 rfl (lv_at hl 0 rfl) ?_
  refine lv_bipush (v := 115) hx hb dX5_kindBy_1 (by decide) ?_
  refine lv_icmp_ne (tgt := 10) hx hb dX5_kindBy_3 (by decide) (fun c3_1 => ?_) (fun c3_1 => ?_)
  · skip
    refine lv_iload_n hx hb dX5_kindBy_10 rfl (lv_at hl 0 rfl) ?_
    refine lv_bipush (v := 119) hx hb dX5_kindBy_11 (by decide) ?_
    refine lv_icmp_ne (tgt := 20) hx hb dX5_kindBy_13 (by decide) (fun c13_2 => ?_) (fun c13_2 => ?_)
    · skip
      refine lv_iload_n hx hb dX5_kindBy_20 rfl (lv_at hl 0 rfl) ?_
      refine lv_bipush (v := 101) hx hb dX5_kindBy_21 (by decide) ?_
      refine lv_icmp_ne (tgt := 30) hx hb dX5_kindBy_23 (by decide) (fun c23_3 => ?_) (fun c23_3 => ?_)
      · skip
        refine lv_iload_n hx hb dX5_kindBy_30 rfl (lv_at hl 0 rfl) ?_
        refine lv_bipush (v := 102) hx hb dX5_kindBy_31 (by decide) ?_
        refine lv_icmp_ne (tgt := 40) hx hb dX5_kindBy_33 (by decide) (fun c33_4 => ?_) (fun c33_4 => ?_)
        · skip
          refine lv_iload_n hx hb dX5_kindBy_40 rfl (lv_at hl 0 rfl) ?_
          refine lv_bipush (v := 109) hx hb dX5_kindBy_41 (by decide) ?_
          refine lv_icmp_ne (tgt := 50) hx hb dX5_kindBy_43 (by decide) (fun c43_5 => ?_) (fun c43_5 => ?_)
          · skip
            refine lv_iconst (v := (-1)) hx hb dX5_kindBy_50 (by decide) ?_
            -- path 1
            exact hret ((-1)) () _ _ _ _ dX5_kindBy_51 (rfl) (by clear hret hl hS hD hP hK hA hN hts hx hb hr hml hown hlocks ; grind [jKindOf]) hP hD hS
          · skip
            refine lv_iconst (v := 4) hx hb dX5_kindBy_46 (by decide) ?_
            refine lv_goto (tgt := 51) hx hb dX5_kindBy_47 (by decide) ?_
            -- path 2
            exact hret (4) () _ _ _ _ dX5_kindBy_51 (rfl) (by clear hret hl hS hD hP hK hA hN hts hx hb hr hml hown hlocks ; grind [jKindOf]) hP hD hS
        · skip
          refine lv_iconst (v := 3) hx hb dX5_kindBy_36 (by decide) ?_
          refine lv_goto (tgt := 51) hx hb dX5_kindBy_37 (by decide) ?_
          -- path 3
          exact hret (3) () _ _ _ _ dX5_kindBy_51 (rfl) (by clear hret hl hS hD hP hK hA hN hts hx hb hr hml hown hlocks ; grind [jKindOf]) hP hD hS
      · skip
        refine lv_iconst (v := 2) hx hb dX5_kindBy_26 (by decide) ?_
        refine lv_goto (tgt := 51) hx hb dX5_kindBy_27 (by decide) ?_
        -- path 4
        exact hret (2) () _ _ _ _ dX5_kindBy_51 (rfl) (by clear hret hl hS hD hP hK hA hN hts hx hb hr hml hown hlocks ; grind [jKindOf]) hP hD hS
    · skip
      refine lv_iconst (v := 1) hx hb dX5_kindBy_16 (by decide) ?_
      refine lv_goto (tgt := 51) hx hb dX5_kindBy_17 (by decide) ?_
      -- path 5
      exact hret (1) () _ _ _ _ dX5_kindBy_51 (rfl) (by clear hret hl hS hD hP hK hA hN hts hx hb hr hml hown hlocks ; grind [jKindOf]) hP hD hS
  · skip
    refine lv_iconst (v := 0) hx hb dX5_kindBy_6 (by decide) ?_
    refine lv_goto (tgt := 51) hx hb dX5_kindBy_7 (by decide) ?_
    -- path 6
    exact hret (0) () _ _ _ _ dX5_kindBy_51 (rfl) (by clear hret hl hS hD hP hK hA hN hts hx hb hr hml hown hlocks ; grind [jKindOf]) hP hD hS
abbrev rm_c_X5_go0 : Room := { frames := 1, cells := 0, slots := 0, locals := 20 }
set_option maxHeartbeats 400000 in
set_option maxRecDepth 20000 in
theorem c_X5_go0 {l : Launch} {D : va_G} {cA : ClassId} {m0 : Nat} {pg : Nat} {rd : Nat} {ro : Nat} {fa : Nat} {wo : Nat} {ah : Nat} {he : Nat} {wy : Nat} {on_ : Nat} {pa : Nat} {kr : Nat} {kn : Nat} {kh : Nat} {sr : Nat} {sn : Nat} {n : Nat} {N : Nat} {t : Nat} {rpt : Int32} {pt : Int32} {nw : Int32} {ou : Int32} {si : Int32} {en : Int32} {w0 : Int32} {w1 : Int32} {br : Int32} {cr : Int32} {pf : Int32} {kt : Int32} {kc : Int32} {sd : Int32} {ha : Int64} {g : Nat → Int32} {rr : Nat} {c_ : Int32} (hr : rr ≤ 4) : zMi l yX5_go wsX5_go rm_c_X5_go0 D cA [(m0, .inr (5, [.ref pg, .int (nI n), .ref rd, .int (nI rr), .int rpt, .int (nI 0), .int (nI N), .int pt, .int nw, .int ou, .int si, .int en, .int w0, .int w1, .int br, .int cr, .ref ro, .ref fa, .ref wo, .ref ah, .int pf, .int (nI t), .ref he, .ref wy, .ref on_, .ref pa, .ref kr, .ref kn, .ref kh, .int kt, .int kc, .int sd, .ref sr, .ref sn, .long ha])), (rd, .inl (cA, 10, .inl g))] [.ref m0, .int c_] (fun (r : Int32) (_ : Unit) => r = bI (!decide (jKindOf c_ = -1))) (fun (_ : Unit) => [(m0, .inr (5, [.ref pg, .int (nI n), .ref rd, .int (nI rr), .int rpt, .int (nI 1), .int (nI N), .int pt, .int nw, .int ou, .int si, .int en, .int w0, .int w1, .int br, .int cr, .ref ro, .ref fa, .ref wo, .ref ah, .int pf, .int (nI t), .ref he, .ref wy, .ref on_, .ref pa, .ref kr, .ref kn, .ref kh, .int kt, .int kc, .int sd, .ref sr, .ref sn, .long ha])), (rd, .inl (cA, 10, .inl (upd g (2 * rr) (jKindOf c_))))]) := by
  refine z_enteri (cc := cX5_go) (maxL := 4) (ty := .boolean) (by decide) rfl (Nat.le_of_ble_eq_true rfl) (fun p e s m args below meth c ls A H0 H locs Q hi_ hA hK hP hD hS hl hret => ?_)
  obtain ⟨hx, hb, hr, hml, hown, hts, hlocks, hN⟩ := hi_
  have hl : lv_has ls 4 [(0, .ref m0), (1, .int c_)] := hl
  have hiX5 : ∀ w ∈ wsX50, w ∈ wsX5_go := by decide +kernel
  refine lv_iload_n hx hb dX5_go_0 rfl (lv_at hl 1 rfl) ?_
  refine lv_bipush (v := 48) hx hb dX5_go_1 (by decide) ?_
  refine lv_isub hx hb dX5_go_3 ?_
  refine lv_istore_n (lv' := [(2, .int (c_ - 48)), (0, .ref m0), (1, .int c_)]) hx hb dX5_go_4 rfl hl (by decide) rfl (fun ls hl => ?_)
  refine lv_aload_n hx hb dX5_go_5 rfl (lv_at hl 1 rfl) ?_
  refine va_get (D := D) (ci := 5) (v := .int (nI 0)) (C := RX5) (T := TX5) (N := 35) hx hb hts hiX5 hown hK hP 0 rfl rfl 5 (by decide) (hts (.fieldLink RX5 71 "HeardSecondModel" "state" "I") (by decide +kernel)) (fun _ h9 => h9) rfl dX5_go_6 ?_
  refine lv_istore_n (lv' := [(3, .int (nI 0)), (2, .int (c_ - 48)), (0, .ref m0), (1, .int c_)]) hx hb dX5_go_9 rfl hl (by decide) rfl (fun ls hl => ?_)
  refine lv_aload_n hx hb dX5_go_10 rfl (lv_at hl 2 rfl) ?_
  refine lv_dup hx hb dX5_go_11 rfl ?_
  refine va_get (D := D) (ci := 5) (v := .int (nI 0)) (C := RX5) (T := TX5) (N := 35) hx hb hts hiX5 hown hK hP 0 rfl rfl 5 (by decide) (hts (.fieldLink RX5 71 "HeardSecondModel" "state" "I") (by decide +kernel)) (fun _ h9 => h9) rfl dX5_go_12 ?_
  refine lv_iconst (v := 1) hx hb dX5_go_15 (by decide) ?_
  refine lv_iadd hx hb dX5_go_16 ?_
  refine z_top (y := nI 1) (rfl) ?_
  refine va_put (D := D) (ci := 5) (v := .int (nI 1)) (ty := .int) (C := RX5) (T := TX5) (N := 35) hx hb hts hiX5 tyX5 tyX5_ok nmX5 hown hK hP hD hS 0 rfl rfl 5 (by decide) (hts (.fieldLink RX5 71 "HeardSecondModel" "state" "I") (by decide +kernel)) (fun _ h9 => h9) rfl (by decide +kernel) (rfl) rfl (Nat.le_of_ble_eq_true rfl) dX5_go_17 (fun H locs hP hD hS => ?_)
  have hP : va_P D vwCl [(m0, .inr (5, [.ref pg, .int (nI n), .ref rd, .int (nI rr), .int rpt, .int (nI 1), .int (nI N), .int pt, .int nw, .int ou, .int si, .int en, .int w0, .int w1, .int br, .int cr, .ref ro, .ref fa, .ref wo, .ref ah, .int pf, .int (nI t), .ref he, .ref wy, .ref on_, .ref pa, .ref kr, .ref kn, .ref kh, .int kt, .int kc, .int sd, .ref sr, .ref sn, .long ha])), (rd, .inl (cA, 10, .inl g))] H := hP
  have hD : va_D A [(m0, .inr (5, [.ref pg, .int (nI n), .ref rd, .int (nI rr), .int rpt, .int (nI 1), .int (nI N), .int pt, .int nw, .int ou, .int si, .int en, .int w0, .int w1, .int br, .int cr, .ref ro, .ref fa, .ref wo, .ref ah, .int pf, .int (nI t), .ref he, .ref wy, .ref on_, .ref pa, .ref kr, .ref kn, .ref kh, .int kt, .int kc, .int sd, .ref sr, .ref sn, .long ha])), (rd, .inl (cA, 10, .inl g))] := hD
  refine lv_iload_n hx hb dX5_go_20 rfl (lv_at hl 0 rfl) ?_
  refine lv_tableIn (off := 31) (tgt := 52) hx hb dX5_go_21 (by decide) (by decide) rfl (by decide) ?_
  refine lv_aload_n hx hb dX5_go_52 rfl (lv_at hl 2 rfl) ?_
  refine va_get (D := D) (ci := 5) (v := .ref rd) (C := RX5) (T := TX5) (N := 35) hx hb hts hiX5 hown hK hP 0 rfl rfl 2 (by decide) (hts (.fieldLink RX5 13 "HeardSecondModel" "read" "[I") (by decide +kernel)) (fun _ h9 => h9) rfl dX5_go_53 ?_
  refine lv_iconst (v := 2) hx hb dX5_go_56 (by decide) ?_
  refine lv_aload_n hx hb dX5_go_57 rfl (lv_at hl 2 rfl) ?_
  refine va_get (D := D) (ci := 5) (v := .int (nI rr)) (C := RX5) (T := TX5) (N := 35) hx hb hts hiX5 hown hK hP 0 rfl rfl 3 (by decide) (hts (.fieldLink RX5 74 "HeardSecondModel" "readMany" "I") (by decide +kernel)) (fun _ h9 => h9) rfl dX5_go_58 ?_
  refine lv_imul hx hb dX5_go_61 ?_
  refine z_top (y := nI (2 * rr)) (nI_2 rr) ?_
  refine lv_iload_n hx hb dX5_go_62 rfl (lv_at hl 3 rfl) ?_
  refine z_bri (z_runS (As := [.int c_]) (rest := [.int (nI (2 * rr)), .ref rd]) ⟨hx, hb, hml, hown, hts⟩ (c_X5_kindBy (c_ := c_) _) (va_cwS 1 hts gX5_go_X5_kindBy rfl rfl rfl (by decide +kernel) ⟨Nat.le_of_ble_eq_true rfl, Nat.le_of_ble_eq_true rfl⟩) hK hP hD hN [] rfl rfl rfl hl.1 rfl (Nat.le_of_ble_eq_true rfl) dX5_go_63 ⟨Nat.zero_le _, Nat.zero_le _⟩) hP hD hS hA [] rfl (fun r_2 u_3 H locs hq_1 hP hS => ?_)
  obtain rfl : r_2 = jKindOf c_ := hq_1
  refine va_iast hx hb hK hP hD hS 1 0 rfl rfl (z_inN (by omega) (by decide)) dX5_go_66 (fun H locs hP hD hS => ?_)
  have hP : va_P D vwCl [(m0, .inr (5, [.ref pg, .int (nI n), .ref rd, .int (nI rr), .int rpt, .int (nI 1), .int (nI N), .int pt, .int nw, .int ou, .int si, .int en, .int w0, .int w1, .int br, .int cr, .ref ro, .ref fa, .ref wo, .ref ah, .int pf, .int (nI t), .ref he, .ref wy, .ref on_, .ref pa, .ref kr, .ref kn, .ref kh, .int kt, .int kc, .int sd, .ref sr, .ref sn, .long ha])), (rd, .inl (cA, 10, .inl (upd g (Int32.toNatClampNeg (nI (2 * rr))) (jKindOf c_))))] H := hP
  have hD : va_D A [(m0, .inr (5, [.ref pg, .int (nI n), .ref rd, .int (nI rr), .int rpt, .int (nI 1), .int (nI N), .int pt, .int nw, .int ou, .int si, .int en, .int w0, .int w1, .int br, .int cr, .ref ro, .ref fa, .ref wo, .ref ah, .int pf, .int (nI t), .ref he, .ref wy, .ref on_, .ref pa, .ref kr, .ref kn, .ref kh, .int kt, .int kc, .int sd, .ref sr, .ref sn, .long ha])), (rd, .inl (cA, 10, .inl (upd g (Int32.toNatClampNeg (nI (2 * rr))) (jKindOf c_))))] := hD
  rw [show upd g (Int32.toNatClampNeg (nI (2 * rr))) (jKindOf c_) = upd g (2 * rr) (jKindOf c_) from by rw [z_nat (by omega)]] at hP hD
  refine lv_iload_n hx hb dX5_go_67 rfl (lv_at hl 3 rfl) ?_
  refine z_bri (z_runS (As := [.int c_]) (rest := []) ⟨hx, hb, hml, hown, hts⟩ (c_X5_kindBy (c_ := c_) _) (va_cwS 1 hts gX5_go_X5_kindBy rfl rfl rfl (by decide +kernel) ⟨Nat.le_of_ble_eq_true rfl, Nat.le_of_ble_eq_true rfl⟩) hK hP hD hN [] rfl rfl rfl hl.1 rfl (Nat.le_of_ble_eq_true rfl) dX5_go_68 ⟨Nat.zero_le _, Nat.zero_le _⟩) hP hD hS hA [] rfl (fun r_5 u_6 H locs hq_4 hP hS => ?_)
  obtain rfl : r_5 = jKindOf c_ := hq_4
  refine lv_iconst (v := (-1)) hx hb dX5_go_71 (by decide) ?_
  refine lv_icmp_eq (tgt := 79) hx hb dX5_go_72 (by decide) (fun c72_7 => ?_) (fun c72_7 => ?_)
  · skip
    refine lv_iconst (v := 0) hx hb dX5_go_79 (by decide) ?_
    -- path 1
    exact hret (0) () _ _ _ _ dX5_go_80 (rfl) (by clear hret hl hS hD hP hK hA hN hts hx hb hr hml hown hlocks hiX5; grind [bI]) hP hD hS
  · skip
    refine lv_iconst (v := 1) hx hb dX5_go_75 (by decide) ?_
    refine lv_goto (tgt := 80) hx hb dX5_go_76 (by decide) ?_
    -- path 2
    exact hret (1) () _ _ _ _ dX5_go_80 (rfl) (by clear hret hl hS hD hP hK hA hN hts hx hb hr hml hown hlocks hiX5; grind [bI]) hP hD hS
abbrev rm_c_X5_go1 : Room := { frames := 1, cells := 0, slots := 0, locals := 25 }
set_option maxHeartbeats 400000 in
set_option maxRecDepth 20000 in
theorem c_X5_go1 {l : Launch} {D : va_G} {cA : ClassId} {m0 : Nat} {pg : Nat} {rd : Nat} {ro : Nat} {fa : Nat} {wo : Nat} {ah : Nat} {he : Nat} {wy : Nat} {on_ : Nat} {pa : Nat} {kr : Nat} {kn : Nat} {kh : Nat} {sr : Nat} {sn : Nat} {n : Nat} {N : Nat} {t : Nat} {rpt : Int32} {pt : Int32} {nw : Int32} {ou : Int32} {si : Int32} {en : Int32} {w0 : Int32} {w1 : Int32} {br : Int32} {cr : Int32} {pf : Int32} {kt : Int32} {kc : Int32} {sd : Int32} {ha : Int64} {g : Nat → Int32} {rr : Nat} {c_ : Int32} (hr : rr ≤ 4) : zMi l yX5_go wsX5_go rm_c_X5_go1 D cA [(m0, .inr (5, [.ref pg, .int (nI n), .ref rd, .int (nI rr), .int rpt, .int (nI 1), .int (nI N), .int pt, .int nw, .int ou, .int si, .int en, .int w0, .int w1, .int br, .int cr, .ref ro, .ref fa, .ref wo, .ref ah, .int pf, .int (nI t), .ref he, .ref wy, .ref on_, .ref pa, .ref kr, .ref kn, .ref kh, .int kt, .int kc, .int sd, .ref sr, .ref sn, .long ha])), (rd, .inl (cA, 10, .inl g))] [.ref m0, .int c_] (fun (r : Int32) (_ : Unit) => r = bI (mIn (c_ - 48) 0 1)) (fun (_ : Unit) => [(m0, .inr (5, [.ref pg, .int (nI n), .ref rd, .int (nI (rr + 1)), .int rpt, .int (nI 2), .int (nI N), .int pt, .int nw, .int ou, .int si, .int en, .int w0, .int w1, .int br, .int cr, .ref ro, .ref fa, .ref wo, .ref ah, .int pf, .int (nI t), .ref he, .ref wy, .ref on_, .ref pa, .ref kr, .ref kn, .ref kh, .int kt, .int kc, .int sd, .ref sr, .ref sn, .long ha])), (rd, .inl (cA, 10, .inl (upd g (2 * rr + 1) (c_ - 48))))]) := by
  refine z_enteri (cc := cX5_go) (maxL := 4) (ty := .boolean) (by decide) rfl (Nat.le_of_ble_eq_true rfl) (fun p e s m args below meth c ls A H0 H locs Q hi_ hA hK hP hD hS hl hret => ?_)
  obtain ⟨hx, hb, hr, hml, hown, hts, hlocks, hN⟩ := hi_
  have hl : lv_has ls 4 [(0, .ref m0), (1, .int c_)] := hl
  have hiX5 : ∀ w ∈ wsX50, w ∈ wsX5_go := by decide +kernel
  refine lv_iload_n hx hb dX5_go_0 rfl (lv_at hl 1 rfl) ?_
  refine lv_bipush (v := 48) hx hb dX5_go_1 (by decide) ?_
  refine lv_isub hx hb dX5_go_3 ?_
  refine lv_istore_n (lv' := [(2, .int (c_ - 48)), (0, .ref m0), (1, .int c_)]) hx hb dX5_go_4 rfl hl (by decide) rfl (fun ls hl => ?_)
  refine lv_aload_n hx hb dX5_go_5 rfl (lv_at hl 1 rfl) ?_
  refine va_get (D := D) (ci := 5) (v := .int (nI 1)) (C := RX5) (T := TX5) (N := 35) hx hb hts hiX5 hown hK hP 0 rfl rfl 5 (by decide) (hts (.fieldLink RX5 71 "HeardSecondModel" "state" "I") (by decide +kernel)) (fun _ h9 => h9) rfl dX5_go_6 ?_
  refine lv_istore_n (lv' := [(3, .int (nI 1)), (2, .int (c_ - 48)), (0, .ref m0), (1, .int c_)]) hx hb dX5_go_9 rfl hl (by decide) rfl (fun ls hl => ?_)
  refine lv_aload_n hx hb dX5_go_10 rfl (lv_at hl 2 rfl) ?_
  refine lv_dup hx hb dX5_go_11 rfl ?_
  refine va_get (D := D) (ci := 5) (v := .int (nI 1)) (C := RX5) (T := TX5) (N := 35) hx hb hts hiX5 hown hK hP 0 rfl rfl 5 (by decide) (hts (.fieldLink RX5 71 "HeardSecondModel" "state" "I") (by decide +kernel)) (fun _ h9 => h9) rfl dX5_go_12 ?_
  refine lv_iconst (v := 1) hx hb dX5_go_15 (by decide) ?_
  refine lv_iadd hx hb dX5_go_16 ?_
  refine z_top (y := nI 2) (rfl) ?_
  refine va_put (D := D) (ci := 5) (v := .int (nI 2)) (ty := .int) (C := RX5) (T := TX5) (N := 35) hx hb hts hiX5 tyX5 tyX5_ok nmX5 hown hK hP hD hS 0 rfl rfl 5 (by decide) (hts (.fieldLink RX5 71 "HeardSecondModel" "state" "I") (by decide +kernel)) (fun _ h9 => h9) rfl (by decide +kernel) (rfl) rfl (Nat.le_of_ble_eq_true rfl) dX5_go_17 (fun H locs hP hD hS => ?_)
  have hP : va_P D vwCl [(m0, .inr (5, [.ref pg, .int (nI n), .ref rd, .int (nI rr), .int rpt, .int (nI 2), .int (nI N), .int pt, .int nw, .int ou, .int si, .int en, .int w0, .int w1, .int br, .int cr, .ref ro, .ref fa, .ref wo, .ref ah, .int pf, .int (nI t), .ref he, .ref wy, .ref on_, .ref pa, .ref kr, .ref kn, .ref kh, .int kt, .int kc, .int sd, .ref sr, .ref sn, .long ha])), (rd, .inl (cA, 10, .inl g))] H := hP
  have hD : va_D A [(m0, .inr (5, [.ref pg, .int (nI n), .ref rd, .int (nI rr), .int rpt, .int (nI 2), .int (nI N), .int pt, .int nw, .int ou, .int si, .int en, .int w0, .int w1, .int br, .int cr, .ref ro, .ref fa, .ref wo, .ref ah, .int pf, .int (nI t), .ref he, .ref wy, .ref on_, .ref pa, .ref kr, .ref kn, .ref kh, .int kt, .int kc, .int sd, .ref sr, .ref sn, .long ha])), (rd, .inl (cA, 10, .inl g))] := hD
  refine lv_iload_n hx hb dX5_go_20 rfl (lv_at hl 0 rfl) ?_
  refine lv_tableIn (off := 60) (tgt := 81) hx hb dX5_go_21 (by decide) (by decide) rfl (by decide) ?_
  refine lv_aload_n hx hb dX5_go_81 rfl (lv_at hl 2 rfl) ?_
  refine va_get (D := D) (ci := 5) (v := .ref rd) (C := RX5) (T := TX5) (N := 35) hx hb hts hiX5 hown hK hP 0 rfl rfl 2 (by decide) (hts (.fieldLink RX5 13 "HeardSecondModel" "read" "[I") (by decide +kernel)) (fun _ h9 => h9) rfl dX5_go_82 ?_
  refine lv_iconst (v := 2) hx hb dX5_go_85 (by decide) ?_
  refine lv_aload_n hx hb dX5_go_86 rfl (lv_at hl 2 rfl) ?_
  refine va_get (D := D) (ci := 5) (v := .int (nI rr)) (C := RX5) (T := TX5) (N := 35) hx hb hts hiX5 hown hK hP 0 rfl rfl 3 (by decide) (hts (.fieldLink RX5 74 "HeardSecondModel" "readMany" "I") (by decide +kernel)) (fun _ h9 => h9) rfl dX5_go_87 ?_
  refine lv_imul hx hb dX5_go_90 ?_
  refine lv_iconst (v := 1) hx hb dX5_go_91 (by decide) ?_
  refine lv_iadd hx hb dX5_go_92 ?_
  refine z_top (y := nI (2 * rr + 1)) (nI_21 rr) ?_
  refine lv_iload_n hx hb dX5_go_93 rfl (lv_at hl 1 rfl) ?_
  refine va_iast hx hb hK hP hD hS 1 0 rfl rfl (z_inN (by omega) (by decide)) dX5_go_94 (fun H locs hP hD hS => ?_)
  have hP : va_P D vwCl [(m0, .inr (5, [.ref pg, .int (nI n), .ref rd, .int (nI rr), .int rpt, .int (nI 2), .int (nI N), .int pt, .int nw, .int ou, .int si, .int en, .int w0, .int w1, .int br, .int cr, .ref ro, .ref fa, .ref wo, .ref ah, .int pf, .int (nI t), .ref he, .ref wy, .ref on_, .ref pa, .ref kr, .ref kn, .ref kh, .int kt, .int kc, .int sd, .ref sr, .ref sn, .long ha])), (rd, .inl (cA, 10, .inl (upd g (Int32.toNatClampNeg (nI (2 * rr + 1))) (c_ - 48))))] H := hP
  have hD : va_D A [(m0, .inr (5, [.ref pg, .int (nI n), .ref rd, .int (nI rr), .int rpt, .int (nI 2), .int (nI N), .int pt, .int nw, .int ou, .int si, .int en, .int w0, .int w1, .int br, .int cr, .ref ro, .ref fa, .ref wo, .ref ah, .int pf, .int (nI t), .ref he, .ref wy, .ref on_, .ref pa, .ref kr, .ref kn, .ref kh, .int kt, .int kc, .int sd, .ref sr, .ref sn, .long ha])), (rd, .inl (cA, 10, .inl (upd g (Int32.toNatClampNeg (nI (2 * rr + 1))) (c_ - 48))))] := hD
  rw [show upd g (Int32.toNatClampNeg (nI (2 * rr + 1))) (c_ - 48) = upd g (2 * rr + 1) (c_ - 48) from by rw [z_nat (by omega)]] at hP hD
  refine lv_aload_n hx hb dX5_go_95 rfl (lv_at hl 2 rfl) ?_
  refine lv_dup hx hb dX5_go_96 rfl ?_
  refine va_get (D := D) (ci := 5) (v := .int (nI rr)) (C := RX5) (T := TX5) (N := 35) hx hb hts hiX5 hown hK hP 0 rfl rfl 3 (by decide) (hts (.fieldLink RX5 74 "HeardSecondModel" "readMany" "I") (by decide +kernel)) (fun _ h9 => h9) rfl dX5_go_97 ?_
  refine lv_iconst (v := 1) hx hb dX5_go_100 (by decide) ?_
  refine lv_iadd hx hb dX5_go_101 ?_
  refine z_top (y := nI (rr + 1)) (nI_1 rr) ?_
  refine va_put (D := D) (ci := 5) (v := .int (nI (rr + 1))) (ty := .int) (C := RX5) (T := TX5) (N := 35) hx hb hts hiX5 tyX5 tyX5_ok nmX5 hown hK hP hD hS 0 rfl rfl 3 (by decide) (hts (.fieldLink RX5 74 "HeardSecondModel" "readMany" "I") (by decide +kernel)) (fun _ h9 => h9) rfl (by decide +kernel) (rfl) rfl (Nat.le_of_ble_eq_true rfl) dX5_go_102 (fun H locs hP hD hS => ?_)
  have hP : va_P D vwCl [(m0, .inr (5, [.ref pg, .int (nI n), .ref rd, .int (nI (rr + 1)), .int rpt, .int (nI 2), .int (nI N), .int pt, .int nw, .int ou, .int si, .int en, .int w0, .int w1, .int br, .int cr, .ref ro, .ref fa, .ref wo, .ref ah, .int pf, .int (nI t), .ref he, .ref wy, .ref on_, .ref pa, .ref kr, .ref kn, .ref kh, .int kt, .int kc, .int sd, .ref sr, .ref sn, .long ha])), (rd, .inl (cA, 10, .inl (upd g (2 * rr + 1) (c_ - 48))))] H := hP
  have hD : va_D A [(m0, .inr (5, [.ref pg, .int (nI n), .ref rd, .int (nI (rr + 1)), .int rpt, .int (nI 2), .int (nI N), .int pt, .int nw, .int ou, .int si, .int en, .int w0, .int w1, .int br, .int cr, .ref ro, .ref fa, .ref wo, .ref ah, .int pf, .int (nI t), .ref he, .ref wy, .ref on_, .ref pa, .ref kr, .ref kn, .ref kh, .int kt, .int kc, .int sd, .ref sr, .ref sn, .long ha])), (rd, .inl (cA, 10, .inl (upd g (2 * rr + 1) (c_ - 48))))] := hD
  refine lv_iload_n hx hb dX5_go_105 rfl (lv_at hl 1 rfl) ?_
  refine lv_i2l hx hb dX5_go_106 rfl ?_
  refine lv_lconst (v := 0) hx hb dX5_go_107 (by decide) ?_
  refine lv_lconst (v := 1) hx hb dX5_go_108 (by decide) ?_
  refine z_bri (z_runS (As := [.long (Int32.toInt64 (c_ - 48)), .long 0, .long 1]) (rest := []) ⟨hx, hb, hml, hown, hts⟩ (c_X5_in (x := Int32.toInt64 (c_ - 48)) (lo := 0) (hi := 1) _) (va_cwS 3 hts gX5_go_X5_in rfl rfl rfl (by decide +kernel) ⟨Nat.le_of_ble_eq_true rfl, Nat.le_of_ble_eq_true rfl⟩) hK hP hD hN [] rfl rfl rfl hl.1 rfl (Nat.le_of_ble_eq_true rfl) dX5_go_109 ⟨Nat.zero_le _, Nat.zero_le _⟩) hP hD hS hA [] rfl (fun r_2 u_3 H locs hq_1 hP hS => ?_)
  obtain rfl : r_2 = bI (decide (0 ≤ (Int32.toInt64 (c_ - 48))) && decide ((Int32.toInt64 (c_ - 48)) ≤ 1)) := hq_1
  refine z_top (y := bI (mIn (c_ - 48) 0 1)) (z_in64 rfl rfl) ?_
  -- path 1
  exact hret (bI (mIn (c_ - 48) 0 1)) () _ _ _ _ dX5_go_112 (bI_nar _) (by rfl) hP hD hS
abbrev rm_c_X5_go2 : Room := { frames := 0, cells := 0, slots := 0, locals := 0 }
set_option maxHeartbeats 400000 in
set_option maxRecDepth 20000 in
theorem c_X5_go2 {l : Launch} {D : va_G} {cA : ClassId} {m0 : Nat} {pg : Nat} {rd : Nat} {ro : Nat} {fa : Nat} {wo : Nat} {ah : Nat} {he : Nat} {wy : Nat} {on_ : Nat} {pa : Nat} {kr : Nat} {kn : Nat} {kh : Nat} {sr : Nat} {sn : Nat} {n : Nat} {N : Nat} {t : Nat} {rpt : Int32} {pt : Int32} {nw : Int32} {ou : Int32} {si : Int32} {en : Int32} {w0 : Int32} {w1 : Int32} {br : Int32} {cr : Int32} {pf : Int32} {kt : Int32} {kc : Int32} {sd : Int32} {ha : Int64} {g : Nat → Int32} {rr : Nat} {c_ : Int32} (hr : rr ≤ 5) : zMi l yX5_go wsX5_go rm_c_X5_go2 D cA [(m0, .inr (5, [.ref pg, .int (nI n), .ref rd, .int (nI rr), .int rpt, .int (nI 2), .int (nI N), .int pt, .int nw, .int ou, .int si, .int en, .int w0, .int w1, .int br, .int cr, .ref ro, .ref fa, .ref wo, .ref ah, .int pf, .int (nI t), .ref he, .ref wy, .ref on_, .ref pa, .ref kr, .ref kn, .ref kh, .int kt, .int kc, .int sd, .ref sr, .ref sn, .long ha])), (rd, .inl (cA, 10, .inl g))] [.ref m0, .int c_] (fun (r : Int32) (_ : Unit) => r = bI (if c_ = 44 then decide (rr < 5) else decide (c_ = 59) && decide (1 < rr))) (fun (_ : Unit) => [(m0, .inr (5, [.ref pg, .int (nI n), .ref rd, .int (nI rr), .int rpt, .int (nI (if c_ = 44 then 0 else 3)), .int (nI N), .int pt, .int nw, .int ou, .int si, .int en, .int w0, .int w1, .int br, .int cr, .ref ro, .ref fa, .ref wo, .ref ah, .int pf, .int (nI t), .ref he, .ref wy, .ref on_, .ref pa, .ref kr, .ref kn, .ref kh, .int kt, .int kc, .int sd, .ref sr, .ref sn, .long ha])), (rd, .inl (cA, 10, .inl g))]) := by
  refine z_enteri (cc := cX5_go) (maxL := 4) (ty := .boolean) (by decide) rfl (Nat.le_of_ble_eq_true rfl) (fun p e s m args below meth c ls A H0 H locs Q hi_ hA hK hP hD hS hl hret => ?_)
  obtain ⟨hx, hb, hr, hml, hown, hts, hlocks, hN⟩ := hi_
  have hl : lv_has ls 4 [(0, .ref m0), (1, .int c_)] := hl
  have hiX5 : ∀ w ∈ wsX50, w ∈ wsX5_go := by decide +kernel
  refine lv_iload_n hx hb dX5_go_0 rfl (lv_at hl 1 rfl) ?_
  refine lv_bipush (v := 48) hx hb dX5_go_1 (by decide) ?_
  refine lv_isub hx hb dX5_go_3 ?_
  refine lv_istore_n (lv' := [(2, .int (c_ - 48)), (0, .ref m0), (1, .int c_)]) hx hb dX5_go_4 rfl hl (by decide) rfl (fun ls hl => ?_)
  refine lv_aload_n hx hb dX5_go_5 rfl (lv_at hl 1 rfl) ?_
  refine va_get (D := D) (ci := 5) (v := .int (nI 2)) (C := RX5) (T := TX5) (N := 35) hx hb hts hiX5 hown hK hP 0 rfl rfl 5 (by decide) (hts (.fieldLink RX5 71 "HeardSecondModel" "state" "I") (by decide +kernel)) (fun _ h9 => h9) rfl dX5_go_6 ?_
  refine lv_istore_n (lv' := [(3, .int (nI 2)), (2, .int (c_ - 48)), (0, .ref m0), (1, .int c_)]) hx hb dX5_go_9 rfl hl (by decide) rfl (fun ls hl => ?_)
  refine lv_aload_n hx hb dX5_go_10 rfl (lv_at hl 2 rfl) ?_
  refine lv_dup hx hb dX5_go_11 rfl ?_
  refine va_get (D := D) (ci := 5) (v := .int (nI 2)) (C := RX5) (T := TX5) (N := 35) hx hb hts hiX5 hown hK hP 0 rfl rfl 5 (by decide) (hts (.fieldLink RX5 71 "HeardSecondModel" "state" "I") (by decide +kernel)) (fun _ h9 => h9) rfl dX5_go_12 ?_
  refine lv_iconst (v := 1) hx hb dX5_go_15 (by decide) ?_
  refine lv_iadd hx hb dX5_go_16 ?_
  refine z_top (y := nI 3) (rfl) ?_
  refine va_put (D := D) (ci := 5) (v := .int (nI 3)) (ty := .int) (C := RX5) (T := TX5) (N := 35) hx hb hts hiX5 tyX5 tyX5_ok nmX5 hown hK hP hD hS 0 rfl rfl 5 (by decide) (hts (.fieldLink RX5 71 "HeardSecondModel" "state" "I") (by decide +kernel)) (fun _ h9 => h9) rfl (by decide +kernel) (rfl) rfl (Nat.le_of_ble_eq_true rfl) dX5_go_17 (fun H locs hP hD hS => ?_)
  have hP : va_P D vwCl [(m0, .inr (5, [.ref pg, .int (nI n), .ref rd, .int (nI rr), .int rpt, .int (nI 3), .int (nI N), .int pt, .int nw, .int ou, .int si, .int en, .int w0, .int w1, .int br, .int cr, .ref ro, .ref fa, .ref wo, .ref ah, .int pf, .int (nI t), .ref he, .ref wy, .ref on_, .ref pa, .ref kr, .ref kn, .ref kh, .int kt, .int kc, .int sd, .ref sr, .ref sn, .long ha])), (rd, .inl (cA, 10, .inl g))] H := hP
  have hD : va_D A [(m0, .inr (5, [.ref pg, .int (nI n), .ref rd, .int (nI rr), .int rpt, .int (nI 3), .int (nI N), .int pt, .int nw, .int ou, .int si, .int en, .int w0, .int w1, .int br, .int cr, .ref ro, .ref fa, .ref wo, .ref ah, .int pf, .int (nI t), .ref he, .ref wy, .ref on_, .ref pa, .ref kr, .ref kn, .ref kh, .int kt, .int kc, .int sd, .ref sr, .ref sn, .long ha])), (rd, .inl (cA, 10, .inl g))] := hD
  refine lv_iload_n hx hb dX5_go_20 rfl (lv_at hl 0 rfl) ?_
  refine lv_tableIn (off := 92) (tgt := 113) hx hb dX5_go_21 (by decide) (by decide) rfl (by decide) ?_
  refine lv_aload_n hx hb dX5_go_113 rfl (lv_at hl 2 rfl) ?_
  refine lv_iload_n hx hb dX5_go_114 rfl (lv_at hl 3 rfl) ?_
  refine lv_bipush (v := 44) hx hb dX5_go_115 (by decide) ?_
  refine lv_icmp_ne (tgt := 124) hx hb dX5_go_117 (by decide) (fun c117_1 => ?_) (fun c117_1 => ?_)
  · skip
    refine lv_iconst (v := nI 3) hx hb dX5_go_124 (by decide) ?_
    refine va_put (D := D) (ci := 5) (v := .int (nI 3)) (ty := .int) (C := RX5) (T := TX5) (N := 35) hx hb hts hiX5 tyX5 tyX5_ok nmX5 hown hK hP hD hS 0 rfl rfl 5 (by decide) (hts (.fieldLink RX5 71 "HeardSecondModel" "state" "I") (by decide +kernel)) (fun _ h9 => h9) rfl (by decide +kernel) (rfl) rfl (Nat.le_of_ble_eq_true rfl) dX5_go_125 (fun H locs hP hD hS => ?_)
    have hP : va_P D vwCl [(m0, .inr (5, [.ref pg, .int (nI n), .ref rd, .int (nI rr), .int rpt, .int (nI 3), .int (nI N), .int pt, .int nw, .int ou, .int si, .int en, .int w0, .int w1, .int br, .int cr, .ref ro, .ref fa, .ref wo, .ref ah, .int pf, .int (nI t), .ref he, .ref wy, .ref on_, .ref pa, .ref kr, .ref kn, .ref kh, .int kt, .int kc, .int sd, .ref sr, .ref sn, .long ha])), (rd, .inl (cA, 10, .inl g))] H := hP
    have hD : va_D A [(m0, .inr (5, [.ref pg, .int (nI n), .ref rd, .int (nI rr), .int rpt, .int (nI 3), .int (nI N), .int pt, .int nw, .int ou, .int si, .int en, .int w0, .int w1, .int br, .int cr, .ref ro, .ref fa, .ref wo, .ref ah, .int pf, .int (nI t), .ref he, .ref wy, .ref on_, .ref pa, .ref kr, .ref kn, .ref kh, .int kt, .int kc, .int sd, .ref sr, .ref sn, .long ha])), (rd, .inl (cA, 10, .inl g))] := hD
    refine lv_iload_n hx hb dX5_go_128 rfl (lv_at hl 3 rfl) ?_
    refine lv_bipush (v := 44) hx hb dX5_go_129 (by decide) ?_
    refine lv_icmp_ne (tgt := 150) hx hb dX5_go_131 (by decide) (fun c131_2 => ?_) (fun c131_2 => ?_)
    · skip
      refine lv_iload_n hx hb dX5_go_150 rfl (lv_at hl 3 rfl) ?_
      refine lv_bipush (v := 59) hx hb dX5_go_151 (by decide) ?_
      refine lv_icmp_ne (tgt := 168) hx hb dX5_go_153 (by decide) (fun c153_3 => ?_) (fun c153_3 => ?_)
      · skip
        refine lv_iconst (v := 0) hx hb dX5_go_168 (by decide) ?_
        -- path 1
        have hP : va_P D vwCl [(m0, .inr (5, [.ref pg, .int (nI n), .ref rd, .int (nI rr), .int rpt, .int (nI (if c_ = 44 then 0 else 3)), .int (nI N), .int pt, .int nw, .int ou, .int si, .int en, .int w0, .int w1, .int br, .int cr, .ref ro, .ref fa, .ref wo, .ref ah, .int pf, .int (nI t), .ref he, .ref wy, .ref on_, .ref pa, .ref kr, .ref kn, .ref kh, .int kt, .int kc, .int sd, .ref sr, .ref sn, .long ha])), (rd, .inl (cA, 10, .inl g))] H := by have e_ : nI 3 = nI (if c_ = 44 then 0 else 3) := (by clear hret hl hS hD hP hK hA hN hts hx hb hr hml hown hlocks hiX5; grind); rw [← e_]; exact hP
        have hD : va_D A [(m0, .inr (5, [.ref pg, .int (nI n), .ref rd, .int (nI rr), .int rpt, .int (nI (if c_ = 44 then 0 else 3)), .int (nI N), .int pt, .int nw, .int ou, .int si, .int en, .int w0, .int w1, .int br, .int cr, .ref ro, .ref fa, .ref wo, .ref ah, .int pf, .int (nI t), .ref he, .ref wy, .ref on_, .ref pa, .ref kr, .ref kn, .ref kh, .int kt, .int kc, .int sd, .ref sr, .ref sn, .long ha])), (rd, .inl (cA, 10, .inl g))] := by have e_ : nI 3 = nI (if c_ = 44 then 0 else 3) := (by clear hret hl hS hD hP hK hA hN hts hx hb hr hml hown hlocks hiX5; grind); rw [← e_]; exact hD
        exact hret (0) () _ _ _ _ dX5_go_169 (rfl) (by clear hret hl hS hD hP hK hA hN hts hx hb hr hml hown hlocks hiX5; simp_all [bI]) hP hD hS
      · skip
        refine lv_aload_n hx hb dX5_go_156 rfl (lv_at hl 2 rfl) ?_
        refine va_get (D := D) (ci := 5) (v := .int (nI rr)) (C := RX5) (T := TX5) (N := 35) hx hb hts hiX5 hown hK hP 0 rfl rfl 3 (by decide) (hts (.fieldLink RX5 74 "HeardSecondModel" "readMany" "I") (by decide +kernel)) (fun _ h9 => h9) rfl dX5_go_157 ?_
        refine lv_iconst (v := 1) hx hb dX5_go_160 (by decide) ?_
        refine lv_icmp_le (tgt := 168) hx hb dX5_go_161 (by decide) (fun c161_4 => ?_) (fun c161_4 => ?_)
        · skip
          have h2_ : ¬ 1 < rr := by have := (nI_leI (a := rr) (b := 1) (by omega) (by omega)).mp c161_4; omega
          refine lv_iconst (v := 0) hx hb dX5_go_168 (by decide) ?_
          -- path 2
          have hP : va_P D vwCl [(m0, .inr (5, [.ref pg, .int (nI n), .ref rd, .int (nI rr), .int rpt, .int (nI (if c_ = 44 then 0 else 3)), .int (nI N), .int pt, .int nw, .int ou, .int si, .int en, .int w0, .int w1, .int br, .int cr, .ref ro, .ref fa, .ref wo, .ref ah, .int pf, .int (nI t), .ref he, .ref wy, .ref on_, .ref pa, .ref kr, .ref kn, .ref kh, .int kt, .int kc, .int sd, .ref sr, .ref sn, .long ha])), (rd, .inl (cA, 10, .inl g))] H := by have e_ : nI 3 = nI (if c_ = 44 then 0 else 3) := (by clear hret hl hS hD hP hK hA hN hts hx hb hr hml hown hlocks hiX5; grind); rw [← e_]; exact hP
          have hD : va_D A [(m0, .inr (5, [.ref pg, .int (nI n), .ref rd, .int (nI rr), .int rpt, .int (nI (if c_ = 44 then 0 else 3)), .int (nI N), .int pt, .int nw, .int ou, .int si, .int en, .int w0, .int w1, .int br, .int cr, .ref ro, .ref fa, .ref wo, .ref ah, .int pf, .int (nI t), .ref he, .ref wy, .ref on_, .ref pa, .ref kr, .ref kn, .ref kh, .int kt, .int kc, .int sd, .ref sr, .ref sn, .long ha])), (rd, .inl (cA, 10, .inl g))] := by have e_ : nI 3 = nI (if c_ = 44 then 0 else 3) := (by clear hret hl hS hD hP hK hA hN hts hx hb hr hml hown hlocks hiX5; grind); rw [← e_]; exact hD
          exact hret (0) () _ _ _ _ dX5_go_169 (rfl) (by clear hret hl hS hD hP hK hA hN hts hx hb hr hml hown hlocks hiX5; simp_all [bI]) hP hD hS
        · skip
          have h2_ : 1 < rr := Nat.lt_of_not_le (fun q_ => c161_4 ((nI_leI (a := rr) (b := 1) (by omega) (by omega)).mpr q_))
          refine lv_iconst (v := 1) hx hb dX5_go_164 (by decide) ?_
          refine lv_goto (tgt := 169) hx hb dX5_go_165 (by decide) ?_
          -- path 3
          have hP : va_P D vwCl [(m0, .inr (5, [.ref pg, .int (nI n), .ref rd, .int (nI rr), .int rpt, .int (nI (if c_ = 44 then 0 else 3)), .int (nI N), .int pt, .int nw, .int ou, .int si, .int en, .int w0, .int w1, .int br, .int cr, .ref ro, .ref fa, .ref wo, .ref ah, .int pf, .int (nI t), .ref he, .ref wy, .ref on_, .ref pa, .ref kr, .ref kn, .ref kh, .int kt, .int kc, .int sd, .ref sr, .ref sn, .long ha])), (rd, .inl (cA, 10, .inl g))] H := by have e_ : nI 3 = nI (if c_ = 44 then 0 else 3) := (by clear hret hl hS hD hP hK hA hN hts hx hb hr hml hown hlocks hiX5; grind); rw [← e_]; exact hP
          have hD : va_D A [(m0, .inr (5, [.ref pg, .int (nI n), .ref rd, .int (nI rr), .int rpt, .int (nI (if c_ = 44 then 0 else 3)), .int (nI N), .int pt, .int nw, .int ou, .int si, .int en, .int w0, .int w1, .int br, .int cr, .ref ro, .ref fa, .ref wo, .ref ah, .int pf, .int (nI t), .ref he, .ref wy, .ref on_, .ref pa, .ref kr, .ref kn, .ref kh, .int kt, .int kc, .int sd, .ref sr, .ref sn, .long ha])), (rd, .inl (cA, 10, .inl g))] := by have e_ : nI 3 = nI (if c_ = 44 then 0 else 3) := (by clear hret hl hS hD hP hK hA hN hts hx hb hr hml hown hlocks hiX5; grind); rw [← e_]; exact hD
          exact hret (1) () _ _ _ _ dX5_go_169 (rfl) (by clear hret hl hS hD hP hK hA hN hts hx hb hr hml hown hlocks hiX5; simp_all [bI]) hP hD hS
    · skip
      refine lv_aload_n hx hb dX5_go_134 rfl (lv_at hl 2 rfl) ?_
      refine va_get (D := D) (ci := 5) (v := .int (nI rr)) (C := RX5) (T := TX5) (N := 35) hx hb hts hiX5 hown hK hP 0 rfl rfl 3 (by decide) (hts (.fieldLink RX5 74 "HeardSecondModel" "readMany" "I") (by decide +kernel)) (fun _ h9 => h9) rfl dX5_go_135 ?_
      refine lv_iconst (v := 5) hx hb dX5_go_138 (by decide) ?_
      refine lv_icmp_ge (tgt := 146) hx hb dX5_go_139 (by decide) (fun c139_5 => ?_) (fun c139_5 => ?_)
      · skip
        have h1_ : ¬ rr < 5 := by have := (nI_leI (a := 5) (b := rr) (by omega) (by omega)).mp c139_5; omega
        refine lv_iconst (v := 0) hx hb dX5_go_146 (by decide) ?_
        refine lv_goto (tgt := 169) hx hb dX5_go_147 (by decide) ?_
        -- path 4
        have hP : va_P D vwCl [(m0, .inr (5, [.ref pg, .int (nI n), .ref rd, .int (nI rr), .int rpt, .int (nI (if c_ = 44 then 0 else 3)), .int (nI N), .int pt, .int nw, .int ou, .int si, .int en, .int w0, .int w1, .int br, .int cr, .ref ro, .ref fa, .ref wo, .ref ah, .int pf, .int (nI t), .ref he, .ref wy, .ref on_, .ref pa, .ref kr, .ref kn, .ref kh, .int kt, .int kc, .int sd, .ref sr, .ref sn, .long ha])), (rd, .inl (cA, 10, .inl g))] H := by have e_ : nI 3 = nI (if c_ = 44 then 0 else 3) := (by clear hret hl hS hD hP hK hA hN hts hx hb hr hml hown hlocks hiX5; grind); rw [← e_]; exact hP
        have hD : va_D A [(m0, .inr (5, [.ref pg, .int (nI n), .ref rd, .int (nI rr), .int rpt, .int (nI (if c_ = 44 then 0 else 3)), .int (nI N), .int pt, .int nw, .int ou, .int si, .int en, .int w0, .int w1, .int br, .int cr, .ref ro, .ref fa, .ref wo, .ref ah, .int pf, .int (nI t), .ref he, .ref wy, .ref on_, .ref pa, .ref kr, .ref kn, .ref kh, .int kt, .int kc, .int sd, .ref sr, .ref sn, .long ha])), (rd, .inl (cA, 10, .inl g))] := by have e_ : nI 3 = nI (if c_ = 44 then 0 else 3) := (by clear hret hl hS hD hP hK hA hN hts hx hb hr hml hown hlocks hiX5; grind); rw [← e_]; exact hD
        exact hret (0) () _ _ _ _ dX5_go_169 (rfl) (by clear hret hl hS hD hP hK hA hN hts hx hb hr hml hown hlocks hiX5; simp_all [bI]) hP hD hS
      · skip
        have h1_ : rr < 5 := Nat.lt_of_not_le (fun q_ => c139_5 ((nI_leI (a := 5) (b := rr) (by omega) (by omega)).mpr q_))
        refine lv_iconst (v := 1) hx hb dX5_go_142 (by decide) ?_
        refine lv_goto (tgt := 169) hx hb dX5_go_143 (by decide) ?_
        -- path 5
        have hP : va_P D vwCl [(m0, .inr (5, [.ref pg, .int (nI n), .ref rd, .int (nI rr), .int rpt, .int (nI (if c_ = 44 then 0 else 3)), .int (nI N), .int pt, .int nw, .int ou, .int si, .int en, .int w0, .int w1, .int br, .int cr, .ref ro, .ref fa, .ref wo, .ref ah, .int pf, .int (nI t), .ref he, .ref wy, .ref on_, .ref pa, .ref kr, .ref kn, .ref kh, .int kt, .int kc, .int sd, .ref sr, .ref sn, .long ha])), (rd, .inl (cA, 10, .inl g))] H := by have e_ : nI 3 = nI (if c_ = 44 then 0 else 3) := (by clear hret hl hS hD hP hK hA hN hts hx hb hr hml hown hlocks hiX5; grind); rw [← e_]; exact hP
        have hD : va_D A [(m0, .inr (5, [.ref pg, .int (nI n), .ref rd, .int (nI rr), .int rpt, .int (nI (if c_ = 44 then 0 else 3)), .int (nI N), .int pt, .int nw, .int ou, .int si, .int en, .int w0, .int w1, .int br, .int cr, .ref ro, .ref fa, .ref wo, .ref ah, .int pf, .int (nI t), .ref he, .ref wy, .ref on_, .ref pa, .ref kr, .ref kn, .ref kh, .int kt, .int kc, .int sd, .ref sr, .ref sn, .long ha])), (rd, .inl (cA, 10, .inl g))] := by have e_ : nI 3 = nI (if c_ = 44 then 0 else 3) := (by clear hret hl hS hD hP hK hA hN hts hx hb hr hml hown hlocks hiX5; grind); rw [← e_]; exact hD
        exact hret (1) () _ _ _ _ dX5_go_169 (rfl) (by clear hret hl hS hD hP hK hA hN hts hx hb hr hml hown hlocks hiX5; simp_all [bI]) hP hD hS
  · skip
    refine lv_iconst (v := nI 0) hx hb dX5_go_120 (by decide) ?_
    refine lv_goto (tgt := 125) hx hb dX5_go_121 (by decide) ?_
    refine va_put (D := D) (ci := 5) (v := .int (nI 0)) (ty := .int) (C := RX5) (T := TX5) (N := 35) hx hb hts hiX5 tyX5 tyX5_ok nmX5 hown hK hP hD hS 0 rfl rfl 5 (by decide) (hts (.fieldLink RX5 71 "HeardSecondModel" "state" "I") (by decide +kernel)) (fun _ h9 => h9) rfl (by decide +kernel) (rfl) rfl (Nat.le_of_ble_eq_true rfl) dX5_go_125 (fun H locs hP hD hS => ?_)
    have hP : va_P D vwCl [(m0, .inr (5, [.ref pg, .int (nI n), .ref rd, .int (nI rr), .int rpt, .int (nI 0), .int (nI N), .int pt, .int nw, .int ou, .int si, .int en, .int w0, .int w1, .int br, .int cr, .ref ro, .ref fa, .ref wo, .ref ah, .int pf, .int (nI t), .ref he, .ref wy, .ref on_, .ref pa, .ref kr, .ref kn, .ref kh, .int kt, .int kc, .int sd, .ref sr, .ref sn, .long ha])), (rd, .inl (cA, 10, .inl g))] H := hP
    have hD : va_D A [(m0, .inr (5, [.ref pg, .int (nI n), .ref rd, .int (nI rr), .int rpt, .int (nI 0), .int (nI N), .int pt, .int nw, .int ou, .int si, .int en, .int w0, .int w1, .int br, .int cr, .ref ro, .ref fa, .ref wo, .ref ah, .int pf, .int (nI t), .ref he, .ref wy, .ref on_, .ref pa, .ref kr, .ref kn, .ref kh, .int kt, .int kc, .int sd, .ref sr, .ref sn, .long ha])), (rd, .inl (cA, 10, .inl g))] := hD
    refine lv_iload_n hx hb dX5_go_128 rfl (lv_at hl 3 rfl) ?_
    refine lv_bipush (v := 44) hx hb dX5_go_129 (by decide) ?_
    refine lv_icmp_ne (tgt := 150) hx hb dX5_go_131 (by decide) (fun c131_6 => ?_) (fun c131_6 => ?_)
    · skip
      refine lv_iload_n hx hb dX5_go_150 rfl (lv_at hl 3 rfl) ?_
      refine lv_bipush (v := 59) hx hb dX5_go_151 (by decide) ?_
      refine lv_icmp_ne (tgt := 168) hx hb dX5_go_153 (by decide) (fun c153_7 => ?_) (fun c153_7 => ?_)
      · skip
        refine lv_iconst (v := 0) hx hb dX5_go_168 (by decide) ?_
        -- path 6
        have hP : va_P D vwCl [(m0, .inr (5, [.ref pg, .int (nI n), .ref rd, .int (nI rr), .int rpt, .int (nI (if c_ = 44 then 0 else 3)), .int (nI N), .int pt, .int nw, .int ou, .int si, .int en, .int w0, .int w1, .int br, .int cr, .ref ro, .ref fa, .ref wo, .ref ah, .int pf, .int (nI t), .ref he, .ref wy, .ref on_, .ref pa, .ref kr, .ref kn, .ref kh, .int kt, .int kc, .int sd, .ref sr, .ref sn, .long ha])), (rd, .inl (cA, 10, .inl g))] H := by have e_ : nI 0 = nI (if c_ = 44 then 0 else 3) := (by clear hret hl hS hD hP hK hA hN hts hx hb hr hml hown hlocks hiX5; grind); rw [← e_]; exact hP
        have hD : va_D A [(m0, .inr (5, [.ref pg, .int (nI n), .ref rd, .int (nI rr), .int rpt, .int (nI (if c_ = 44 then 0 else 3)), .int (nI N), .int pt, .int nw, .int ou, .int si, .int en, .int w0, .int w1, .int br, .int cr, .ref ro, .ref fa, .ref wo, .ref ah, .int pf, .int (nI t), .ref he, .ref wy, .ref on_, .ref pa, .ref kr, .ref kn, .ref kh, .int kt, .int kc, .int sd, .ref sr, .ref sn, .long ha])), (rd, .inl (cA, 10, .inl g))] := by have e_ : nI 0 = nI (if c_ = 44 then 0 else 3) := (by clear hret hl hS hD hP hK hA hN hts hx hb hr hml hown hlocks hiX5; grind); rw [← e_]; exact hD
        exact hret (0) () _ _ _ _ dX5_go_169 (rfl) (by clear hret hl hS hD hP hK hA hN hts hx hb hr hml hown hlocks hiX5; simp_all [bI]) hP hD hS
      · skip
        refine lv_aload_n hx hb dX5_go_156 rfl (lv_at hl 2 rfl) ?_
        refine va_get (D := D) (ci := 5) (v := .int (nI rr)) (C := RX5) (T := TX5) (N := 35) hx hb hts hiX5 hown hK hP 0 rfl rfl 3 (by decide) (hts (.fieldLink RX5 74 "HeardSecondModel" "readMany" "I") (by decide +kernel)) (fun _ h9 => h9) rfl dX5_go_157 ?_
        refine lv_iconst (v := 1) hx hb dX5_go_160 (by decide) ?_
        refine lv_icmp_le (tgt := 168) hx hb dX5_go_161 (by decide) (fun c161_8 => ?_) (fun c161_8 => ?_)
        · skip
          have h2_ : ¬ 1 < rr := by have := (nI_leI (a := rr) (b := 1) (by omega) (by omega)).mp c161_8; omega
          refine lv_iconst (v := 0) hx hb dX5_go_168 (by decide) ?_
          -- path 7
          have hP : va_P D vwCl [(m0, .inr (5, [.ref pg, .int (nI n), .ref rd, .int (nI rr), .int rpt, .int (nI (if c_ = 44 then 0 else 3)), .int (nI N), .int pt, .int nw, .int ou, .int si, .int en, .int w0, .int w1, .int br, .int cr, .ref ro, .ref fa, .ref wo, .ref ah, .int pf, .int (nI t), .ref he, .ref wy, .ref on_, .ref pa, .ref kr, .ref kn, .ref kh, .int kt, .int kc, .int sd, .ref sr, .ref sn, .long ha])), (rd, .inl (cA, 10, .inl g))] H := by have e_ : nI 0 = nI (if c_ = 44 then 0 else 3) := (by clear hret hl hS hD hP hK hA hN hts hx hb hr hml hown hlocks hiX5; grind); rw [← e_]; exact hP
          have hD : va_D A [(m0, .inr (5, [.ref pg, .int (nI n), .ref rd, .int (nI rr), .int rpt, .int (nI (if c_ = 44 then 0 else 3)), .int (nI N), .int pt, .int nw, .int ou, .int si, .int en, .int w0, .int w1, .int br, .int cr, .ref ro, .ref fa, .ref wo, .ref ah, .int pf, .int (nI t), .ref he, .ref wy, .ref on_, .ref pa, .ref kr, .ref kn, .ref kh, .int kt, .int kc, .int sd, .ref sr, .ref sn, .long ha])), (rd, .inl (cA, 10, .inl g))] := by have e_ : nI 0 = nI (if c_ = 44 then 0 else 3) := (by clear hret hl hS hD hP hK hA hN hts hx hb hr hml hown hlocks hiX5; grind); rw [← e_]; exact hD
          exact hret (0) () _ _ _ _ dX5_go_169 (rfl) (by clear hret hl hS hD hP hK hA hN hts hx hb hr hml hown hlocks hiX5; simp_all [bI]) hP hD hS
        · skip
          have h2_ : 1 < rr := Nat.lt_of_not_le (fun q_ => c161_8 ((nI_leI (a := rr) (b := 1) (by omega) (by omega)).mpr q_))
          refine lv_iconst (v := 1) hx hb dX5_go_164 (by decide) ?_
          refine lv_goto (tgt := 169) hx hb dX5_go_165 (by decide) ?_
          -- path 8
          have hP : va_P D vwCl [(m0, .inr (5, [.ref pg, .int (nI n), .ref rd, .int (nI rr), .int rpt, .int (nI (if c_ = 44 then 0 else 3)), .int (nI N), .int pt, .int nw, .int ou, .int si, .int en, .int w0, .int w1, .int br, .int cr, .ref ro, .ref fa, .ref wo, .ref ah, .int pf, .int (nI t), .ref he, .ref wy, .ref on_, .ref pa, .ref kr, .ref kn, .ref kh, .int kt, .int kc, .int sd, .ref sr, .ref sn, .long ha])), (rd, .inl (cA, 10, .inl g))] H := by have e_ : nI 0 = nI (if c_ = 44 then 0 else 3) := (by clear hret hl hS hD hP hK hA hN hts hx hb hr hml hown hlocks hiX5; grind); rw [← e_]; exact hP
          have hD : va_D A [(m0, .inr (5, [.ref pg, .int (nI n), .ref rd, .int (nI rr), .int rpt, .int (nI (if c_ = 44 then 0 else 3)), .int (nI N), .int pt, .int nw, .int ou, .int si, .int en, .int w0, .int w1, .int br, .int cr, .ref ro, .ref fa, .ref wo, .ref ah, .int pf, .int (nI t), .ref he, .ref wy, .ref on_, .ref pa, .ref kr, .ref kn, .ref kh, .int kt, .int kc, .int sd, .ref sr, .ref sn, .long ha])), (rd, .inl (cA, 10, .inl g))] := by have e_ : nI 0 = nI (if c_ = 44 then 0 else 3) := (by clear hret hl hS hD hP hK hA hN hts hx hb hr hml hown hlocks hiX5; grind); rw [← e_]; exact hD
          exact hret (1) () _ _ _ _ dX5_go_169 (rfl) (by clear hret hl hS hD hP hK hA hN hts hx hb hr hml hown hlocks hiX5; simp_all [bI]) hP hD hS
    · skip
      refine lv_aload_n hx hb dX5_go_134 rfl (lv_at hl 2 rfl) ?_
      refine va_get (D := D) (ci := 5) (v := .int (nI rr)) (C := RX5) (T := TX5) (N := 35) hx hb hts hiX5 hown hK hP 0 rfl rfl 3 (by decide) (hts (.fieldLink RX5 74 "HeardSecondModel" "readMany" "I") (by decide +kernel)) (fun _ h9 => h9) rfl dX5_go_135 ?_
      refine lv_iconst (v := 5) hx hb dX5_go_138 (by decide) ?_
      refine lv_icmp_ge (tgt := 146) hx hb dX5_go_139 (by decide) (fun c139_9 => ?_) (fun c139_9 => ?_)
      · skip
        have h1_ : ¬ rr < 5 := by have := (nI_leI (a := 5) (b := rr) (by omega) (by omega)).mp c139_9; omega
        refine lv_iconst (v := 0) hx hb dX5_go_146 (by decide) ?_
        refine lv_goto (tgt := 169) hx hb dX5_go_147 (by decide) ?_
        -- path 9
        have hP : va_P D vwCl [(m0, .inr (5, [.ref pg, .int (nI n), .ref rd, .int (nI rr), .int rpt, .int (nI (if c_ = 44 then 0 else 3)), .int (nI N), .int pt, .int nw, .int ou, .int si, .int en, .int w0, .int w1, .int br, .int cr, .ref ro, .ref fa, .ref wo, .ref ah, .int pf, .int (nI t), .ref he, .ref wy, .ref on_, .ref pa, .ref kr, .ref kn, .ref kh, .int kt, .int kc, .int sd, .ref sr, .ref sn, .long ha])), (rd, .inl (cA, 10, .inl g))] H := by have e_ : nI 0 = nI (if c_ = 44 then 0 else 3) := (by clear hret hl hS hD hP hK hA hN hts hx hb hr hml hown hlocks hiX5; grind); rw [← e_]; exact hP
        have hD : va_D A [(m0, .inr (5, [.ref pg, .int (nI n), .ref rd, .int (nI rr), .int rpt, .int (nI (if c_ = 44 then 0 else 3)), .int (nI N), .int pt, .int nw, .int ou, .int si, .int en, .int w0, .int w1, .int br, .int cr, .ref ro, .ref fa, .ref wo, .ref ah, .int pf, .int (nI t), .ref he, .ref wy, .ref on_, .ref pa, .ref kr, .ref kn, .ref kh, .int kt, .int kc, .int sd, .ref sr, .ref sn, .long ha])), (rd, .inl (cA, 10, .inl g))] := by have e_ : nI 0 = nI (if c_ = 44 then 0 else 3) := (by clear hret hl hS hD hP hK hA hN hts hx hb hr hml hown hlocks hiX5; grind); rw [← e_]; exact hD
        exact hret (0) () _ _ _ _ dX5_go_169 (rfl) (by clear hret hl hS hD hP hK hA hN hts hx hb hr hml hown hlocks hiX5; simp_all [bI]) hP hD hS
      · skip
        have h1_ : rr < 5 := Nat.lt_of_not_le (fun q_ => c139_9 ((nI_leI (a := 5) (b := rr) (by omega) (by omega)).mpr q_))
        refine lv_iconst (v := 1) hx hb dX5_go_142 (by decide) ?_
        refine lv_goto (tgt := 169) hx hb dX5_go_143 (by decide) ?_
        -- path 10
        have hP : va_P D vwCl [(m0, .inr (5, [.ref pg, .int (nI n), .ref rd, .int (nI rr), .int rpt, .int (nI (if c_ = 44 then 0 else 3)), .int (nI N), .int pt, .int nw, .int ou, .int si, .int en, .int w0, .int w1, .int br, .int cr, .ref ro, .ref fa, .ref wo, .ref ah, .int pf, .int (nI t), .ref he, .ref wy, .ref on_, .ref pa, .ref kr, .ref kn, .ref kh, .int kt, .int kc, .int sd, .ref sr, .ref sn, .long ha])), (rd, .inl (cA, 10, .inl g))] H := by have e_ : nI 0 = nI (if c_ = 44 then 0 else 3) := (by clear hret hl hS hD hP hK hA hN hts hx hb hr hml hown hlocks hiX5; grind); rw [← e_]; exact hP
        have hD : va_D A [(m0, .inr (5, [.ref pg, .int (nI n), .ref rd, .int (nI rr), .int rpt, .int (nI (if c_ = 44 then 0 else 3)), .int (nI N), .int pt, .int nw, .int ou, .int si, .int en, .int w0, .int w1, .int br, .int cr, .ref ro, .ref fa, .ref wo, .ref ah, .int pf, .int (nI t), .ref he, .ref wy, .ref on_, .ref pa, .ref kr, .ref kn, .ref kh, .int kt, .int kc, .int sd, .ref sr, .ref sn, .long ha])), (rd, .inl (cA, 10, .inl g))] := by have e_ : nI 0 = nI (if c_ = 44 then 0 else 3) := (by clear hret hl hS hD hP hK hA hN hts hx hb hr hml hown hlocks hiX5; grind); rw [← e_]; exact hD
        exact hret (1) () _ _ _ _ dX5_go_169 (rfl) (by clear hret hl hS hD hP hK hA hN hts hx hb hr hml hown hlocks hiX5; simp_all [bI]) hP hD hS
abbrev rm_c_X5_go3 : Room := { frames := 1, cells := 0, slots := 0, locals := 25 }
set_option maxHeartbeats 400000 in
set_option maxRecDepth 20000 in
theorem c_X5_go3 {l : Launch} {D : va_G} {cA : ClassId} {m0 : Nat} {pg : Nat} {rd : Nat} {ro : Nat} {fa : Nat} {wo : Nat} {ah : Nat} {he : Nat} {wy : Nat} {on_ : Nat} {pa : Nat} {kr : Nat} {kn : Nat} {kh : Nat} {sr : Nat} {sn : Nat} {n : Nat} {N : Nat} {t : Nat} {rpt : Int32} {pt : Int32} {nw : Int32} {ou : Int32} {si : Int32} {en : Int32} {w0 : Int32} {w1 : Int32} {br : Int32} {cr : Int32} {pf : Int32} {kt : Int32} {kc : Int32} {sd : Int32} {ha : Int64} {g : Nat → Int32} {rr : Nat} {c_ : Int32} : zMi l yX5_go wsX5_go rm_c_X5_go3 D cA [(m0, .inr (5, [.ref pg, .int (nI n), .ref rd, .int (nI rr), .int rpt, .int (nI 3), .int (nI N), .int pt, .int nw, .int ou, .int si, .int en, .int w0, .int w1, .int br, .int cr, .ref ro, .ref fa, .ref wo, .ref ah, .int pf, .int (nI t), .ref he, .ref wy, .ref on_, .ref pa, .ref kr, .ref kn, .ref kh, .int kt, .int kc, .int sd, .ref sr, .ref sn, .long ha])), (rd, .inl (cA, 10, .inl g))] [.ref m0, .int c_] (fun (r : Int32) (_ : Unit) => r = bI (mIn (c_ - 48) 1 9)) (fun (_ : Unit) => [(m0, .inr (5, [.ref pg, .int (nI n), .ref rd, .int (nI rr), .int (c_ - 48), .int (nI 4), .int (nI N), .int pt, .int nw, .int ou, .int si, .int en, .int w0, .int w1, .int br, .int cr, .ref ro, .ref fa, .ref wo, .ref ah, .int pf, .int (nI t), .ref he, .ref wy, .ref on_, .ref pa, .ref kr, .ref kn, .ref kh, .int kt, .int kc, .int sd, .ref sr, .ref sn, .long ha])), (rd, .inl (cA, 10, .inl g))]) := by
  refine z_enteri (cc := cX5_go) (maxL := 4) (ty := .boolean) (by decide) rfl (Nat.le_of_ble_eq_true rfl) (fun p e s m args below meth c ls A H0 H locs Q hi_ hA hK hP hD hS hl hret => ?_)
  obtain ⟨hx, hb, hr, hml, hown, hts, hlocks, hN⟩ := hi_
  have hl : lv_has ls 4 [(0, .ref m0), (1, .int c_)] := hl
  have hiX5 : ∀ w ∈ wsX50, w ∈ wsX5_go := by decide +kernel
  refine lv_iload_n hx hb dX5_go_0 rfl (lv_at hl 1 rfl) ?_
  refine lv_bipush (v := 48) hx hb dX5_go_1 (by decide) ?_
  refine lv_isub hx hb dX5_go_3 ?_
  refine lv_istore_n (lv' := [(2, .int (c_ - 48)), (0, .ref m0), (1, .int c_)]) hx hb dX5_go_4 rfl hl (by decide) rfl (fun ls hl => ?_)
  refine lv_aload_n hx hb dX5_go_5 rfl (lv_at hl 1 rfl) ?_
  refine va_get (D := D) (ci := 5) (v := .int (nI 3)) (C := RX5) (T := TX5) (N := 35) hx hb hts hiX5 hown hK hP 0 rfl rfl 5 (by decide) (hts (.fieldLink RX5 71 "HeardSecondModel" "state" "I") (by decide +kernel)) (fun _ h9 => h9) rfl dX5_go_6 ?_
  refine lv_istore_n (lv' := [(3, .int (nI 3)), (2, .int (c_ - 48)), (0, .ref m0), (1, .int c_)]) hx hb dX5_go_9 rfl hl (by decide) rfl (fun ls hl => ?_)
  refine lv_aload_n hx hb dX5_go_10 rfl (lv_at hl 2 rfl) ?_
  refine lv_dup hx hb dX5_go_11 rfl ?_
  refine va_get (D := D) (ci := 5) (v := .int (nI 3)) (C := RX5) (T := TX5) (N := 35) hx hb hts hiX5 hown hK hP 0 rfl rfl 5 (by decide) (hts (.fieldLink RX5 71 "HeardSecondModel" "state" "I") (by decide +kernel)) (fun _ h9 => h9) rfl dX5_go_12 ?_
  refine lv_iconst (v := 1) hx hb dX5_go_15 (by decide) ?_
  refine lv_iadd hx hb dX5_go_16 ?_
  refine z_top (y := nI 4) (rfl) ?_
  refine va_put (D := D) (ci := 5) (v := .int (nI 4)) (ty := .int) (C := RX5) (T := TX5) (N := 35) hx hb hts hiX5 tyX5 tyX5_ok nmX5 hown hK hP hD hS 0 rfl rfl 5 (by decide) (hts (.fieldLink RX5 71 "HeardSecondModel" "state" "I") (by decide +kernel)) (fun _ h9 => h9) rfl (by decide +kernel) (rfl) rfl (Nat.le_of_ble_eq_true rfl) dX5_go_17 (fun H locs hP hD hS => ?_)
  have hP : va_P D vwCl [(m0, .inr (5, [.ref pg, .int (nI n), .ref rd, .int (nI rr), .int rpt, .int (nI 4), .int (nI N), .int pt, .int nw, .int ou, .int si, .int en, .int w0, .int w1, .int br, .int cr, .ref ro, .ref fa, .ref wo, .ref ah, .int pf, .int (nI t), .ref he, .ref wy, .ref on_, .ref pa, .ref kr, .ref kn, .ref kh, .int kt, .int kc, .int sd, .ref sr, .ref sn, .long ha])), (rd, .inl (cA, 10, .inl g))] H := hP
  have hD : va_D A [(m0, .inr (5, [.ref pg, .int (nI n), .ref rd, .int (nI rr), .int rpt, .int (nI 4), .int (nI N), .int pt, .int nw, .int ou, .int si, .int en, .int w0, .int w1, .int br, .int cr, .ref ro, .ref fa, .ref wo, .ref ah, .int pf, .int (nI t), .ref he, .ref wy, .ref on_, .ref pa, .ref kr, .ref kn, .ref kh, .int kt, .int kc, .int sd, .ref sr, .ref sn, .long ha])), (rd, .inl (cA, 10, .inl g))] := hD
  refine lv_iload_n hx hb dX5_go_20 rfl (lv_at hl 0 rfl) ?_
  refine lv_tableIn (off := 149) (tgt := 170) hx hb dX5_go_21 (by decide) (by decide) rfl (by decide) ?_
  refine lv_aload_n hx hb dX5_go_170 rfl (lv_at hl 2 rfl) ?_
  refine lv_iload_n hx hb dX5_go_171 rfl (lv_at hl 1 rfl) ?_
  refine va_put (D := D) (ci := 5) (v := .int (c_ - 48)) (ty := .int) (C := RX5) (T := TX5) (N := 35) hx hb hts hiX5 tyX5 tyX5_ok nmX5 hown hK hP hD hS 0 rfl rfl 4 (by decide) (hts (.fieldLink RX5 81 "HeardSecondModel" "readPatience" "I") (by decide +kernel)) (fun _ h9 => h9) rfl (by decide +kernel) (rfl) rfl (Nat.le_of_ble_eq_true rfl) dX5_go_172 (fun H locs hP hD hS => ?_)
  have hP : va_P D vwCl [(m0, .inr (5, [.ref pg, .int (nI n), .ref rd, .int (nI rr), .int (c_ - 48), .int (nI 4), .int (nI N), .int pt, .int nw, .int ou, .int si, .int en, .int w0, .int w1, .int br, .int cr, .ref ro, .ref fa, .ref wo, .ref ah, .int pf, .int (nI t), .ref he, .ref wy, .ref on_, .ref pa, .ref kr, .ref kn, .ref kh, .int kt, .int kc, .int sd, .ref sr, .ref sn, .long ha])), (rd, .inl (cA, 10, .inl g))] H := hP
  have hD : va_D A [(m0, .inr (5, [.ref pg, .int (nI n), .ref rd, .int (nI rr), .int (c_ - 48), .int (nI 4), .int (nI N), .int pt, .int nw, .int ou, .int si, .int en, .int w0, .int w1, .int br, .int cr, .ref ro, .ref fa, .ref wo, .ref ah, .int pf, .int (nI t), .ref he, .ref wy, .ref on_, .ref pa, .ref kr, .ref kn, .ref kh, .int kt, .int kc, .int sd, .ref sr, .ref sn, .long ha])), (rd, .inl (cA, 10, .inl g))] := hD
  refine lv_iload_n hx hb dX5_go_175 rfl (lv_at hl 1 rfl) ?_
  refine lv_i2l hx hb dX5_go_176 rfl ?_
  refine lv_lconst (v := 1) hx hb dX5_go_177 (by decide) ?_
  refine lv_ldc2 (v := 9) hx hb hown (hts (.constantLong RX5 84 (9)) (by decide +kernel)) dX5_go_178 ?_
  refine z_bri (z_runS (As := [.long (Int32.toInt64 (c_ - 48)), .long 1, .long 9]) (rest := []) ⟨hx, hb, hml, hown, hts⟩ (c_X5_in (x := Int32.toInt64 (c_ - 48)) (lo := 1) (hi := 9) _) (va_cwS 3 hts gX5_go_X5_in rfl rfl rfl (by decide +kernel) ⟨Nat.le_of_ble_eq_true rfl, Nat.le_of_ble_eq_true rfl⟩) hK hP hD hN [] rfl rfl rfl hl.1 rfl (Nat.le_of_ble_eq_true rfl) dX5_go_181 ⟨Nat.zero_le _, Nat.zero_le _⟩) hP hD hS hA [] rfl (fun r_2 u_3 H locs hq_1 hP hS => ?_)
  obtain rfl : r_2 = bI (decide (1 ≤ (Int32.toInt64 (c_ - 48))) && decide ((Int32.toInt64 (c_ - 48)) ≤ 9)) := hq_1
  refine z_top (y := bI (mIn (c_ - 48) 1 9)) (z_in64 rfl rfl) ?_
  -- path 1
  exact hret (bI (mIn (c_ - 48) 1 9)) () _ _ _ _ dX5_go_184 (bI_nar _) (by rfl) hP hD hS
abbrev rm_c_X5_go4 : Room := { frames := 0, cells := 0, slots := 0, locals := 0 }
set_option maxHeartbeats 400000 in
set_option maxRecDepth 20000 in
theorem c_X5_go4 {l : Launch} {D : va_G} {cA : ClassId} {m0 : Nat} {pg : Nat} {rd : Nat} {ro : Nat} {fa : Nat} {wo : Nat} {ah : Nat} {he : Nat} {wy : Nat} {on_ : Nat} {pa : Nat} {kr : Nat} {kn : Nat} {kh : Nat} {sr : Nat} {sn : Nat} {n : Nat} {N : Nat} {t : Nat} {rpt : Int32} {pt : Int32} {nw : Int32} {ou : Int32} {si : Int32} {en : Int32} {w0 : Int32} {w1 : Int32} {br : Int32} {cr : Int32} {pf : Int32} {kt : Int32} {kc : Int32} {sd : Int32} {ha : Int64} {g : Nat → Int32} {rr : Nat} {c_ : Int32} : zMi l yX5_go wsX5_go rm_c_X5_go4 D cA [(m0, .inr (5, [.ref pg, .int (nI n), .ref rd, .int (nI rr), .int rpt, .int (nI 4), .int (nI N), .int pt, .int nw, .int ou, .int si, .int en, .int w0, .int w1, .int br, .int cr, .ref ro, .ref fa, .ref wo, .ref ah, .int pf, .int (nI t), .ref he, .ref wy, .ref on_, .ref pa, .ref kr, .ref kn, .ref kh, .int kt, .int kc, .int sd, .ref sr, .ref sn, .long ha])), (rd, .inl (cA, 10, .inl g))] [.ref m0, .int c_] (fun (r : Int32) (_ : Unit) => r = 0) (fun (_ : Unit) => [(m0, .inr (5, [.ref pg, .int (nI n), .ref rd, .int (nI rr), .int rpt, .int (nI 5), .int (nI N), .int pt, .int nw, .int ou, .int si, .int en, .int w0, .int w1, .int br, .int cr, .ref ro, .ref fa, .ref wo, .ref ah, .int pf, .int (nI t), .ref he, .ref wy, .ref on_, .ref pa, .ref kr, .ref kn, .ref kh, .int kt, .int kc, .int sd, .ref sr, .ref sn, .long ha])), (rd, .inl (cA, 10, .inl g))]) := by
  refine z_enteri (cc := cX5_go) (maxL := 4) (ty := .boolean) (by decide) rfl (Nat.le_of_ble_eq_true rfl) (fun p e s m args below meth c ls A H0 H locs Q hi_ hA hK hP hD hS hl hret => ?_)
  obtain ⟨hx, hb, hr, hml, hown, hts, hlocks, hN⟩ := hi_
  have hl : lv_has ls 4 [(0, .ref m0), (1, .int c_)] := hl
  have hiX5 : ∀ w ∈ wsX50, w ∈ wsX5_go := by decide +kernel
  refine lv_iload_n hx hb dX5_go_0 rfl (lv_at hl 1 rfl) ?_
  refine lv_bipush (v := 48) hx hb dX5_go_1 (by decide) ?_
  refine lv_isub hx hb dX5_go_3 ?_
  refine lv_istore_n (lv' := [(2, .int (c_ - 48)), (0, .ref m0), (1, .int c_)]) hx hb dX5_go_4 rfl hl (by decide) rfl (fun ls hl => ?_)
  refine lv_aload_n hx hb dX5_go_5 rfl (lv_at hl 1 rfl) ?_
  refine va_get (D := D) (ci := 5) (v := .int (nI 4)) (C := RX5) (T := TX5) (N := 35) hx hb hts hiX5 hown hK hP 0 rfl rfl 5 (by decide) (hts (.fieldLink RX5 71 "HeardSecondModel" "state" "I") (by decide +kernel)) (fun _ h9 => h9) rfl dX5_go_6 ?_
  refine lv_istore_n (lv' := [(3, .int (nI 4)), (2, .int (c_ - 48)), (0, .ref m0), (1, .int c_)]) hx hb dX5_go_9 rfl hl (by decide) rfl (fun ls hl => ?_)
  refine lv_aload_n hx hb dX5_go_10 rfl (lv_at hl 2 rfl) ?_
  refine lv_dup hx hb dX5_go_11 rfl ?_
  refine va_get (D := D) (ci := 5) (v := .int (nI 4)) (C := RX5) (T := TX5) (N := 35) hx hb hts hiX5 hown hK hP 0 rfl rfl 5 (by decide) (hts (.fieldLink RX5 71 "HeardSecondModel" "state" "I") (by decide +kernel)) (fun _ h9 => h9) rfl dX5_go_12 ?_
  refine lv_iconst (v := 1) hx hb dX5_go_15 (by decide) ?_
  refine lv_iadd hx hb dX5_go_16 ?_
  refine z_top (y := nI 5) (rfl) ?_
  refine va_put (D := D) (ci := 5) (v := .int (nI 5)) (ty := .int) (C := RX5) (T := TX5) (N := 35) hx hb hts hiX5 tyX5 tyX5_ok nmX5 hown hK hP hD hS 0 rfl rfl 5 (by decide) (hts (.fieldLink RX5 71 "HeardSecondModel" "state" "I") (by decide +kernel)) (fun _ h9 => h9) rfl (by decide +kernel) (rfl) rfl (Nat.le_of_ble_eq_true rfl) dX5_go_17 (fun H locs hP hD hS => ?_)
  have hP : va_P D vwCl [(m0, .inr (5, [.ref pg, .int (nI n), .ref rd, .int (nI rr), .int rpt, .int (nI 5), .int (nI N), .int pt, .int nw, .int ou, .int si, .int en, .int w0, .int w1, .int br, .int cr, .ref ro, .ref fa, .ref wo, .ref ah, .int pf, .int (nI t), .ref he, .ref wy, .ref on_, .ref pa, .ref kr, .ref kn, .ref kh, .int kt, .int kc, .int sd, .ref sr, .ref sn, .long ha])), (rd, .inl (cA, 10, .inl g))] H := hP
  have hD : va_D A [(m0, .inr (5, [.ref pg, .int (nI n), .ref rd, .int (nI rr), .int rpt, .int (nI 5), .int (nI N), .int pt, .int nw, .int ou, .int si, .int en, .int w0, .int w1, .int br, .int cr, .ref ro, .ref fa, .ref wo, .ref ah, .int pf, .int (nI t), .ref he, .ref wy, .ref on_, .ref pa, .ref kr, .ref kn, .ref kh, .int kt, .int kc, .int sd, .ref sr, .ref sn, .long ha])), (rd, .inl (cA, 10, .inl g))] := hD
  refine lv_iload_n hx hb dX5_go_20 rfl (lv_at hl 0 rfl) ?_
  refine lv_tableOut (tgt := 185) hx hb dX5_go_21 (by decide) (by decide) ?_
  refine lv_iconst (v := 0) hx hb dX5_go_185 (by decide) ?_
  -- path 1
  exact hret (0) () _ _ _ _ dX5_go_186 (rfl) (by rfl) hP hD hS
abbrev rm_c_X5_faultOf : Room := { frames := 2, cells := 0, slots := 0, locals := 48 }
set_option maxHeartbeats 1000000 in
set_option maxRecDepth 20000 in
theorem c_X5_faultOf {l : Launch} {D : va_G} {cA : ClassId} {m0 : Nat} {pg : Nat} {rd : Nat} {ro : Nat} {fa : Nat} {wo : Nat} {ah : Nat} {he : Nat} {wy : Nat} {on_ : Nat} {pa : Nat} {kr : Nat} {kn : Nat} {kh : Nat} {sr : Nat} {sn : Nat} {n : Nat} {N : Nat} {t : Nat} {rmy : Int32} {rpt : Int32} {sta : Int32} {pt : Int32} {nw : Int32} {ou : Int32} {si : Int32} {en : Int32} {w0 : Int32} {w1 : Int32} {br : Int32} {cr : Int32} {pf : Int32} {kt : Int32} {kc : Int32} {sd : Int32} {ha : Int64} {f : Nat → Int32} {g0 : Nat → Int32} (hn : n ≤ 18) : zMi l yX5_faultOf wsX5_faultOf rm_c_X5_faultOf D cA [(m0, .inr (5, [.ref pg, .int (nI n), .ref rd, .int rmy, .int rpt, .int sta, .int (nI N), .int pt, .int nw, .int ou, .int si, .int en, .int w0, .int w1, .int br, .int cr, .ref ro, .ref fa, .ref wo, .ref ah, .int pf, .int (nI t), .ref he, .ref wy, .ref on_, .ref pa, .ref kr, .ref kn, .ref kh, .int kt, .int kc, .int sd, .ref sr, .ref sn, .long ha])), (pg, .inl (cA, 18, .inl f)), (rd, .inl (cA, 10, .inl g0))] [.ref m0] (fun (r : Int32) (u : Int32 × Int32 × Int32 × (Nat → Int32)) => r = nI (jFF f n 0 0 0) ∧ mRead n f u.1 u.2.1 u.2.2.1 u.2.2.2) (fun (u : Int32 × Int32 × Int32 × (Nat → Int32)) => [(m0, .inr (5, [.ref pg, .int (nI n), .ref rd, .int u.1, .int u.2.1, .int u.2.2.1, .int (nI N), .int pt, .int nw, .int ou, .int si, .int en, .int w0, .int w1, .int br, .int cr, .ref ro, .ref fa, .ref wo, .ref ah, .int pf, .int (nI t), .ref he, .ref wy, .ref on_, .ref pa, .ref kr, .ref kn, .ref kh, .int kt, .int kc, .int sd, .ref sr, .ref sn, .long ha])), (pg, .inl (cA, 18, .inl f)), (rd, .inl (cA, 10, .inl u.2.2.2))]) := by
  refine z_enteri (cc := cX5_faultOf) (maxL := 2) (ty := .int) (by decide) rfl (Nat.le_of_ble_eq_true rfl) (fun p e s m args below meth c ls A H0 H locs Q hi_ hA hK hP hD hS hl hret => ?_)
  obtain ⟨hx, hb, hr, hml, hown, hts, hlocks, hN⟩ := hi_
  have hl : lv_has ls 2 [(0, .ref m0)] := hl
  have hiX5 : ∀ w ∈ wsX50, w ∈ wsX5_faultOf := by decide +kernel
  refine lv_aload_n hx hb dX5_faultOf_0 rfl (lv_at hl 0 rfl) ?_
  refine lv_iconst (v := nI 0) hx hb dX5_faultOf_1 (by decide) ?_
  refine va_put (D := D) (ci := 5) (v := .int (nI 0)) (ty := .int) (C := RX5) (T := TX5) (N := 35) hx hb hts hiX5 tyX5 tyX5_ok nmX5 hown hK hP hD hS 0 rfl rfl 3 (by decide) (hts (.fieldLink RX5 74 "HeardSecondModel" "readMany" "I") (by decide +kernel)) (fun _ h9 => h9) rfl (by decide +kernel) (rfl) rfl (Nat.le_of_ble_eq_true rfl) dX5_faultOf_2 (fun H locs hP hD hS => ?_)
  have hP : va_P D vwCl [(m0, .inr (5, [.ref pg, .int (nI n), .ref rd, .int (nI 0), .int rpt, .int sta, .int (nI N), .int pt, .int nw, .int ou, .int si, .int en, .int w0, .int w1, .int br, .int cr, .ref ro, .ref fa, .ref wo, .ref ah, .int pf, .int (nI t), .ref he, .ref wy, .ref on_, .ref pa, .ref kr, .ref kn, .ref kh, .int kt, .int kc, .int sd, .ref sr, .ref sn, .long ha])), (pg, .inl (cA, 18, .inl f)), (rd, .inl (cA, 10, .inl g0))] H := hP
  have hD : va_D A [(m0, .inr (5, [.ref pg, .int (nI n), .ref rd, .int (nI 0), .int rpt, .int sta, .int (nI N), .int pt, .int nw, .int ou, .int si, .int en, .int w0, .int w1, .int br, .int cr, .ref ro, .ref fa, .ref wo, .ref ah, .int pf, .int (nI t), .ref he, .ref wy, .ref on_, .ref pa, .ref kr, .ref kn, .ref kh, .int kt, .int kc, .int sd, .ref sr, .ref sn, .long ha])), (pg, .inl (cA, 18, .inl f)), (rd, .inl (cA, 10, .inl g0))] := hD
  refine lv_aload_n hx hb dX5_faultOf_5 rfl (lv_at hl 0 rfl) ?_
  refine lv_iconst (v := nI 0) hx hb dX5_faultOf_6 (by decide) ?_
  refine va_put (D := D) (ci := 5) (v := .int (nI 0)) (ty := .int) (C := RX5) (T := TX5) (N := 35) hx hb hts hiX5 tyX5 tyX5_ok nmX5 hown hK hP hD hS 0 rfl rfl 5 (by decide) (hts (.fieldLink RX5 71 "HeardSecondModel" "state" "I") (by decide +kernel)) (fun _ h9 => h9) rfl (by decide +kernel) (rfl) rfl (Nat.le_of_ble_eq_true rfl) dX5_faultOf_7 (fun H locs hP hD hS => ?_)
  have hP : va_P D vwCl [(m0, .inr (5, [.ref pg, .int (nI n), .ref rd, .int (nI 0), .int rpt, .int (nI 0), .int (nI N), .int pt, .int nw, .int ou, .int si, .int en, .int w0, .int w1, .int br, .int cr, .ref ro, .ref fa, .ref wo, .ref ah, .int pf, .int (nI t), .ref he, .ref wy, .ref on_, .ref pa, .ref kr, .ref kn, .ref kh, .int kt, .int kc, .int sd, .ref sr, .ref sn, .long ha])), (pg, .inl (cA, 18, .inl f)), (rd, .inl (cA, 10, .inl g0))] H := hP
  have hD : va_D A [(m0, .inr (5, [.ref pg, .int (nI n), .ref rd, .int (nI 0), .int rpt, .int (nI 0), .int (nI N), .int pt, .int nw, .int ou, .int si, .int en, .int w0, .int w1, .int br, .int cr, .ref ro, .ref fa, .ref wo, .ref ah, .int pf, .int (nI t), .ref he, .ref wy, .ref on_, .ref pa, .ref kr, .ref kn, .ref kh, .int kt, .int kc, .int sd, .ref sr, .ref sn, .long ha])), (pg, .inl (cA, 18, .inl f)), (rd, .inl (cA, 10, .inl g0))] := hD
  refine lv_iconst (v := nI 0) hx hb dX5_faultOf_10 (by decide) ?_
  refine lv_istore_n (lv' := [(1, .int (nI 0)), (0, .ref m0)]) hx hb dX5_faultOf_11 rfl hl (by decide) rfl (fun ls hl => ?_)
  have L12 : ∀ (n_ : Nat) (k : Nat) (d : Nat) (r : Nat) (rp : Int32) (g : Nat → Int32) (hm_ : n + 1 ≤ k + n_) (hk_ : k ≤ n) (hd : d ≤ 4) (hv : mInv f n k d r rp g) (H : Heap) (locs : List Loc) (ls : Array Slot), va_P D vwCl [(m0, .inr (5, [.ref pg, .int (nI n), .ref rd, .int (nI r), .int rp, .int (nI d), .int (nI N), .int pt, .int nw, .int ou, .int si, .int en, .int w0, .int w1, .int br, .int cr, .ref ro, .ref fa, .ref wo, .ref ah, .int pf, .int (nI t), .ref he, .ref wy, .ref on_, .ref pa, .ref kr, .ref kn, .ref kh, .int kt, .int kc, .int sd, .ref sr, .ref sn, .long ha])), (pg, .inl (cA, 18, .inl f)), (rd, .inl (cA, 10, .inl g))] H → va_D A [(m0, .inr (5, [.ref pg, .int (nI n), .ref rd, .int (nI r), .int rp, .int (nI d), .int (nI N), .int pt, .int nw, .int ou, .int si, .int en, .int w0, .int w1, .int br, .int cr, .ref ro, .ref fa, .ref wo, .ref ah, .int pf, .int (nI t), .ref he, .ref wy, .ref on_, .ref pa, .ref kr, .ref kn, .ref kh, .int kt, .int kc, .int sd, .ref sr, .ref sn, .long ha])), (pg, .inl (cA, 18, .inl f)), (rd, .inl (cA, 10, .inl g))] → va_S A H0 H locs → lv_has ls 2 [(0, .ref m0), (1, .int (nI k))] → W p l e rm_c_X5_faultOf s m args below meth c H locs 0 0 Q (F0 m 12 ls []) := by
    intro n_
    induction n_ with
    | zero =>
      intro k d r rp g hm_ hk_ hd hv
      exact absurd hm_ (by omega)
    | succ n_ ih_ =>
      intro k d r rp g hm_ hk_ hd hv H locs ls hP hD hS hl
      have ih1 := ih_
      clear ih_
      refine lv_iload_n hx hb dX5_faultOf_12 rfl (lv_at hl 1 rfl) ?_
      refine lv_aload_n hx hb dX5_faultOf_13 rfl (lv_at hl 0 rfl) ?_
      refine va_get (D := D) (ci := 5) (v := .int (nI n)) (C := RX5) (T := TX5) (N := 35) hx hb hts hiX5 hown hK hP 0 rfl rfl 1 (by decide) (hts (.fieldLink RX5 68 "HeardSecondModel" "pageMany" "I") (by decide +kernel)) (fun _ h9 => h9) rfl dX5_faultOf_14 ?_
      refine lv_icmp_ge (tgt := 39) hx hb dX5_faultOf_17 (by decide) (fun c17_2 => ?_) (fun c17_2 => ?_)
      · skip
        have ht_ : k = n := by have := (nI_leI (a := n) (b := k) (by omega) (by omega)).mp c17_2; omega
        refine lv_iload_n hx hb dX5_faultOf_39 rfl (lv_at hl 1 rfl) ?_
        -- path 1
        exact hret (nI k) (nI r, (rp, (nI d, g))) _ _ _ _ dX5_faultOf_40 (rfl) (by clear hret hl hS hD hP hK hA hN hts hx hb hr hml hown hlocks hiX5 ih1; first | (have hk2 : k = n := ht_; subst hk2; exact ⟨by rw [hv.2.2.2.1, Nat.sub_self]; rfl, mDone hv⟩) | (have hrj : jFF f n 0 0 0 = k := mRej hv hltk (fun s_ hs_ => by first | exact mNo0 (by assumption) | exact mNo1 (by assumption) | exact mNo2 hv.2.1 (hs_.resolve_right (by decide)) (by assumption) | exact mNo3 (by assumption) | exact mNo4); exact ⟨by rw [hrj], mRead_no hrj hltk⟩)) hP hD hS
      · skip
        have hltk : k < n := Nat.lt_of_not_le (fun q_ => c17_2 ((nI_leI (a := n) (b := k) (by omega) (by omega)).mpr q_))
        refine lv_aload_n hx hb dX5_faultOf_20 rfl (lv_at hl 0 rfl) ?_
        refine lv_aload_n hx hb dX5_faultOf_21 rfl (lv_at hl 0 rfl) ?_
        refine va_get (D := D) (ci := 5) (v := .ref pg) (C := RX5) (T := TX5) (N := 35) hx hb hts hiX5 hown hK hP 0 rfl rfl 0 (by decide) (hts (.fieldLink RX5 7 "HeardSecondModel" "page" "[I") (by decide +kernel)) (fun _ h9 => h9) rfl dX5_faultOf_22 ?_
        refine lv_iload_n hx hb dX5_faultOf_25 rfl (lv_at hl 1 rfl) ?_
        refine va_iald hx hb hK hP 1 0 rfl rfl (z_inN (by omega) (by decide)) dX5_faultOf_26 ?_
        refine z_top (y := f k) (by rw [z_nat (by omega)]) ?_
        rcases (show d = 0 ∨ d = 1 ∨ d = 2 ∨ d = 3 ∨ d = 4 by omega) with rfl | rfl | rfl | rfl | rfl
        · skip
          refine z_bwi (wr := [(pg, .inl (cA, 18, .inl f))]) (ws' := fun (_ : Unit) => [(m0, .inr (5, [.ref pg, .int (nI n), .ref rd, .int (nI r), .int rp, .int (nI 1), .int (nI N), .int pt, .int nw, .int ou, .int si, .int en, .int w0, .int w1, .int br, .int cr, .ref ro, .ref fa, .ref wo, .ref ah, .int pf, .int (nI t), .ref he, .ref wy, .ref on_, .ref pa, .ref kr, .ref kn, .ref kh, .int kt, .int kc, .int sd, .ref sr, .ref sn, .long ha])), (pg, .inl (cA, 18, .inl f)), (rd, .inl (cA, 10, .inl (upd g (2 * r) (jKindOf (f k)))))]) (z_runV (As := [.int (f k)]) (rest := []) (ci := 5) ⟨hx, hb, hml, hown, hts⟩ (c_X5_go0 (m0 := m0) (pg := pg) (rd := rd) (ro := ro) (fa := fa) (wo := wo) (ah := ah) (he := he) (wy := wy) (on_ := on_) (pa := pa) (kr := kr) (kn := kn) (kh := kh) (sr := sr) (sn := sn) (n := n) (N := N) (t := t) (rpt := rp) (pt := pt) (nw := nw) (ou := ou) (si := si) (en := en) (w0 := w0) (w1 := w1) (br := br) (cr := cr) (pf := pf) (kt := kt) (kc := kc) (sd := sd) (ha := ha) (g := g) (rr := r) (c_ := f k) (by have h1_ := hv.2.1; have h2_ := hv.2.2.1; omega) _) (cwV 1 hts gX5_faultOf_X5_go rfl rfl rfl (by decide +kernel) ⟨Nat.le_of_ble_eq_true rfl, Nat.le_of_ble_eq_true rfl⟩) hK hP hD hN [0, 2] rfl rfl rfl rfl rfl hl.1 rfl (Nat.le_of_ble_eq_true rfl) dX5_faultOf_27 ⟨Nat.zero_le _, Nat.zero_le _⟩) hP hD hS hA [0, 2] [1] [1, 0, 2] rfl rfl rfl (by decide) rfl (fun _ => rfl) (fun r_4 u_5 H locs hq_3 hP hD hS => ?_)
          obtain rfl : r_4 = bI (!decide (jKindOf (f k) = -1)) := hq_3
          have hP : va_P D vwCl [(m0, .inr (5, [.ref pg, .int (nI n), .ref rd, .int (nI r), .int rp, .int (nI 1), .int (nI N), .int pt, .int nw, .int ou, .int si, .int en, .int w0, .int w1, .int br, .int cr, .ref ro, .ref fa, .ref wo, .ref ah, .int pf, .int (nI t), .ref he, .ref wy, .ref on_, .ref pa, .ref kr, .ref kn, .ref kh, .int kt, .int kc, .int sd, .ref sr, .ref sn, .long ha])), (pg, .inl (cA, 18, .inl f)), (rd, .inl (cA, 10, .inl (upd g (2 * r) (jKindOf (f k)))))] H := hP
          have hD : va_D A [(m0, .inr (5, [.ref pg, .int (nI n), .ref rd, .int (nI r), .int rp, .int (nI 1), .int (nI N), .int pt, .int nw, .int ou, .int si, .int en, .int w0, .int w1, .int br, .int cr, .ref ro, .ref fa, .ref wo, .ref ah, .int pf, .int (nI t), .ref he, .ref wy, .ref on_, .ref pa, .ref kr, .ref kn, .ref kh, .int kt, .int kc, .int sd, .ref sr, .ref sn, .long ha])), (pg, .inl (cA, 18, .inl f)), (rd, .inl (cA, 10, .inl (upd g (2 * r) (jKindOf (f k)))))] := hD
          refine lv_if_eq (tgt := 39) hx hb dX5_faultOf_30 (by decide) (fun c30_6 => ?_) (fun c30_6 => ?_)
          · skip
            have c30_6 := bI_0.mp c30_6
            refine lv_iload_n hx hb dX5_faultOf_39 rfl (lv_at hl 1 rfl) ?_
            -- path 2
            exact hret (nI k) (nI r, (rp, (nI 1, upd g (2 * r) (jKindOf (f k))))) _ _ _ _ dX5_faultOf_40 (rfl) (by clear hret hl hS hD hP hK hA hN hts hx hb hr hml hown hlocks hiX5 ih1; first | (have hk2 : k = n := ht_; subst hk2; exact ⟨by rw [hv.2.2.2.1, Nat.sub_self]; rfl, mDone hv⟩) | (have hrj : jFF f n 0 0 0 = k := mRej hv hltk (fun s_ hs_ => by first | exact mNo0 (by assumption) | exact mNo1 (by assumption) | exact mNo2 hv.2.1 (hs_.resolve_right (by decide)) (by assumption) | exact mNo3 (by assumption) | exact mNo4); exact ⟨by rw [hrj], mRead_no hrj hltk⟩)) hP hD hS
          · skip
            have c30_6 := bI_n0.mp c30_6
            refine lv_iinc (v := nI (k + 1)) (lv' := [(1, .int (nI (k + 1))), (0, .ref m0)]) hx hb dX5_faultOf_33 hl (k := 1) rfl (nI_1 k) (by decide) rfl (fun ls hl => ?_)
            refine lv_goto (tgt := 12) hx hb dX5_faultOf_36 (by decide) ?_
            exact ih1 (k + 1) 1 r rp (upd g (2 * r) (jKindOf (f k))) (by omega) (by first | assumption | omega) (by clear hret hl hS hD hP hK hA hN hts hx hb hr hml hown hlocks hiX5 ih1; first | omega | (split <;> omega)) (by clear hret hl hS hD hP hK hA hN hts hx hb hr hml hown hlocks hiX5 ih1; exact mAcc0 hv hltk (fun q_ => by simp_all)) _ _ _ hP hD hS (lv_sub hl [1, 0] rfl)
        · skip
          refine z_bwi (wr := [(pg, .inl (cA, 18, .inl f))]) (ws' := fun (_ : Unit) => [(m0, .inr (5, [.ref pg, .int (nI n), .ref rd, .int (nI (r + 1)), .int rp, .int (nI 2), .int (nI N), .int pt, .int nw, .int ou, .int si, .int en, .int w0, .int w1, .int br, .int cr, .ref ro, .ref fa, .ref wo, .ref ah, .int pf, .int (nI t), .ref he, .ref wy, .ref on_, .ref pa, .ref kr, .ref kn, .ref kh, .int kt, .int kc, .int sd, .ref sr, .ref sn, .long ha])), (pg, .inl (cA, 18, .inl f)), (rd, .inl (cA, 10, .inl (upd g (2 * r + 1) ((f k) - 48))))]) (z_runV (As := [.int (f k)]) (rest := []) (ci := 5) ⟨hx, hb, hml, hown, hts⟩ (c_X5_go1 (m0 := m0) (pg := pg) (rd := rd) (ro := ro) (fa := fa) (wo := wo) (ah := ah) (he := he) (wy := wy) (on_ := on_) (pa := pa) (kr := kr) (kn := kn) (kh := kh) (sr := sr) (sn := sn) (n := n) (N := N) (t := t) (rpt := rp) (pt := pt) (nw := nw) (ou := ou) (si := si) (en := en) (w0 := w0) (w1 := w1) (br := br) (cr := cr) (pf := pf) (kt := kt) (kc := kc) (sd := sd) (ha := ha) (g := g) (rr := r) (c_ := f k) (by have h1_ := hv.2.1; have h2_ := hv.2.2.1; omega) _) (cwV 1 hts gX5_faultOf_X5_go rfl rfl rfl (by decide +kernel) ⟨Nat.le_of_ble_eq_true rfl, Nat.le_of_ble_eq_true rfl⟩) hK hP hD hN [0, 2] rfl rfl rfl rfl rfl hl.1 rfl (Nat.le_of_ble_eq_true rfl) dX5_faultOf_27 ⟨Nat.zero_le _, Nat.zero_le _⟩) hP hD hS hA [0, 2] [1] [1, 0, 2] rfl rfl rfl (by decide) rfl (fun _ => rfl) (fun r_8 u_9 H locs hq_7 hP hD hS => ?_)
          obtain rfl : r_8 = bI (mIn ((f k) - 48) 0 1) := hq_7
          have hP : va_P D vwCl [(m0, .inr (5, [.ref pg, .int (nI n), .ref rd, .int (nI (r + 1)), .int rp, .int (nI 2), .int (nI N), .int pt, .int nw, .int ou, .int si, .int en, .int w0, .int w1, .int br, .int cr, .ref ro, .ref fa, .ref wo, .ref ah, .int pf, .int (nI t), .ref he, .ref wy, .ref on_, .ref pa, .ref kr, .ref kn, .ref kh, .int kt, .int kc, .int sd, .ref sr, .ref sn, .long ha])), (pg, .inl (cA, 18, .inl f)), (rd, .inl (cA, 10, .inl (upd g (2 * r + 1) ((f k) - 48))))] H := hP
          have hD : va_D A [(m0, .inr (5, [.ref pg, .int (nI n), .ref rd, .int (nI (r + 1)), .int rp, .int (nI 2), .int (nI N), .int pt, .int nw, .int ou, .int si, .int en, .int w0, .int w1, .int br, .int cr, .ref ro, .ref fa, .ref wo, .ref ah, .int pf, .int (nI t), .ref he, .ref wy, .ref on_, .ref pa, .ref kr, .ref kn, .ref kh, .int kt, .int kc, .int sd, .ref sr, .ref sn, .long ha])), (pg, .inl (cA, 18, .inl f)), (rd, .inl (cA, 10, .inl (upd g (2 * r + 1) ((f k) - 48))))] := hD
          refine lv_if_eq (tgt := 39) hx hb dX5_faultOf_30 (by decide) (fun c30_10 => ?_) (fun c30_10 => ?_)
          · skip
            have c30_10 := bI_0.mp c30_10
            refine lv_iload_n hx hb dX5_faultOf_39 rfl (lv_at hl 1 rfl) ?_
            -- path 3
            exact hret (nI k) (nI (r + 1), (rp, (nI 2, upd g (2 * r + 1) ((f k) - 48)))) _ _ _ _ dX5_faultOf_40 (rfl) (by clear hret hl hS hD hP hK hA hN hts hx hb hr hml hown hlocks hiX5 ih1; first | (have hk2 : k = n := ht_; subst hk2; exact ⟨by rw [hv.2.2.2.1, Nat.sub_self]; rfl, mDone hv⟩) | (have hrj : jFF f n 0 0 0 = k := mRej hv hltk (fun s_ hs_ => by first | exact mNo0 (by assumption) | exact mNo1 (by assumption) | exact mNo2 hv.2.1 (hs_.resolve_right (by decide)) (by assumption) | exact mNo3 (by assumption) | exact mNo4); exact ⟨by rw [hrj], mRead_no hrj hltk⟩)) hP hD hS
          · skip
            have c30_10 := bI_n0.mp c30_10
            refine lv_iinc (v := nI (k + 1)) (lv' := [(1, .int (nI (k + 1))), (0, .ref m0)]) hx hb dX5_faultOf_33 hl (k := 1) rfl (nI_1 k) (by decide) rfl (fun ls hl => ?_)
            refine lv_goto (tgt := 12) hx hb dX5_faultOf_36 (by decide) ?_
            exact ih1 (k + 1) 2 (r + 1) rp (upd g (2 * r + 1) ((f k) - 48)) (by omega) (by first | assumption | omega) (by clear hret hl hS hD hP hK hA hN hts hx hb hr hml hown hlocks hiX5 ih1; first | omega | (split <;> omega)) (by clear hret hl hS hD hP hK hA hN hts hx hb hr hml hown hlocks hiX5 ih1; exact mAcc1 hv hltk (mIn01 (by assumption))) _ _ _ hP hD hS (lv_sub hl [1, 0] rfl)
        · skip
          refine z_bwi (wr := [(pg, .inl (cA, 18, .inl f))]) (ws' := fun (_ : Unit) => [(m0, .inr (5, [.ref pg, .int (nI n), .ref rd, .int (nI r), .int rp, .int (nI (if (f k) = 44 then 0 else 3)), .int (nI N), .int pt, .int nw, .int ou, .int si, .int en, .int w0, .int w1, .int br, .int cr, .ref ro, .ref fa, .ref wo, .ref ah, .int pf, .int (nI t), .ref he, .ref wy, .ref on_, .ref pa, .ref kr, .ref kn, .ref kh, .int kt, .int kc, .int sd, .ref sr, .ref sn, .long ha])), (pg, .inl (cA, 18, .inl f)), (rd, .inl (cA, 10, .inl g))]) (z_runV (As := [.int (f k)]) (rest := []) (ci := 5) ⟨hx, hb, hml, hown, hts⟩ (c_X5_go2 (m0 := m0) (pg := pg) (rd := rd) (ro := ro) (fa := fa) (wo := wo) (ah := ah) (he := he) (wy := wy) (on_ := on_) (pa := pa) (kr := kr) (kn := kn) (kh := kh) (sr := sr) (sn := sn) (n := n) (N := N) (t := t) (rpt := rp) (pt := pt) (nw := nw) (ou := ou) (si := si) (en := en) (w0 := w0) (w1 := w1) (br := br) (cr := cr) (pf := pf) (kt := kt) (kc := kc) (sd := sd) (ha := ha) (g := g) (rr := r) (c_ := f k) (by have h1_ := hv.2.1; have h2_ := hv.2.2.1; omega) _) (cwV 1 hts gX5_faultOf_X5_go rfl rfl rfl (by decide +kernel) ⟨Nat.le_of_ble_eq_true rfl, Nat.le_of_ble_eq_true rfl⟩) hK hP hD hN [0, 2] rfl rfl rfl rfl rfl hl.1 rfl (Nat.le_of_ble_eq_true rfl) dX5_faultOf_27 ⟨Nat.zero_le _, Nat.zero_le _⟩) hP hD hS hA [0, 2] [1] [1, 0, 2] rfl rfl rfl (by decide) rfl (fun _ => rfl) (fun r_12 u_13 H locs hq_11 hP hD hS => ?_)
          obtain rfl : r_12 = bI (if (f k) = 44 then decide (r < 5) else decide ((f k) = 59) && decide (1 < r)) := hq_11
          have hP : va_P D vwCl [(m0, .inr (5, [.ref pg, .int (nI n), .ref rd, .int (nI r), .int rp, .int (nI (if (f k) = 44 then 0 else 3)), .int (nI N), .int pt, .int nw, .int ou, .int si, .int en, .int w0, .int w1, .int br, .int cr, .ref ro, .ref fa, .ref wo, .ref ah, .int pf, .int (nI t), .ref he, .ref wy, .ref on_, .ref pa, .ref kr, .ref kn, .ref kh, .int kt, .int kc, .int sd, .ref sr, .ref sn, .long ha])), (pg, .inl (cA, 18, .inl f)), (rd, .inl (cA, 10, .inl g))] H := hP
          have hD : va_D A [(m0, .inr (5, [.ref pg, .int (nI n), .ref rd, .int (nI r), .int rp, .int (nI (if (f k) = 44 then 0 else 3)), .int (nI N), .int pt, .int nw, .int ou, .int si, .int en, .int w0, .int w1, .int br, .int cr, .ref ro, .ref fa, .ref wo, .ref ah, .int pf, .int (nI t), .ref he, .ref wy, .ref on_, .ref pa, .ref kr, .ref kn, .ref kh, .int kt, .int kc, .int sd, .ref sr, .ref sn, .long ha])), (pg, .inl (cA, 18, .inl f)), (rd, .inl (cA, 10, .inl g))] := hD
          refine lv_if_eq (tgt := 39) hx hb dX5_faultOf_30 (by decide) (fun c30_14 => ?_) (fun c30_14 => ?_)
          · skip
            have c30_14 := bI_0.mp c30_14
            refine lv_iload_n hx hb dX5_faultOf_39 rfl (lv_at hl 1 rfl) ?_
            -- path 4
            exact hret (nI k) (nI r, (rp, (nI (if (f k) = 44 then 0 else 3), g))) _ _ _ _ dX5_faultOf_40 (rfl) (by clear hret hl hS hD hP hK hA hN hts hx hb hr hml hown hlocks hiX5 ih1; first | (have hk2 : k = n := ht_; subst hk2; exact ⟨by rw [hv.2.2.2.1, Nat.sub_self]; rfl, mDone hv⟩) | (have hrj : jFF f n 0 0 0 = k := mRej hv hltk (fun s_ hs_ => by first | exact mNo0 (by assumption) | exact mNo1 (by assumption) | exact mNo2 hv.2.1 (hs_.resolve_right (by decide)) (by assumption) | exact mNo3 (by assumption) | exact mNo4); exact ⟨by rw [hrj], mRead_no hrj hltk⟩)) hP hD hS
          · skip
            have c30_14 := bI_n0.mp c30_14
            refine lv_iinc (v := nI (k + 1)) (lv' := [(1, .int (nI (k + 1))), (0, .ref m0)]) hx hb dX5_faultOf_33 hl (k := 1) rfl (nI_1 k) (by decide) rfl (fun ls hl => ?_)
            refine lv_goto (tgt := 12) hx hb dX5_faultOf_36 (by decide) ?_
            exact ih1 (k + 1) (if f k = 44 then 0 else 3) r rp g (by omega) (by first | assumption | omega) (by clear hret hl hS hD hP hK hA hN hts hx hb hr hml hown hlocks hiX5 ih1; first | omega | (split <;> omega)) (by clear hret hl hS hD hP hK hA hN hts hx hb hr hml hown hlocks hiX5 ih1; exact mAcc2 hv hltk (by assumption)) _ _ _ hP hD hS (lv_sub hl [1, 0] rfl)
        · skip
          refine z_bwi (wr := [(pg, .inl (cA, 18, .inl f))]) (ws' := fun (_ : Unit) => [(m0, .inr (5, [.ref pg, .int (nI n), .ref rd, .int (nI r), .int ((f k) - 48), .int (nI 4), .int (nI N), .int pt, .int nw, .int ou, .int si, .int en, .int w0, .int w1, .int br, .int cr, .ref ro, .ref fa, .ref wo, .ref ah, .int pf, .int (nI t), .ref he, .ref wy, .ref on_, .ref pa, .ref kr, .ref kn, .ref kh, .int kt, .int kc, .int sd, .ref sr, .ref sn, .long ha])), (pg, .inl (cA, 18, .inl f)), (rd, .inl (cA, 10, .inl g))]) (z_runV (As := [.int (f k)]) (rest := []) (ci := 5) ⟨hx, hb, hml, hown, hts⟩ (c_X5_go3 (m0 := m0) (pg := pg) (rd := rd) (ro := ro) (fa := fa) (wo := wo) (ah := ah) (he := he) (wy := wy) (on_ := on_) (pa := pa) (kr := kr) (kn := kn) (kh := kh) (sr := sr) (sn := sn) (n := n) (N := N) (t := t) (rpt := rp) (pt := pt) (nw := nw) (ou := ou) (si := si) (en := en) (w0 := w0) (w1 := w1) (br := br) (cr := cr) (pf := pf) (kt := kt) (kc := kc) (sd := sd) (ha := ha) (g := g) (rr := r) (c_ := f k) _) (cwV 1 hts gX5_faultOf_X5_go rfl rfl rfl (by decide +kernel) ⟨Nat.le_of_ble_eq_true rfl, Nat.le_of_ble_eq_true rfl⟩) hK hP hD hN [0, 2] rfl rfl rfl rfl rfl hl.1 rfl (Nat.le_of_ble_eq_true rfl) dX5_faultOf_27 ⟨Nat.zero_le _, Nat.zero_le _⟩) hP hD hS hA [0, 2] [1] [1, 0, 2] rfl rfl rfl (by decide) rfl (fun _ => rfl) (fun r_16 u_17 H locs hq_15 hP hD hS => ?_)
          obtain rfl : r_16 = bI (mIn ((f k) - 48) 1 9) := hq_15
          have hP : va_P D vwCl [(m0, .inr (5, [.ref pg, .int (nI n), .ref rd, .int (nI r), .int ((f k) - 48), .int (nI 4), .int (nI N), .int pt, .int nw, .int ou, .int si, .int en, .int w0, .int w1, .int br, .int cr, .ref ro, .ref fa, .ref wo, .ref ah, .int pf, .int (nI t), .ref he, .ref wy, .ref on_, .ref pa, .ref kr, .ref kn, .ref kh, .int kt, .int kc, .int sd, .ref sr, .ref sn, .long ha])), (pg, .inl (cA, 18, .inl f)), (rd, .inl (cA, 10, .inl g))] H := hP
          have hD : va_D A [(m0, .inr (5, [.ref pg, .int (nI n), .ref rd, .int (nI r), .int ((f k) - 48), .int (nI 4), .int (nI N), .int pt, .int nw, .int ou, .int si, .int en, .int w0, .int w1, .int br, .int cr, .ref ro, .ref fa, .ref wo, .ref ah, .int pf, .int (nI t), .ref he, .ref wy, .ref on_, .ref pa, .ref kr, .ref kn, .ref kh, .int kt, .int kc, .int sd, .ref sr, .ref sn, .long ha])), (pg, .inl (cA, 18, .inl f)), (rd, .inl (cA, 10, .inl g))] := hD
          refine lv_if_eq (tgt := 39) hx hb dX5_faultOf_30 (by decide) (fun c30_18 => ?_) (fun c30_18 => ?_)
          · skip
            have c30_18 := bI_0.mp c30_18
            refine lv_iload_n hx hb dX5_faultOf_39 rfl (lv_at hl 1 rfl) ?_
            -- path 5
            exact hret (nI k) (nI r, ((f k) - 48, (nI 4, g))) _ _ _ _ dX5_faultOf_40 (rfl) (by clear hret hl hS hD hP hK hA hN hts hx hb hr hml hown hlocks hiX5 ih1; first | (have hk2 : k = n := ht_; subst hk2; exact ⟨by rw [hv.2.2.2.1, Nat.sub_self]; rfl, mDone hv⟩) | (have hrj : jFF f n 0 0 0 = k := mRej hv hltk (fun s_ hs_ => by first | exact mNo0 (by assumption) | exact mNo1 (by assumption) | exact mNo2 hv.2.1 (hs_.resolve_right (by decide)) (by assumption) | exact mNo3 (by assumption) | exact mNo4); exact ⟨by rw [hrj], mRead_no hrj hltk⟩)) hP hD hS
          · skip
            have c30_18 := bI_n0.mp c30_18
            refine lv_iinc (v := nI (k + 1)) (lv' := [(1, .int (nI (k + 1))), (0, .ref m0)]) hx hb dX5_faultOf_33 hl (k := 1) rfl (nI_1 k) (by decide) rfl (fun ls hl => ?_)
            refine lv_goto (tgt := 12) hx hb dX5_faultOf_36 (by decide) ?_
            exact ih1 (k + 1) 4 r ((f k) - 48) g (by omega) (by first | assumption | omega) (by clear hret hl hS hD hP hK hA hN hts hx hb hr hml hown hlocks hiX5 ih1; first | omega | (split <;> omega)) (by clear hret hl hS hD hP hK hA hN hts hx hb hr hml hown hlocks hiX5 ih1; exact mAcc3 hv hltk (mIn19 (by assumption))) _ _ _ hP hD hS (lv_sub hl [1, 0] rfl)
        · skip
          refine z_bwi (wr := [(pg, .inl (cA, 18, .inl f))]) (ws' := fun (_ : Unit) => [(m0, .inr (5, [.ref pg, .int (nI n), .ref rd, .int (nI r), .int rp, .int (nI 5), .int (nI N), .int pt, .int nw, .int ou, .int si, .int en, .int w0, .int w1, .int br, .int cr, .ref ro, .ref fa, .ref wo, .ref ah, .int pf, .int (nI t), .ref he, .ref wy, .ref on_, .ref pa, .ref kr, .ref kn, .ref kh, .int kt, .int kc, .int sd, .ref sr, .ref sn, .long ha])), (pg, .inl (cA, 18, .inl f)), (rd, .inl (cA, 10, .inl g))]) (z_runV (As := [.int (f k)]) (rest := []) (ci := 5) ⟨hx, hb, hml, hown, hts⟩ (c_X5_go4 (m0 := m0) (pg := pg) (rd := rd) (ro := ro) (fa := fa) (wo := wo) (ah := ah) (he := he) (wy := wy) (on_ := on_) (pa := pa) (kr := kr) (kn := kn) (kh := kh) (sr := sr) (sn := sn) (n := n) (N := N) (t := t) (rpt := rp) (pt := pt) (nw := nw) (ou := ou) (si := si) (en := en) (w0 := w0) (w1 := w1) (br := br) (cr := cr) (pf := pf) (kt := kt) (kc := kc) (sd := sd) (ha := ha) (g := g) (rr := r) (c_ := f k) _) (cwV 1 hts gX5_faultOf_X5_go rfl rfl rfl (by decide +kernel) ⟨Nat.le_of_ble_eq_true rfl, Nat.le_of_ble_eq_true rfl⟩) hK hP hD hN [0, 2] rfl rfl rfl rfl rfl hl.1 rfl (Nat.le_of_ble_eq_true rfl) dX5_faultOf_27 ⟨Nat.zero_le _, Nat.zero_le _⟩) hP hD hS hA [0, 2] [1] [1, 0, 2] rfl rfl rfl (by decide) rfl (fun _ => rfl) (fun r_20 u_21 H locs hq_19 hP hD hS => ?_)
          obtain rfl : r_20 = 0 := hq_19
          have hP : va_P D vwCl [(m0, .inr (5, [.ref pg, .int (nI n), .ref rd, .int (nI r), .int rp, .int (nI 5), .int (nI N), .int pt, .int nw, .int ou, .int si, .int en, .int w0, .int w1, .int br, .int cr, .ref ro, .ref fa, .ref wo, .ref ah, .int pf, .int (nI t), .ref he, .ref wy, .ref on_, .ref pa, .ref kr, .ref kn, .ref kh, .int kt, .int kc, .int sd, .ref sr, .ref sn, .long ha])), (pg, .inl (cA, 18, .inl f)), (rd, .inl (cA, 10, .inl g))] H := hP
          have hD : va_D A [(m0, .inr (5, [.ref pg, .int (nI n), .ref rd, .int (nI r), .int rp, .int (nI 5), .int (nI N), .int pt, .int nw, .int ou, .int si, .int en, .int w0, .int w1, .int br, .int cr, .ref ro, .ref fa, .ref wo, .ref ah, .int pf, .int (nI t), .ref he, .ref wy, .ref on_, .ref pa, .ref kr, .ref kn, .ref kh, .int kt, .int kc, .int sd, .ref sr, .ref sn, .long ha])), (pg, .inl (cA, 18, .inl f)), (rd, .inl (cA, 10, .inl g))] := hD
          refine lv_if_eq (tgt := 39) hx hb dX5_faultOf_30 (by decide) (fun c30_22 => ?_) (fun c30_22 => ?_)
          · skip
            refine lv_iload_n hx hb dX5_faultOf_39 rfl (lv_at hl 1 rfl) ?_
            -- path 6
            exact hret (nI k) (nI r, (rp, (nI 5, g))) _ _ _ _ dX5_faultOf_40 (rfl) (by clear hret hl hS hD hP hK hA hN hts hx hb hr hml hown hlocks hiX5 ih1; first | (have hk2 : k = n := ht_; subst hk2; exact ⟨by rw [hv.2.2.2.1, Nat.sub_self]; rfl, mDone hv⟩) | (have hrj : jFF f n 0 0 0 = k := mRej hv hltk (fun s_ hs_ => by first | exact mNo0 (by assumption) | exact mNo1 (by assumption) | exact mNo2 hv.2.1 (hs_.resolve_right (by decide)) (by assumption) | exact mNo3 (by assumption) | exact mNo4); exact ⟨by rw [hrj], mRead_no hrj hltk⟩)) hP hD hS
          · skip
            exact absurd (by decide) c30_22
  exact L12 (n + 1) 0 0 0 rpt g0 (by omega) (by first | assumption | omega) (by first | assumption | omega) (by clear hret hl hS hD hP hK hA hN hts hx hb hr hml hown hlocks hiX5 L12; exact mInv_0 f n rpt g0) _ _ _ hP hD hS (lv_sub hl [1, 0] rfl)
abbrev rm_c_X5_fault : Room := { frames := 3, cells := 0, slots := 0, locals := 69 }
set_option maxHeartbeats 400000 in
set_option maxRecDepth 20000 in
theorem c_X5_fault {l : Launch} {D : va_G} {cA : ClassId} {m0 : Nat} {pg : Nat} {rd : Nat} {ro : Nat} {fa : Nat} {wo : Nat} {ah : Nat} {he : Nat} {wy : Nat} {on_ : Nat} {pa : Nat} {kr : Nat} {kn : Nat} {kh : Nat} {sr : Nat} {sn : Nat} {n : Nat} {N : Nat} {t : Nat} {rmy : Int32} {rpt : Int32} {sta : Int32} {pt : Int32} {nw : Int32} {ou : Int32} {si : Int32} {en : Int32} {w0 : Int32} {w1 : Int32} {br : Int32} {cr : Int32} {pf : Int32} {kt : Int32} {kc : Int32} {sd : Int32} {ha : Int64} {f : Nat → Int32} {g0 : Nat → Int32} (hn : n ≤ 18) : zMi l yX5_fault wsX5_fault rm_c_X5_fault D cA [(m0, .inr (5, [.ref pg, .int (nI n), .ref rd, .int rmy, .int rpt, .int sta, .int (nI N), .int pt, .int nw, .int ou, .int si, .int en, .int w0, .int w1, .int br, .int cr, .ref ro, .ref fa, .ref wo, .ref ah, .int pf, .int (nI t), .ref he, .ref wy, .ref on_, .ref pa, .ref kr, .ref kn, .ref kh, .int kt, .int kc, .int sd, .ref sr, .ref sn, .long ha])), (pg, .inl (cA, 18, .inl f)), (rd, .inl (cA, 10, .inl g0))] [.ref m0] (fun (r : Int32) (u : Int32 × Int32 × Int32 × (Nat → Int32)) => r = nI (jFF f n 0 0 0)) (fun (u : Int32 × Int32 × Int32 × (Nat → Int32)) => [(m0, .inr (5, [.ref pg, .int (nI n), .ref rd, .int u.1, .int u.2.1, .int u.2.2.1, .int (nI N), .int pt, .int nw, .int ou, .int si, .int en, .int w0, .int w1, .int br, .int cr, .ref ro, .ref fa, .ref wo, .ref ah, .int pf, .int (nI t), .ref he, .ref wy, .ref on_, .ref pa, .ref kr, .ref kn, .ref kh, .int kt, .int kc, .int sd, .ref sr, .ref sn, .long ha])), (pg, .inl (cA, 18, .inl f)), (rd, .inl (cA, 10, .inl u.2.2.2))]) := by
  refine z_enteri (cc := cX5_fault) (maxL := 1) (ty := .int) (by decide) rfl (Nat.le_of_ble_eq_true rfl) (fun p e s m args below meth c ls A H0 H locs Q hi_ hA hK hP hD hS hl hret => ?_)
  obtain ⟨hx, hb, hr, hml, hown, hts, hlocks, hN⟩ := hi_
  have hl : lv_has ls 1 [(0, .ref m0)] := hl
  refine lv_aload_n hx hb dX5_fault_0 rfl (lv_at hl 0 rfl) ?_
  refine z_bwi (wr := []) (ws' := fun u_3 => [(m0, .inr (5, [.ref pg, .int (nI n), .ref rd, .int u_3.1, .int u_3.2.1, .int u_3.2.2.1, .int (nI N), .int pt, .int nw, .int ou, .int si, .int en, .int w0, .int w1, .int br, .int cr, .ref ro, .ref fa, .ref wo, .ref ah, .int pf, .int (nI t), .ref he, .ref wy, .ref on_, .ref pa, .ref kr, .ref kn, .ref kh, .int kt, .int kc, .int sd, .ref sr, .ref sn, .long ha])), (pg, .inl (cA, 18, .inl f)), (rd, .inl (cA, 10, .inl u_3.2.2.2))]) (z_runV (As := []) (rest := []) (ci := 5) ⟨hx, hb, hml, hown, hts⟩ (c_X5_faultOf (m0 := m0) (pg := pg) (rd := rd) (ro := ro) (fa := fa) (wo := wo) (ah := ah) (he := he) (wy := wy) (on_ := on_) (pa := pa) (kr := kr) (kn := kn) (kh := kh) (sr := sr) (sn := sn) (n := n) (N := N) (t := t) (rmy := rmy) (rpt := rpt) (sta := sta) (pt := pt) (nw := nw) (ou := ou) (si := si) (en := en) (w0 := w0) (w1 := w1) (br := br) (cr := cr) (pf := pf) (kt := kt) (kc := kc) (sd := sd) (ha := ha) (f := f) (g0 := g0) (by first | assumption | omega) _) (cwV 0 hts gX5_fault_X5_faultOf rfl rfl rfl (by decide +kernel) ⟨Nat.le_of_ble_eq_true rfl, Nat.le_of_ble_eq_true rfl⟩) hK hP hD hN [0, 1, 2] rfl rfl rfl rfl rfl hl.1 rfl (Nat.le_of_ble_eq_true rfl) dX5_fault_1 ⟨Nat.zero_le _, Nat.zero_le _⟩) hP hD hS hA [0, 1, 2] [] [0, 1, 2] rfl rfl rfl (by decide) rfl (fun _ => rfl) (fun r_2 u_3 H locs hq_1 hP hD hS => ?_)
  obtain ⟨rfl, hx4⟩ : r_2 = nI (jFF f n 0 0 0) ∧ mRead n f u_3.1 u_3.2.1 u_3.2.2.1 u_3.2.2.2 := hq_1
  have hP : va_P D vwCl [(m0, .inr (5, [.ref pg, .int (nI n), .ref rd, .int u_3.1, .int u_3.2.1, .int u_3.2.2.1, .int (nI N), .int pt, .int nw, .int ou, .int si, .int en, .int w0, .int w1, .int br, .int cr, .ref ro, .ref fa, .ref wo, .ref ah, .int pf, .int (nI t), .ref he, .ref wy, .ref on_, .ref pa, .ref kr, .ref kn, .ref kh, .int kt, .int kc, .int sd, .ref sr, .ref sn, .long ha])), (pg, .inl (cA, 18, .inl f)), (rd, .inl (cA, 10, .inl u_3.2.2.2))] H := hP
  have hD : va_D A [(m0, .inr (5, [.ref pg, .int (nI n), .ref rd, .int u_3.1, .int u_3.2.1, .int u_3.2.2.1, .int (nI N), .int pt, .int nw, .int ou, .int si, .int en, .int w0, .int w1, .int br, .int cr, .ref ro, .ref fa, .ref wo, .ref ah, .int pf, .int (nI t), .ref he, .ref wy, .ref on_, .ref pa, .ref kr, .ref kn, .ref kh, .int kt, .int kc, .int sd, .ref sr, .ref sn, .long ha])), (pg, .inl (cA, 18, .inl f)), (rd, .inl (cA, 10, .inl u_3.2.2.2))] := hD
  -- path 1
  exact hret (nI (jFF f n 0 0 0)) (u_3.1, (u_3.2.1, (u_3.2.2.1, u_3.2.2.2))) _ _ _ _ dX5_fault_4 (rfl) (by rfl) hP hD hS
