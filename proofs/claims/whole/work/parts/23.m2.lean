abbrev rm_c_X5_lacks : Room := { frames := 0, cells := 0, slots := 0, locals := 0 }
set_option maxHeartbeats 400000 in
set_option maxRecDepth 20000 in
theorem c_X5_lacks {l : Launch} {D : va_G} {cA : ClassId} {m0 : Nat} {pg : Nat} {rd : Nat} {ro : Nat} {fa : Nat} {wo : Nat} {ah : Nat} {he : Nat} {wy : Nat} {on_ : Nat} {pa : Nat} {kr : Nat} {kn : Nat} {kh : Nat} {sr : Nat} {sn : Nat} {n : Nat} {N : Nat} {t : Nat} {rmy : Int32} {rpt : Int32} {sta : Int32} {pt : Int32} {nw : Int32} {ou : Int32} {si : Int32} {en : Int32} {w0 : Int32} {w1 : Int32} {br : Int32} {cr : Int32} {pf : Int32} {kt : Int32} {kc : Int32} {sd : Int32} {ha : Int64} (h5 : N ≤ 5) : zMi l yX5_lacks wsX5_lacks rm_c_X5_lacks D cA [(m0, .inr (5, [.ref pg, .int (nI n), .ref rd, .int rmy, .int rpt, .int sta, .int (nI N), .int pt, .int nw, .int ou, .int si, .int en, .int w0, .int w1, .int br, .int cr, .ref ro, .ref fa, .ref wo, .ref ah, .int pf, .int (nI t), .ref he, .ref wy, .ref on_, .ref pa, .ref kr, .ref kn, .ref kh, .int kt, .int kc, .int sd, .ref sr, .ref sn, .long ha]))] [.ref m0] (fun (ret_ : Int32) (_ : Unit) => ret_ = bI (decide (N = 0))) (fun (_ : Unit) => [(m0, .inr (5, [.ref pg, .int (nI n), .ref rd, .int rmy, .int rpt, .int sta, .int (nI N), .int pt, .int nw, .int ou, .int si, .int en, .int w0, .int w1, .int br, .int cr, .ref ro, .ref fa, .ref wo, .ref ah, .int pf, .int (nI t), .ref he, .ref wy, .ref on_, .ref pa, .ref kr, .ref kn, .ref kh, .int kt, .int kc, .int sd, .ref sr, .ref sn, .long ha]))]) := by
  refine z_enteri (cc := cX5_lacks) (maxL := 1) (ty := .boolean) (by decide) rfl (Nat.le_of_ble_eq_true rfl) (fun p e s m args below meth c ls A H0 H locs Q hi_ hA hK hP hD hS hl hret => ?_)
  obtain ⟨hx, hb, hr, hml, hown, hts, hlocks, hN⟩ := hi_
  have hl : lv_has ls 1 [(0, .ref m0)] := hl
  have hiX5 : ∀ w ∈ wsX50, w ∈ wsX5_lacks := by decide +kernel
  refine lv_aload_n hx hb dX5_lacks_0 rfl (lv_at hl 0 rfl) ?_
  refine va_get (D := D) (ci := 5) (v := .int (nI N)) (C := RX5) (T := TX5) (N := 35) hx hb hts hiX5 hown hK hP 0 rfl rfl 6 (by decide) (hts (.fieldLink RX5 94 "HeardSecondModel" "seats" "I") (by decide +kernel)) (fun _ h9 => h9) rfl dX5_lacks_1 ?_
  refine lv_if_ne (tgt := 11) hx hb dX5_lacks_4 (by decide) (fun c4_1 => ?_) (fun c4_1 => ?_)
  · skip
    have hz_ : ¬ N = 0 := fun q_ => c4_1 (by rw [q_]; rfl)
    refine lv_iconst (v := 0) hx hb dX5_lacks_11 (by decide) ?_
    -- path 1
    exact hret (0) () _ _ _ _ dX5_lacks_12 (rfl) (by clear hret hl hS hD hP hK hA hN hts hx hb hr hml hown hlocks hiX5; simp_all [bI]) hP hD hS
  · skip
    have hz_ : N = 0 := (nI_eq (b := 0) (by omega) (by omega)).mp c4_1
    refine lv_iconst (v := 1) hx hb dX5_lacks_7 (by decide) ?_
    refine lv_goto (tgt := 12) hx hb dX5_lacks_8 (by decide) ?_
    -- path 2
    exact hret (1) () _ _ _ _ dX5_lacks_12 (rfl) (by clear hret hl hS hD hP hK hA hN hts hx hb hr hml hown hlocks hiX5; simp_all [bI]) hP hD hS
abbrev rm_c_X5_isSeat : Room := { frames := 1, cells := 0, slots := 0, locals := 25 }
set_option maxHeartbeats 400000 in
set_option maxRecDepth 20000 in
theorem c_X5_isSeat {l : Launch} {D : va_G} {cA : ClassId} {m0 : Nat} {pg : Nat} {rd : Nat} {ro : Nat} {fa : Nat} {wo : Nat} {ah : Nat} {he : Nat} {wy : Nat} {on_ : Nat} {pa : Nat} {kr : Nat} {kn : Nat} {kh : Nat} {sr : Nat} {sn : Nat} {n : Nat} {N : Nat} {t : Nat} {rmy : Int32} {rpt : Int32} {sta : Int32} {pt : Int32} {nw : Int32} {ou : Int32} {si : Int32} {en : Int32} {w0 : Int32} {w1 : Int32} {br : Int32} {cr : Int32} {pf : Int32} {kt : Int32} {kc : Int32} {sd : Int32} {ha : Int64} {x : Int32} : zMi l yX5_isSeat wsX5_isSeat rm_c_X5_isSeat D cA [(m0, .inr (5, [.ref pg, .int (nI n), .ref rd, .int rmy, .int rpt, .int sta, .int (nI N), .int pt, .int nw, .int ou, .int si, .int en, .int w0, .int w1, .int br, .int cr, .ref ro, .ref fa, .ref wo, .ref ah, .int pf, .int (nI t), .ref he, .ref wy, .ref on_, .ref pa, .ref kr, .ref kn, .ref kh, .int kt, .int kc, .int sd, .ref sr, .ref sn, .long ha]))] [.ref m0, .int x] (fun (ret_ : Int32) (_ : Unit) => ret_ = bI (mIn x 0 (nI N - 1))) (fun (_ : Unit) => [(m0, .inr (5, [.ref pg, .int (nI n), .ref rd, .int rmy, .int rpt, .int sta, .int (nI N), .int pt, .int nw, .int ou, .int si, .int en, .int w0, .int w1, .int br, .int cr, .ref ro, .ref fa, .ref wo, .ref ah, .int pf, .int (nI t), .ref he, .ref wy, .ref on_, .ref pa, .ref kr, .ref kn, .ref kh, .int kt, .int kc, .int sd, .ref sr, .ref sn, .long ha]))]) := by
  refine z_enteri (cc := cX5_isSeat) (maxL := 2) (ty := .boolean) (by decide) rfl (Nat.le_of_ble_eq_true rfl) (fun p e s m args below meth c ls A H0 H locs Q hi_ hA hK hP hD hS hl hret => ?_)
  obtain ⟨hx, hb, hr, hml, hown, hts, hlocks, hN⟩ := hi_
  have hl : lv_has ls 2 [(0, .ref m0), (1, .int x)] := hl
  have hiX5 : ∀ w ∈ wsX50, w ∈ wsX5_isSeat := by decide +kernel
  refine lv_iload_n hx hb dX5_isSeat_0 rfl (lv_at hl 1 rfl) ?_
  refine lv_i2l hx hb dX5_isSeat_1 rfl ?_
  refine lv_lconst (v := 0) hx hb dX5_isSeat_2 (by decide) ?_
  refine lv_aload_n hx hb dX5_isSeat_3 rfl (lv_at hl 0 rfl) ?_
  refine va_get (D := D) (ci := 5) (v := .int (nI N)) (C := RX5) (T := TX5) (N := 35) hx hb hts hiX5 hown hK hP 0 rfl rfl 6 (by decide) (hts (.fieldLink RX5 94 "HeardSecondModel" "seats" "I") (by decide +kernel)) (fun _ h9 => h9) rfl dX5_isSeat_4 ?_
  refine lv_iconst (v := 1) hx hb dX5_isSeat_7 (by decide) ?_
  refine lv_isub hx hb dX5_isSeat_8 ?_
  refine lv_i2l hx hb dX5_isSeat_9 rfl ?_
  refine z_bri (z_runS (As := [.long (Int32.toInt64 x), .long 0, .long (Int32.toInt64 ((nI N) - 1))]) (rest := []) ⟨hx, hb, hml, hown, hts⟩ (c_X5_in (x := Int32.toInt64 x) (lo := 0) (hi := Int32.toInt64 ((nI N) - 1)) _) (va_cwS 3 hts gX5_isSeat_X5_in rfl rfl rfl (by decide +kernel) ⟨Nat.le_of_ble_eq_true rfl, Nat.le_of_ble_eq_true rfl⟩) hK hP hD hN [] rfl rfl rfl hl.1 rfl (Nat.le_of_ble_eq_true rfl) dX5_isSeat_10 ⟨Nat.zero_le _, Nat.zero_le _⟩) hP hD hS hA [] rfl (fun r_2 u_3 H locs hq_1 hP hS => ?_)
  obtain rfl : r_2 = bI (decide (0 ≤ (Int32.toInt64 x)) && decide ((Int32.toInt64 x) ≤ (Int32.toInt64 ((nI N) - 1)))) := hq_1
  refine z_top (y := bI (mIn x 0 (nI N - 1))) (z_in64 rfl rfl) ?_
  -- path 1
  exact hret (bI (mIn x 0 (nI N - 1))) () _ _ _ _ dX5_isSeat_13 (bI_nar _) (by rfl) hP hD hS
abbrev rm_c_X5_court_no : Room := { frames := 3, cells := 0, slots := 0, locals := 69 }
set_option maxHeartbeats 400000 in
set_option maxRecDepth 20000 in
theorem c_X5_court_no {l : Launch} {D : va_G} {cA : ClassId} {m0 : Nat} {pg : Nat} {rd : Nat} {ro : Nat} {fa : Nat} {wo : Nat} {ah : Nat} {he : Nat} {wy : Nat} {on_ : Nat} {pa : Nat} {kr : Nat} {kn : Nat} {kh : Nat} {sr : Nat} {sn : Nat} {n : Nat} {N : Nat} {t : Nat} {rmy : Int32} {rpt : Int32} {sta : Int32} {pt : Int32} {nw : Int32} {ou : Int32} {si : Int32} {en : Int32} {w0 : Int32} {w1 : Int32} {br : Int32} {cr : Int32} {pf : Int32} {kt : Int32} {kc : Int32} {sd : Int32} {ha : Int64} {f : Nat → Int32} {g0 : Nat → Int32} {r : Nat → Int32} (hn : n ≤ 18) (hno : jWhole n f = false) : zMi l yX5_court wsX5_court rm_c_X5_court_no D cA [(m0, .inr (5, [.ref pg, .int (nI n), .ref rd, .int rmy, .int rpt, .int sta, .int (nI N), .int pt, .int nw, .int ou, .int si, .int en, .int w0, .int w1, .int br, .int cr, .ref ro, .ref fa, .ref wo, .ref ah, .int pf, .int (nI t), .ref he, .ref wy, .ref on_, .ref pa, .ref kr, .ref kn, .ref kh, .int kt, .int kc, .int sd, .ref sr, .ref sn, .long ha])), (pg, .inl (cA, 18, .inl f)), (rd, .inl (cA, 10, .inl g0)), (ro, .inl (cA, 15, .inl r))] [.ref m0] (fun (ret_ : Int32) (u : Int32 × Int32 × Int32 × (Nat → Int32)) => ret_ = -103) (fun (u : Int32 × Int32 × Int32 × (Nat → Int32)) => [(m0, .inr (5, [.ref pg, .int (nI n), .ref rd, .int u.1, .int u.2.1, .int u.2.2.1, .int (nI N), .int pt, .int nw, .int ou, .int si, .int en, .int w0, .int w1, .int br, .int cr, .ref ro, .ref fa, .ref wo, .ref ah, .int pf, .int (nI t), .ref he, .ref wy, .ref on_, .ref pa, .ref kr, .ref kn, .ref kh, .int kt, .int kc, .int sd, .ref sr, .ref sn, .long ha])), (pg, .inl (cA, 18, .inl f)), (rd, .inl (cA, 10, .inl u.2.2.2)), (ro, .inl (cA, 15, .inl r))]) := by
  refine z_enteri (cc := cX5_court) (maxL := 2) (ty := .int) (by decide) rfl (Nat.le_of_ble_eq_true rfl) (fun p e s m args below meth c ls A H0 H locs Q hi_ hA hK hP hD hS hl hret => ?_)
  obtain ⟨hx, hb, hr, hml, hown, hts, hlocks, hN⟩ := hi_
  have hl : lv_has ls 2 [(0, .ref m0)] := hl
  have hiX5 : ∀ w ∈ wsX50, w ∈ wsX5_court := by decide +kernel
  refine lv_aload_n hx hb dX5_court_0 rfl (lv_at hl 0 rfl) ?_
  refine z_bwi (wr := [(ro, .inl (cA, 15, .inl r))]) (ws' := fun u_3 => [(m0, .inr (5, [.ref pg, .int (nI n), .ref rd, .int u_3.1, .int u_3.2.1, .int u_3.2.2.1, .int (nI N), .int pt, .int nw, .int ou, .int si, .int en, .int w0, .int w1, .int br, .int cr, .ref ro, .ref fa, .ref wo, .ref ah, .int pf, .int (nI t), .ref he, .ref wy, .ref on_, .ref pa, .ref kr, .ref kn, .ref kh, .int kt, .int kc, .int sd, .ref sr, .ref sn, .long ha])), (pg, .inl (cA, 18, .inl f)), (rd, .inl (cA, 10, .inl u_3.2.2.2)), (ro, .inl (cA, 15, .inl r))]) (z_runV (As := []) (rest := []) (ci := 5) ⟨hx, hb, hml, hown, hts⟩ (c_X5_faultOf (m0 := m0) (pg := pg) (rd := rd) (ro := ro) (fa := fa) (wo := wo) (ah := ah) (he := he) (wy := wy) (on_ := on_) (pa := pa) (kr := kr) (kn := kn) (kh := kh) (sr := sr) (sn := sn) (n := n) (N := N) (t := t) (rmy := rmy) (rpt := rpt) (sta := sta) (pt := pt) (nw := nw) (ou := ou) (si := si) (en := en) (w0 := w0) (w1 := w1) (br := br) (cr := cr) (pf := pf) (kt := kt) (kc := kc) (sd := sd) (ha := ha) (f := f) (g0 := g0) (by first | assumption | omega) _) (cwV 0 hts gX5_court_X5_faultOf rfl rfl rfl (by decide +kernel) ⟨Nat.le_of_ble_eq_true rfl, Nat.le_of_ble_eq_true rfl⟩) hK hP hD hN [0, 1, 2] rfl rfl rfl rfl rfl hl.1 rfl (Nat.le_of_ble_eq_true rfl) dX5_court_1 ⟨Nat.zero_le _, Nat.zero_le _⟩) hP hD hS hA [0, 1, 2] [3] [1, 2, 3, 0] rfl rfl rfl (by decide) rfl (fun _ => rfl) (fun r_2 u_3 H locs hq_1 hP hD hS => ?_)
  obtain ⟨rfl, hx4⟩ : r_2 = nI (jFF f n 0 0 0) ∧ mRead n f u_3.1 u_3.2.1 u_3.2.2.1 u_3.2.2.2 := hq_1
  have hP : va_P D vwCl [(m0, .inr (5, [.ref pg, .int (nI n), .ref rd, .int u_3.1, .int u_3.2.1, .int u_3.2.2.1, .int (nI N), .int pt, .int nw, .int ou, .int si, .int en, .int w0, .int w1, .int br, .int cr, .ref ro, .ref fa, .ref wo, .ref ah, .int pf, .int (nI t), .ref he, .ref wy, .ref on_, .ref pa, .ref kr, .ref kn, .ref kh, .int kt, .int kc, .int sd, .ref sr, .ref sn, .long ha])), (pg, .inl (cA, 18, .inl f)), (rd, .inl (cA, 10, .inl u_3.2.2.2)), (ro, .inl (cA, 15, .inl r))] H := hP
  have hD : va_D A [(m0, .inr (5, [.ref pg, .int (nI n), .ref rd, .int u_3.1, .int u_3.2.1, .int u_3.2.2.1, .int (nI N), .int pt, .int nw, .int ou, .int si, .int en, .int w0, .int w1, .int br, .int cr, .ref ro, .ref fa, .ref wo, .ref ah, .int pf, .int (nI t), .ref he, .ref wy, .ref on_, .ref pa, .ref kr, .ref kn, .ref kh, .int kt, .int kc, .int sd, .ref sr, .ref sn, .long ha])), (pg, .inl (cA, 18, .inl f)), (rd, .inl (cA, 10, .inl u_3.2.2.2)), (ro, .inl (cA, 15, .inl r))] := hD
  have hrd_ := hx4
  refine lv_aload_n hx hb dX5_court_4 rfl (lv_at hl 0 rfl) ?_
  refine va_get (D := D) (ci := 5) (v := .int (nI n)) (C := RX5) (T := TX5) (N := 35) hx hb hts hiX5 hown hK hP 0 rfl rfl 1 (by decide) (hts (.fieldLink RX5 68 "HeardSecondModel" "pageMany" "I") (by decide +kernel)) (fun _ h9 => h9) rfl dX5_court_5 ?_
  refine lv_icmp_lt (tgt := 19) hx hb dX5_court_8 (by decide) (fun c8_5 => ?_) (fun c8_5 => ?_)
  · skip
    refine lv_bipush (v := (-103)) hx hb dX5_court_19 (by decide) ?_
    -- path 1
    exact hret ((-103)) (u_3.1, (u_3.2.1, (u_3.2.2.1, u_3.2.2.2))) _ _ _ _ dX5_court_21 (rfl) (by rfl) hP hD hS
  · skip
    have hff_ : jFF f n 0 0 0 = n := by have h1_ := jFF_le f n 0 0 0; have h2_ : ¬ jFF f n 0 0 0 < n := fun q_ => c8_5 ((nI_ltI (by omega) (by omega)).mpr q_); omega
    refine lv_aload_n hx hb dX5_court_11 rfl (lv_at hl 0 rfl) ?_
    refine va_get (D := D) (ci := 5) (v := .int u_3.2.2.1) (C := RX5) (T := TX5) (N := 35) hx hb hts hiX5 hown hK hP 0 rfl rfl 5 (by decide) (hts (.fieldLink RX5 71 "HeardSecondModel" "state" "I") (by decide +kernel)) (fun _ h9 => h9) rfl dX5_court_12 ?_
    refine lv_iconst (v := 4) hx hb dX5_court_15 (by decide) ?_
    refine lv_icmp_eq (tgt := 22) hx hb dX5_court_16 (by decide) (fun c16_6 => ?_) (fun c16_6 => ?_)
    · skip
      exact absurd c16_6 (hrd_.2 hno hff_)
    · skip
      refine lv_bipush (v := (-103)) hx hb dX5_court_19 (by decide) ?_
      -- path 2
      exact hret ((-103)) (u_3.1, (u_3.2.1, (u_3.2.2.1, u_3.2.2.2))) _ _ _ _ dX5_court_21 (rfl) (by rfl) hP hD hS
abbrev rm_c_X5_court_yes : Room := { frames := 3, cells := 0, slots := 0, locals := 69 }
set_option maxHeartbeats 1000000 in
set_option maxRecDepth 20000 in
theorem c_X5_court_yes {l : Launch} {D : va_G} {cA : ClassId} {m0 : Nat} {pg : Nat} {rd : Nat} {ro : Nat} {fa : Nat} {wo : Nat} {ah : Nat} {he : Nat} {wy : Nat} {on_ : Nat} {pa : Nat} {kr : Nat} {kn : Nat} {kh : Nat} {sr : Nat} {sn : Nat} {n : Nat} {N : Nat} {t : Nat} {rmy : Int32} {rpt : Int32} {sta : Int32} {pt : Int32} {nw : Int32} {ou : Int32} {si : Int32} {en : Int32} {w0 : Int32} {w1 : Int32} {br : Int32} {cr : Int32} {pf : Int32} {kt : Int32} {kc : Int32} {sd : Int32} {ha : Int64} {f : Nat → Int32} {g0 : Nat → Int32} {r : Nat → Int32} (hn : n ≤ 18) (hyes : jWhole n f = true) : zMi l yX5_court wsX5_court rm_c_X5_court_yes D cA [(m0, .inr (5, [.ref pg, .int (nI n), .ref rd, .int rmy, .int rpt, .int sta, .int (nI N), .int pt, .int nw, .int ou, .int si, .int en, .int w0, .int w1, .int br, .int cr, .ref ro, .ref fa, .ref wo, .ref ah, .int pf, .int (nI t), .ref he, .ref wy, .ref on_, .ref pa, .ref kr, .ref kn, .ref kh, .int kt, .int kc, .int sd, .ref sr, .ref sn, .long ha])), (pg, .inl (cA, 18, .inl f)), (rd, .inl (cA, 10, .inl g0)), (ro, .inl (cA, 15, .inl r))] [.ref m0] (fun (ret_ : Int32) (u : Int32 × Int32 × Int32 × (Nat → Int32)) => ret_ = nI (jSeats n)) (fun (u : Int32 × Int32 × Int32 × (Nat → Int32)) => [(m0, .inr (5, [.ref pg, .int (nI 0), .ref rd, .int u.1, .int u.2.1, .int u.2.2.1, .int (nI (jSeats n)), .int (f (n - 1) - 48), .int 63, .int 0, .int 0, .int 0, .int 0, .int 0, .int 0, .int (cr + 1), .ref ro, .ref fa, .ref wo, .ref ah, .int pf, .int (nI 0), .ref he, .ref wy, .ref on_, .ref pa, .ref kr, .ref kn, .ref kh, .int kt, .int kc, .int sd, .ref sr, .ref sn, .long ha])), (pg, .inl (cA, 18, .inl f)), (rd, .inl (cA, 10, .inl u.2.2.2)), (ro, .inl (cA, 15, .inl (mRows n f r)))]) := by
  refine z_enteri (cc := cX5_court) (maxL := 2) (ty := .int) (by decide) rfl (Nat.le_of_ble_eq_true rfl) (fun p e s m args below meth c ls A H0 H locs Q hi_ hA hK hP hD hS hl hret => ?_)
  obtain ⟨hx, hb, hr, hml, hown, hts, hlocks, hN⟩ := hi_
  have hl : lv_has ls 2 [(0, .ref m0)] := hl
  have hiX5 : ∀ w ∈ wsX50, w ∈ wsX5_court := by decide +kernel
  refine lv_aload_n hx hb dX5_court_0 rfl (lv_at hl 0 rfl) ?_
  refine z_bwi (wr := [(ro, .inl (cA, 15, .inl r))]) (ws' := fun u_3 => [(m0, .inr (5, [.ref pg, .int (nI n), .ref rd, .int u_3.1, .int u_3.2.1, .int u_3.2.2.1, .int (nI N), .int pt, .int nw, .int ou, .int si, .int en, .int w0, .int w1, .int br, .int cr, .ref ro, .ref fa, .ref wo, .ref ah, .int pf, .int (nI t), .ref he, .ref wy, .ref on_, .ref pa, .ref kr, .ref kn, .ref kh, .int kt, .int kc, .int sd, .ref sr, .ref sn, .long ha])), (pg, .inl (cA, 18, .inl f)), (rd, .inl (cA, 10, .inl u_3.2.2.2)), (ro, .inl (cA, 15, .inl r))]) (z_runV (As := []) (rest := []) (ci := 5) ⟨hx, hb, hml, hown, hts⟩ (c_X5_faultOf (m0 := m0) (pg := pg) (rd := rd) (ro := ro) (fa := fa) (wo := wo) (ah := ah) (he := he) (wy := wy) (on_ := on_) (pa := pa) (kr := kr) (kn := kn) (kh := kh) (sr := sr) (sn := sn) (n := n) (N := N) (t := t) (rmy := rmy) (rpt := rpt) (sta := sta) (pt := pt) (nw := nw) (ou := ou) (si := si) (en := en) (w0 := w0) (w1 := w1) (br := br) (cr := cr) (pf := pf) (kt := kt) (kc := kc) (sd := sd) (ha := ha) (f := f) (g0 := g0) (by first | assumption | omega) _) (cwV 0 hts gX5_court_X5_faultOf rfl rfl rfl (by decide +kernel) ⟨Nat.le_of_ble_eq_true rfl, Nat.le_of_ble_eq_true rfl⟩) hK hP hD hN [0, 1, 2] rfl rfl rfl rfl rfl hl.1 rfl (Nat.le_of_ble_eq_true rfl) dX5_court_1 ⟨Nat.zero_le _, Nat.zero_le _⟩) hP hD hS hA [0, 1, 2] [3] [1, 2, 3, 0] rfl rfl rfl (by decide) rfl (fun _ => rfl) (fun r_2 u_3 H locs hq_1 hP hD hS => ?_)
  obtain ⟨rfl, hx4⟩ : r_2 = nI (jFF f n 0 0 0) ∧ mRead n f u_3.1 u_3.2.1 u_3.2.2.1 u_3.2.2.2 := hq_1
  have hP : va_P D vwCl [(m0, .inr (5, [.ref pg, .int (nI n), .ref rd, .int u_3.1, .int u_3.2.1, .int u_3.2.2.1, .int (nI N), .int pt, .int nw, .int ou, .int si, .int en, .int w0, .int w1, .int br, .int cr, .ref ro, .ref fa, .ref wo, .ref ah, .int pf, .int (nI t), .ref he, .ref wy, .ref on_, .ref pa, .ref kr, .ref kn, .ref kh, .int kt, .int kc, .int sd, .ref sr, .ref sn, .long ha])), (pg, .inl (cA, 18, .inl f)), (rd, .inl (cA, 10, .inl u_3.2.2.2)), (ro, .inl (cA, 15, .inl r))] H := hP
  have hD : va_D A [(m0, .inr (5, [.ref pg, .int (nI n), .ref rd, .int u_3.1, .int u_3.2.1, .int u_3.2.2.1, .int (nI N), .int pt, .int nw, .int ou, .int si, .int en, .int w0, .int w1, .int br, .int cr, .ref ro, .ref fa, .ref wo, .ref ah, .int pf, .int (nI t), .ref he, .ref wy, .ref on_, .ref pa, .ref kr, .ref kn, .ref kh, .int kt, .int kc, .int sd, .ref sr, .ref sn, .long ha])), (pg, .inl (cA, 18, .inl f)), (rd, .inl (cA, 10, .inl u_3.2.2.2)), (ro, .inl (cA, 15, .inl r))] := hD
  have hrd_ := hx4
  obtain ⟨hst_, hrm_, hrp_, hcn_⟩ := hrd_.1 hyes
  have hle5_ := jSeats_le n
  refine lv_aload_n hx hb dX5_court_4 rfl (lv_at hl 0 rfl) ?_
  refine va_get (D := D) (ci := 5) (v := .int (nI n)) (C := RX5) (T := TX5) (N := 35) hx hb hts hiX5 hown hK hP 0 rfl rfl 1 (by decide) (hts (.fieldLink RX5 68 "HeardSecondModel" "pageMany" "I") (by decide +kernel)) (fun _ h9 => h9) rfl dX5_court_5 ?_
  refine lv_icmp_lt (tgt := 19) hx hb dX5_court_8 (by decide) (fun c8_5 => ?_) (fun c8_5 => ?_)
  · skip
    exact absurd ((nI_ltI (by have := jFF_le f n 0 0 0; omega) (by omega)).mp c8_5) (by have h1_ := jWhole_ff hyes; omega)
  · skip
    refine lv_aload_n hx hb dX5_court_11 rfl (lv_at hl 0 rfl) ?_
    refine va_get (D := D) (ci := 5) (v := .int u_3.2.2.1) (C := RX5) (T := TX5) (N := 35) hx hb hts hiX5 hown hK hP 0 rfl rfl 5 (by decide) (hts (.fieldLink RX5 71 "HeardSecondModel" "state" "I") (by decide +kernel)) (fun _ h9 => h9) rfl dX5_court_12 ?_
    refine lv_iconst (v := 4) hx hb dX5_court_15 (by decide) ?_
    refine lv_icmp_eq (tgt := 22) hx hb dX5_court_16 (by decide) (fun c16_6 => ?_) (fun c16_6 => ?_)
    · skip
      refine lv_aload_n hx hb dX5_court_22 rfl (lv_at hl 0 rfl) ?_
      refine lv_aload_n hx hb dX5_court_23 rfl (lv_at hl 0 rfl) ?_
      refine va_get (D := D) (ci := 5) (v := .int u_3.1) (C := RX5) (T := TX5) (N := 35) hx hb hts hiX5 hown hK hP 0 rfl rfl 3 (by decide) (hts (.fieldLink RX5 74 "HeardSecondModel" "readMany" "I") (by decide +kernel)) (fun _ h9 => h9) rfl dX5_court_24 ?_
      refine z_top (y := nI (jSeats n)) (hrm_) ?_
      refine va_put (D := D) (ci := 5) (v := .int (nI (jSeats n))) (ty := .int) (C := RX5) (T := TX5) (N := 35) hx hb hts hiX5 tyX5 tyX5_ok nmX5 hown hK hP hD hS 0 rfl rfl 6 (by decide) (hts (.fieldLink RX5 94 "HeardSecondModel" "seats" "I") (by decide +kernel)) (fun _ h9 => h9) rfl (by decide +kernel) (rfl) rfl (Nat.le_of_ble_eq_true rfl) dX5_court_27 (fun H locs hP hD hS => ?_)
      have hP : va_P D vwCl [(m0, .inr (5, [.ref pg, .int (nI n), .ref rd, .int u_3.1, .int u_3.2.1, .int u_3.2.2.1, .int (nI (jSeats n)), .int pt, .int nw, .int ou, .int si, .int en, .int w0, .int w1, .int br, .int cr, .ref ro, .ref fa, .ref wo, .ref ah, .int pf, .int (nI t), .ref he, .ref wy, .ref on_, .ref pa, .ref kr, .ref kn, .ref kh, .int kt, .int kc, .int sd, .ref sr, .ref sn, .long ha])), (pg, .inl (cA, 18, .inl f)), (rd, .inl (cA, 10, .inl u_3.2.2.2)), (ro, .inl (cA, 15, .inl r))] H := hP
      have hD : va_D A [(m0, .inr (5, [.ref pg, .int (nI n), .ref rd, .int u_3.1, .int u_3.2.1, .int u_3.2.2.1, .int (nI (jSeats n)), .int pt, .int nw, .int ou, .int si, .int en, .int w0, .int w1, .int br, .int cr, .ref ro, .ref fa, .ref wo, .ref ah, .int pf, .int (nI t), .ref he, .ref wy, .ref on_, .ref pa, .ref kr, .ref kn, .ref kh, .int kt, .int kc, .int sd, .ref sr, .ref sn, .long ha])), (pg, .inl (cA, 18, .inl f)), (rd, .inl (cA, 10, .inl u_3.2.2.2)), (ro, .inl (cA, 15, .inl r))] := hD
      refine lv_aload_n hx hb dX5_court_30 rfl (lv_at hl 0 rfl) ?_
      refine lv_aload_n hx hb dX5_court_31 rfl (lv_at hl 0 rfl) ?_
      refine va_get (D := D) (ci := 5) (v := .int u_3.2.1) (C := RX5) (T := TX5) (N := 35) hx hb hts hiX5 hown hK hP 0 rfl rfl 4 (by decide) (hts (.fieldLink RX5 81 "HeardSecondModel" "readPatience" "I") (by decide +kernel)) (fun _ h9 => h9) rfl dX5_court_32 ?_
      refine z_top (y := f (n - 1) - 48) (hrp_) ?_
      refine va_put (D := D) (ci := 5) (v := .int (f (n - 1) - 48)) (ty := .int) (C := RX5) (T := TX5) (N := 35) hx hb hts hiX5 tyX5 tyX5_ok nmX5 hown hK hP hD hS 0 rfl rfl 7 (by decide) (hts (.fieldLink RX5 97 "HeardSecondModel" "patience" "I") (by decide +kernel)) (fun _ h9 => h9) rfl (by decide +kernel) (rfl) rfl (Nat.le_of_ble_eq_true rfl) dX5_court_35 (fun H locs hP hD hS => ?_)
      have hP : va_P D vwCl [(m0, .inr (5, [.ref pg, .int (nI n), .ref rd, .int u_3.1, .int u_3.2.1, .int u_3.2.2.1, .int (nI (jSeats n)), .int (f (n - 1) - 48), .int nw, .int ou, .int si, .int en, .int w0, .int w1, .int br, .int cr, .ref ro, .ref fa, .ref wo, .ref ah, .int pf, .int (nI t), .ref he, .ref wy, .ref on_, .ref pa, .ref kr, .ref kn, .ref kh, .int kt, .int kc, .int sd, .ref sr, .ref sn, .long ha])), (pg, .inl (cA, 18, .inl f)), (rd, .inl (cA, 10, .inl u_3.2.2.2)), (ro, .inl (cA, 15, .inl r))] H := hP
      have hD : va_D A [(m0, .inr (5, [.ref pg, .int (nI n), .ref rd, .int u_3.1, .int u_3.2.1, .int u_3.2.2.1, .int (nI (jSeats n)), .int (f (n - 1) - 48), .int nw, .int ou, .int si, .int en, .int w0, .int w1, .int br, .int cr, .ref ro, .ref fa, .ref wo, .ref ah, .int pf, .int (nI t), .ref he, .ref wy, .ref on_, .ref pa, .ref kr, .ref kn, .ref kh, .int kt, .int kc, .int sd, .ref sr, .ref sn, .long ha])), (pg, .inl (cA, 18, .inl f)), (rd, .inl (cA, 10, .inl u_3.2.2.2)), (ro, .inl (cA, 15, .inl r))] := hD
      refine lv_iconst (v := nI 0) hx hb dX5_court_38 (by decide) ?_
      refine lv_istore_n (lv' := [(1, .int (nI 0)), (0, .ref m0)]) hx hb dX5_court_39 rfl hl (by decide) rfl (fun ls hl => ?_)
      have L40 : ∀ (n_ : Nat) (i : Nat) (g : Nat → Int32) (hm_ : 6 ≤ i + n_) (hi : i ≤ jSeats n) (hg : ∀ p, g p = if p < 3 * i then (if p % 3 = 0 then jKindOf (f p) else if p % 3 = 1 then f p - 48 else 0) else r p) (H : Heap) (locs : List Loc) (ls : Array Slot), va_P D vwCl [(m0, .inr (5, [.ref pg, .int (nI n), .ref rd, .int u_3.1, .int u_3.2.1, .int u_3.2.2.1, .int (nI (jSeats n)), .int (f (n - 1) - 48), .int nw, .int ou, .int si, .int en, .int w0, .int w1, .int br, .int cr, .ref ro, .ref fa, .ref wo, .ref ah, .int pf, .int (nI t), .ref he, .ref wy, .ref on_, .ref pa, .ref kr, .ref kn, .ref kh, .int kt, .int kc, .int sd, .ref sr, .ref sn, .long ha])), (pg, .inl (cA, 18, .inl f)), (rd, .inl (cA, 10, .inl u_3.2.2.2)), (ro, .inl (cA, 15, .inl g))] H → va_D A [(m0, .inr (5, [.ref pg, .int (nI n), .ref rd, .int u_3.1, .int u_3.2.1, .int u_3.2.2.1, .int (nI (jSeats n)), .int (f (n - 1) - 48), .int nw, .int ou, .int si, .int en, .int w0, .int w1, .int br, .int cr, .ref ro, .ref fa, .ref wo, .ref ah, .int pf, .int (nI t), .ref he, .ref wy, .ref on_, .ref pa, .ref kr, .ref kn, .ref kh, .int kt, .int kc, .int sd, .ref sr, .ref sn, .long ha])), (pg, .inl (cA, 18, .inl f)), (rd, .inl (cA, 10, .inl u_3.2.2.2)), (ro, .inl (cA, 15, .inl g))] → va_S A H0 H locs → lv_has ls 2 [(0, .ref m0), (1, .int (nI i))] → W p l e rm_c_X5_court_yes s m args below meth c H locs 0 0 Q (F0 m 40 ls []) := by
        intro n_
        induction n_ with
        | zero =>
          intro i g hm_ hi hg
          exact absurd hm_ (by omega)
        | succ n_ ih_ =>
          intro i g hm_ hi hg H locs ls hP hD hS hl
          have ih7 := ih_
          clear ih_
          refine lv_iload_n hx hb dX5_court_40 rfl (lv_at hl 1 rfl) ?_
          refine lv_aload_n hx hb dX5_court_41 rfl (lv_at hl 0 rfl) ?_
          refine va_get (D := D) (ci := 5) (v := .int (nI (jSeats n))) (C := RX5) (T := TX5) (N := 35) hx hb hts hiX5 hown hK hP 0 rfl rfl 6 (by decide) (hts (.fieldLink RX5 94 "HeardSecondModel" "seats" "I") (by decide +kernel)) (fun _ h9 => h9) rfl dX5_court_42 ?_
          refine lv_icmp_ge (tgt := 101) hx hb dX5_court_45 (by decide) (fun c45_8 => ?_) (fun c45_8 => ?_)
          · skip
            have ht_ : i = jSeats n := by have := (nI_leI (a := jSeats n) (b := i) (by omega) (by omega)).mp c45_8; omega
            refine lv_aload_n hx hb dX5_court_101 rfl (lv_at hl 0 rfl) ?_
            refine lv_bipush (v := 63) hx hb dX5_court_102 (by decide) ?_
            refine va_put (D := D) (ci := 5) (v := .int 63) (ty := .int) (C := RX5) (T := TX5) (N := 35) hx hb hts hiX5 tyX5 tyX5_ok nmX5 hown hK hP hD hS 0 rfl rfl 8 (by decide) (hts (.fieldLink RX5 59 "HeardSecondModel" "now" "I") (by decide +kernel)) (fun _ h9 => h9) rfl (by decide +kernel) (rfl) rfl (Nat.le_of_ble_eq_true rfl) dX5_court_104 (fun H locs hP hD hS => ?_)
            have hP : va_P D vwCl [(m0, .inr (5, [.ref pg, .int (nI n), .ref rd, .int u_3.1, .int u_3.2.1, .int u_3.2.2.1, .int (nI (jSeats n)), .int (f (n - 1) - 48), .int 63, .int ou, .int si, .int en, .int w0, .int w1, .int br, .int cr, .ref ro, .ref fa, .ref wo, .ref ah, .int pf, .int (nI t), .ref he, .ref wy, .ref on_, .ref pa, .ref kr, .ref kn, .ref kh, .int kt, .int kc, .int sd, .ref sr, .ref sn, .long ha])), (pg, .inl (cA, 18, .inl f)), (rd, .inl (cA, 10, .inl u_3.2.2.2)), (ro, .inl (cA, 15, .inl g))] H := hP
            have hD : va_D A [(m0, .inr (5, [.ref pg, .int (nI n), .ref rd, .int u_3.1, .int u_3.2.1, .int u_3.2.2.1, .int (nI (jSeats n)), .int (f (n - 1) - 48), .int 63, .int ou, .int si, .int en, .int w0, .int w1, .int br, .int cr, .ref ro, .ref fa, .ref wo, .ref ah, .int pf, .int (nI t), .ref he, .ref wy, .ref on_, .ref pa, .ref kr, .ref kn, .ref kh, .int kt, .int kc, .int sd, .ref sr, .ref sn, .long ha])), (pg, .inl (cA, 18, .inl f)), (rd, .inl (cA, 10, .inl u_3.2.2.2)), (ro, .inl (cA, 15, .inl g))] := hD
            refine lv_aload_n hx hb dX5_court_107 rfl (lv_at hl 0 rfl) ?_
            refine lv_iconst (v := 0) hx hb dX5_court_108 (by decide) ?_
            refine va_put (D := D) (ci := 5) (v := .int 0) (ty := .int) (C := RX5) (T := TX5) (N := 35) hx hb hts hiX5 tyX5 tyX5_ok nmX5 hown hK hP hD hS 0 rfl rfl 9 (by decide) (hts (.fieldLink RX5 100 "HeardSecondModel" "out" "I") (by decide +kernel)) (fun _ h9 => h9) rfl (by decide +kernel) (rfl) rfl (Nat.le_of_ble_eq_true rfl) dX5_court_109 (fun H locs hP hD hS => ?_)
            have hP : va_P D vwCl [(m0, .inr (5, [.ref pg, .int (nI n), .ref rd, .int u_3.1, .int u_3.2.1, .int u_3.2.2.1, .int (nI (jSeats n)), .int (f (n - 1) - 48), .int 63, .int 0, .int si, .int en, .int w0, .int w1, .int br, .int cr, .ref ro, .ref fa, .ref wo, .ref ah, .int pf, .int (nI t), .ref he, .ref wy, .ref on_, .ref pa, .ref kr, .ref kn, .ref kh, .int kt, .int kc, .int sd, .ref sr, .ref sn, .long ha])), (pg, .inl (cA, 18, .inl f)), (rd, .inl (cA, 10, .inl u_3.2.2.2)), (ro, .inl (cA, 15, .inl g))] H := hP
            have hD : va_D A [(m0, .inr (5, [.ref pg, .int (nI n), .ref rd, .int u_3.1, .int u_3.2.1, .int u_3.2.2.1, .int (nI (jSeats n)), .int (f (n - 1) - 48), .int 63, .int 0, .int si, .int en, .int w0, .int w1, .int br, .int cr, .ref ro, .ref fa, .ref wo, .ref ah, .int pf, .int (nI t), .ref he, .ref wy, .ref on_, .ref pa, .ref kr, .ref kn, .ref kh, .int kt, .int kc, .int sd, .ref sr, .ref sn, .long ha])), (pg, .inl (cA, 18, .inl f)), (rd, .inl (cA, 10, .inl u_3.2.2.2)), (ro, .inl (cA, 15, .inl g))] := hD
            refine lv_aload_n hx hb dX5_court_112 rfl (lv_at hl 0 rfl) ?_
            refine lv_iconst (v := 0) hx hb dX5_court_113 (by decide) ?_
            refine va_put (D := D) (ci := 5) (v := .int 0) (ty := .int) (C := RX5) (T := TX5) (N := 35) hx hb hts hiX5 tyX5 tyX5_ok nmX5 hown hK hP hD hS 0 rfl rfl 10 (by decide) (hts (.fieldLink RX5 103 "HeardSecondModel" "silence" "I") (by decide +kernel)) (fun _ h9 => h9) rfl (by decide +kernel) (rfl) rfl (Nat.le_of_ble_eq_true rfl) dX5_court_114 (fun H locs hP hD hS => ?_)
            have hP : va_P D vwCl [(m0, .inr (5, [.ref pg, .int (nI n), .ref rd, .int u_3.1, .int u_3.2.1, .int u_3.2.2.1, .int (nI (jSeats n)), .int (f (n - 1) - 48), .int 63, .int 0, .int 0, .int en, .int w0, .int w1, .int br, .int cr, .ref ro, .ref fa, .ref wo, .ref ah, .int pf, .int (nI t), .ref he, .ref wy, .ref on_, .ref pa, .ref kr, .ref kn, .ref kh, .int kt, .int kc, .int sd, .ref sr, .ref sn, .long ha])), (pg, .inl (cA, 18, .inl f)), (rd, .inl (cA, 10, .inl u_3.2.2.2)), (ro, .inl (cA, 15, .inl g))] H := hP
            have hD : va_D A [(m0, .inr (5, [.ref pg, .int (nI n), .ref rd, .int u_3.1, .int u_3.2.1, .int u_3.2.2.1, .int (nI (jSeats n)), .int (f (n - 1) - 48), .int 63, .int 0, .int 0, .int en, .int w0, .int w1, .int br, .int cr, .ref ro, .ref fa, .ref wo, .ref ah, .int pf, .int (nI t), .ref he, .ref wy, .ref on_, .ref pa, .ref kr, .ref kn, .ref kh, .int kt, .int kc, .int sd, .ref sr, .ref sn, .long ha])), (pg, .inl (cA, 18, .inl f)), (rd, .inl (cA, 10, .inl u_3.2.2.2)), (ro, .inl (cA, 15, .inl g))] := hD
            refine lv_aload_n hx hb dX5_court_117 rfl (lv_at hl 0 rfl) ?_
            refine lv_iconst (v := 0) hx hb dX5_court_118 (by decide) ?_
            refine va_put (D := D) (ci := 5) (v := .int 0) (ty := .int) (C := RX5) (T := TX5) (N := 35) hx hb hts hiX5 tyX5 tyX5_ok nmX5 hown hK hP hD hS 0 rfl rfl 11 (by decide) (hts (.fieldLink RX5 106 "HeardSecondModel" "cases" "I") (by decide +kernel)) (fun _ h9 => h9) rfl (by decide +kernel) (rfl) rfl (Nat.le_of_ble_eq_true rfl) dX5_court_119 (fun H locs hP hD hS => ?_)
            have hP : va_P D vwCl [(m0, .inr (5, [.ref pg, .int (nI n), .ref rd, .int u_3.1, .int u_3.2.1, .int u_3.2.2.1, .int (nI (jSeats n)), .int (f (n - 1) - 48), .int 63, .int 0, .int 0, .int 0, .int w0, .int w1, .int br, .int cr, .ref ro, .ref fa, .ref wo, .ref ah, .int pf, .int (nI t), .ref he, .ref wy, .ref on_, .ref pa, .ref kr, .ref kn, .ref kh, .int kt, .int kc, .int sd, .ref sr, .ref sn, .long ha])), (pg, .inl (cA, 18, .inl f)), (rd, .inl (cA, 10, .inl u_3.2.2.2)), (ro, .inl (cA, 15, .inl g))] H := hP
            have hD : va_D A [(m0, .inr (5, [.ref pg, .int (nI n), .ref rd, .int u_3.1, .int u_3.2.1, .int u_3.2.2.1, .int (nI (jSeats n)), .int (f (n - 1) - 48), .int 63, .int 0, .int 0, .int 0, .int w0, .int w1, .int br, .int cr, .ref ro, .ref fa, .ref wo, .ref ah, .int pf, .int (nI t), .ref he, .ref wy, .ref on_, .ref pa, .ref kr, .ref kn, .ref kh, .int kt, .int kc, .int sd, .ref sr, .ref sn, .long ha])), (pg, .inl (cA, 18, .inl f)), (rd, .inl (cA, 10, .inl u_3.2.2.2)), (ro, .inl (cA, 15, .inl g))] := hD
            refine lv_aload_n hx hb dX5_court_122 rfl (lv_at hl 0 rfl) ?_
            refine lv_iconst (v := 0) hx hb dX5_court_123 (by decide) ?_
            refine va_put (D := D) (ci := 5) (v := .int 0) (ty := .int) (C := RX5) (T := TX5) (N := 35) hx hb hts hiX5 tyX5 tyX5_ok nmX5 hown hK hP hD hS 0 rfl rfl 12 (by decide) (hts (.fieldLink RX5 109 "HeardSecondModel" "wonBy0" "I") (by decide +kernel)) (fun _ h9 => h9) rfl (by decide +kernel) (rfl) rfl (Nat.le_of_ble_eq_true rfl) dX5_court_124 (fun H locs hP hD hS => ?_)
            have hP : va_P D vwCl [(m0, .inr (5, [.ref pg, .int (nI n), .ref rd, .int u_3.1, .int u_3.2.1, .int u_3.2.2.1, .int (nI (jSeats n)), .int (f (n - 1) - 48), .int 63, .int 0, .int 0, .int 0, .int 0, .int w1, .int br, .int cr, .ref ro, .ref fa, .ref wo, .ref ah, .int pf, .int (nI t), .ref he, .ref wy, .ref on_, .ref pa, .ref kr, .ref kn, .ref kh, .int kt, .int kc, .int sd, .ref sr, .ref sn, .long ha])), (pg, .inl (cA, 18, .inl f)), (rd, .inl (cA, 10, .inl u_3.2.2.2)), (ro, .inl (cA, 15, .inl g))] H := hP
            have hD : va_D A [(m0, .inr (5, [.ref pg, .int (nI n), .ref rd, .int u_3.1, .int u_3.2.1, .int u_3.2.2.1, .int (nI (jSeats n)), .int (f (n - 1) - 48), .int 63, .int 0, .int 0, .int 0, .int 0, .int w1, .int br, .int cr, .ref ro, .ref fa, .ref wo, .ref ah, .int pf, .int (nI t), .ref he, .ref wy, .ref on_, .ref pa, .ref kr, .ref kn, .ref kh, .int kt, .int kc, .int sd, .ref sr, .ref sn, .long ha])), (pg, .inl (cA, 18, .inl f)), (rd, .inl (cA, 10, .inl u_3.2.2.2)), (ro, .inl (cA, 15, .inl g))] := hD
            refine lv_aload_n hx hb dX5_court_127 rfl (lv_at hl 0 rfl) ?_
            refine lv_iconst (v := 0) hx hb dX5_court_128 (by decide) ?_
            refine va_put (D := D) (ci := 5) (v := .int 0) (ty := .int) (C := RX5) (T := TX5) (N := 35) hx hb hts hiX5 tyX5 tyX5_ok nmX5 hown hK hP hD hS 0 rfl rfl 13 (by decide) (hts (.fieldLink RX5 112 "HeardSecondModel" "wonBy1" "I") (by decide +kernel)) (fun _ h9 => h9) rfl (by decide +kernel) (rfl) rfl (Nat.le_of_ble_eq_true rfl) dX5_court_129 (fun H locs hP hD hS => ?_)
            have hP : va_P D vwCl [(m0, .inr (5, [.ref pg, .int (nI n), .ref rd, .int u_3.1, .int u_3.2.1, .int u_3.2.2.1, .int (nI (jSeats n)), .int (f (n - 1) - 48), .int 63, .int 0, .int 0, .int 0, .int 0, .int 0, .int br, .int cr, .ref ro, .ref fa, .ref wo, .ref ah, .int pf, .int (nI t), .ref he, .ref wy, .ref on_, .ref pa, .ref kr, .ref kn, .ref kh, .int kt, .int kc, .int sd, .ref sr, .ref sn, .long ha])), (pg, .inl (cA, 18, .inl f)), (rd, .inl (cA, 10, .inl u_3.2.2.2)), (ro, .inl (cA, 15, .inl g))] H := hP
            have hD : va_D A [(m0, .inr (5, [.ref pg, .int (nI n), .ref rd, .int u_3.1, .int u_3.2.1, .int u_3.2.2.1, .int (nI (jSeats n)), .int (f (n - 1) - 48), .int 63, .int 0, .int 0, .int 0, .int 0, .int 0, .int br, .int cr, .ref ro, .ref fa, .ref wo, .ref ah, .int pf, .int (nI t), .ref he, .ref wy, .ref on_, .ref pa, .ref kr, .ref kn, .ref kh, .int kt, .int kc, .int sd, .ref sr, .ref sn, .long ha])), (pg, .inl (cA, 18, .inl f)), (rd, .inl (cA, 10, .inl u_3.2.2.2)), (ro, .inl (cA, 15, .inl g))] := hD
            refine lv_aload_n hx hb dX5_court_132 rfl (lv_at hl 0 rfl) ?_
            refine lv_iconst (v := 0) hx hb dX5_court_133 (by decide) ?_
            refine va_put (D := D) (ci := 5) (v := .int 0) (ty := .int) (C := RX5) (T := TX5) (N := 35) hx hb hts hiX5 tyX5 tyX5_ok nmX5 hown hK hP hD hS 0 rfl rfl 14 (by decide) (hts (.fieldLink RX5 115 "HeardSecondModel" "breaths" "I") (by decide +kernel)) (fun _ h9 => h9) rfl (by decide +kernel) (rfl) rfl (Nat.le_of_ble_eq_true rfl) dX5_court_134 (fun H locs hP hD hS => ?_)
            have hP : va_P D vwCl [(m0, .inr (5, [.ref pg, .int (nI n), .ref rd, .int u_3.1, .int u_3.2.1, .int u_3.2.2.1, .int (nI (jSeats n)), .int (f (n - 1) - 48), .int 63, .int 0, .int 0, .int 0, .int 0, .int 0, .int 0, .int cr, .ref ro, .ref fa, .ref wo, .ref ah, .int pf, .int (nI t), .ref he, .ref wy, .ref on_, .ref pa, .ref kr, .ref kn, .ref kh, .int kt, .int kc, .int sd, .ref sr, .ref sn, .long ha])), (pg, .inl (cA, 18, .inl f)), (rd, .inl (cA, 10, .inl u_3.2.2.2)), (ro, .inl (cA, 15, .inl g))] H := hP
            have hD : va_D A [(m0, .inr (5, [.ref pg, .int (nI n), .ref rd, .int u_3.1, .int u_3.2.1, .int u_3.2.2.1, .int (nI (jSeats n)), .int (f (n - 1) - 48), .int 63, .int 0, .int 0, .int 0, .int 0, .int 0, .int 0, .int cr, .ref ro, .ref fa, .ref wo, .ref ah, .int pf, .int (nI t), .ref he, .ref wy, .ref on_, .ref pa, .ref kr, .ref kn, .ref kh, .int kt, .int kc, .int sd, .ref sr, .ref sn, .long ha])), (pg, .inl (cA, 18, .inl f)), (rd, .inl (cA, 10, .inl u_3.2.2.2)), (ro, .inl (cA, 15, .inl g))] := hD
            refine lv_aload_n hx hb dX5_court_137 rfl (lv_at hl 0 rfl) ?_
            refine lv_iconst (v := nI 0) hx hb dX5_court_138 (by decide) ?_
            refine va_put (D := D) (ci := 5) (v := .int (nI 0)) (ty := .int) (C := RX5) (T := TX5) (N := 35) hx hb hts hiX5 tyX5 tyX5_ok nmX5 hown hK hP hD hS 0 rfl rfl 21 (by decide) (hts (.fieldLink RX5 118 "HeardSecondModel" "heardMany" "I") (by decide +kernel)) (fun _ h9 => h9) rfl (by decide +kernel) (rfl) rfl (Nat.le_of_ble_eq_true rfl) dX5_court_139 (fun H locs hP hD hS => ?_)
            have hP : va_P D vwCl [(m0, .inr (5, [.ref pg, .int (nI n), .ref rd, .int u_3.1, .int u_3.2.1, .int u_3.2.2.1, .int (nI (jSeats n)), .int (f (n - 1) - 48), .int 63, .int 0, .int 0, .int 0, .int 0, .int 0, .int 0, .int cr, .ref ro, .ref fa, .ref wo, .ref ah, .int pf, .int (nI 0), .ref he, .ref wy, .ref on_, .ref pa, .ref kr, .ref kn, .ref kh, .int kt, .int kc, .int sd, .ref sr, .ref sn, .long ha])), (pg, .inl (cA, 18, .inl f)), (rd, .inl (cA, 10, .inl u_3.2.2.2)), (ro, .inl (cA, 15, .inl g))] H := hP
            have hD : va_D A [(m0, .inr (5, [.ref pg, .int (nI n), .ref rd, .int u_3.1, .int u_3.2.1, .int u_3.2.2.1, .int (nI (jSeats n)), .int (f (n - 1) - 48), .int 63, .int 0, .int 0, .int 0, .int 0, .int 0, .int 0, .int cr, .ref ro, .ref fa, .ref wo, .ref ah, .int pf, .int (nI 0), .ref he, .ref wy, .ref on_, .ref pa, .ref kr, .ref kn, .ref kh, .int kt, .int kc, .int sd, .ref sr, .ref sn, .long ha])), (pg, .inl (cA, 18, .inl f)), (rd, .inl (cA, 10, .inl u_3.2.2.2)), (ro, .inl (cA, 15, .inl g))] := hD
            refine lv_aload_n hx hb dX5_court_142 rfl (lv_at hl 0 rfl) ?_
            refine lv_dup hx hb dX5_court_143 rfl ?_
            refine va_get (D := D) (ci := 5) (v := .int cr) (C := RX5) (T := TX5) (N := 35) hx hb hts hiX5 hown hK hP 0 rfl rfl 15 (by decide) (hts (.fieldLink RX5 121 "HeardSecondModel" "courtsRead" "I") (by decide +kernel)) (fun _ h9 => h9) rfl dX5_court_144 ?_
            refine lv_iconst (v := 1) hx hb dX5_court_147 (by decide) ?_
            refine lv_iadd hx hb dX5_court_148 ?_
            refine va_put (D := D) (ci := 5) (v := .int (cr + 1)) (ty := .int) (C := RX5) (T := TX5) (N := 35) hx hb hts hiX5 tyX5 tyX5_ok nmX5 hown hK hP hD hS 0 rfl rfl 15 (by decide) (hts (.fieldLink RX5 121 "HeardSecondModel" "courtsRead" "I") (by decide +kernel)) (fun _ h9 => h9) rfl (by decide +kernel) (rfl) rfl (Nat.le_of_ble_eq_true rfl) dX5_court_149 (fun H locs hP hD hS => ?_)
            have hP : va_P D vwCl [(m0, .inr (5, [.ref pg, .int (nI n), .ref rd, .int u_3.1, .int u_3.2.1, .int u_3.2.2.1, .int (nI (jSeats n)), .int (f (n - 1) - 48), .int 63, .int 0, .int 0, .int 0, .int 0, .int 0, .int 0, .int (cr + 1), .ref ro, .ref fa, .ref wo, .ref ah, .int pf, .int (nI 0), .ref he, .ref wy, .ref on_, .ref pa, .ref kr, .ref kn, .ref kh, .int kt, .int kc, .int sd, .ref sr, .ref sn, .long ha])), (pg, .inl (cA, 18, .inl f)), (rd, .inl (cA, 10, .inl u_3.2.2.2)), (ro, .inl (cA, 15, .inl g))] H := hP
            have hD : va_D A [(m0, .inr (5, [.ref pg, .int (nI n), .ref rd, .int u_3.1, .int u_3.2.1, .int u_3.2.2.1, .int (nI (jSeats n)), .int (f (n - 1) - 48), .int 63, .int 0, .int 0, .int 0, .int 0, .int 0, .int 0, .int (cr + 1), .ref ro, .ref fa, .ref wo, .ref ah, .int pf, .int (nI 0), .ref he, .ref wy, .ref on_, .ref pa, .ref kr, .ref kn, .ref kh, .int kt, .int kc, .int sd, .ref sr, .ref sn, .long ha])), (pg, .inl (cA, 18, .inl f)), (rd, .inl (cA, 10, .inl u_3.2.2.2)), (ro, .inl (cA, 15, .inl g))] := hD
            refine lv_aload_n hx hb dX5_court_152 rfl (lv_at hl 0 rfl) ?_
            refine lv_iconst (v := nI 0) hx hb dX5_court_153 (by decide) ?_
            refine va_put (D := D) (ci := 5) (v := .int (nI 0)) (ty := .int) (C := RX5) (T := TX5) (N := 35) hx hb hts hiX5 tyX5 tyX5_ok nmX5 hown hK hP hD hS 0 rfl rfl 1 (by decide) (hts (.fieldLink RX5 68 "HeardSecondModel" "pageMany" "I") (by decide +kernel)) (fun _ h9 => h9) rfl (by decide +kernel) (rfl) rfl (Nat.le_of_ble_eq_true rfl) dX5_court_154 (fun H locs hP hD hS => ?_)
            have hP : va_P D vwCl [(m0, .inr (5, [.ref pg, .int (nI 0), .ref rd, .int u_3.1, .int u_3.2.1, .int u_3.2.2.1, .int (nI (jSeats n)), .int (f (n - 1) - 48), .int 63, .int 0, .int 0, .int 0, .int 0, .int 0, .int 0, .int (cr + 1), .ref ro, .ref fa, .ref wo, .ref ah, .int pf, .int (nI 0), .ref he, .ref wy, .ref on_, .ref pa, .ref kr, .ref kn, .ref kh, .int kt, .int kc, .int sd, .ref sr, .ref sn, .long ha])), (pg, .inl (cA, 18, .inl f)), (rd, .inl (cA, 10, .inl u_3.2.2.2)), (ro, .inl (cA, 15, .inl g))] H := hP
            have hD : va_D A [(m0, .inr (5, [.ref pg, .int (nI 0), .ref rd, .int u_3.1, .int u_3.2.1, .int u_3.2.2.1, .int (nI (jSeats n)), .int (f (n - 1) - 48), .int 63, .int 0, .int 0, .int 0, .int 0, .int 0, .int 0, .int (cr + 1), .ref ro, .ref fa, .ref wo, .ref ah, .int pf, .int (nI 0), .ref he, .ref wy, .ref on_, .ref pa, .ref kr, .ref kn, .ref kh, .int kt, .int kc, .int sd, .ref sr, .ref sn, .long ha])), (pg, .inl (cA, 18, .inl f)), (rd, .inl (cA, 10, .inl u_3.2.2.2)), (ro, .inl (cA, 15, .inl g))] := hD
            refine lv_aload_n hx hb dX5_court_157 rfl (lv_at hl 0 rfl) ?_
            refine va_get (D := D) (ci := 5) (v := .int (nI (jSeats n))) (C := RX5) (T := TX5) (N := 35) hx hb hts hiX5 hown hK hP 0 rfl rfl 6 (by decide) (hts (.fieldLink RX5 94 "HeardSecondModel" "seats" "I") (by decide +kernel)) (fun _ h9 => h9) rfl dX5_court_158 ?_
            -- path 1
            have hP : va_P D vwCl [(m0, .inr (5, [.ref pg, .int (nI 0), .ref rd, .int u_3.1, .int u_3.2.1, .int u_3.2.2.1, .int (nI (jSeats n)), .int (f (n - 1) - 48), .int 63, .int 0, .int 0, .int 0, .int 0, .int 0, .int 0, .int (cr + 1), .ref ro, .ref fa, .ref wo, .ref ah, .int pf, .int (nI 0), .ref he, .ref wy, .ref on_, .ref pa, .ref kr, .ref kn, .ref kh, .int kt, .int kc, .int sd, .ref sr, .ref sn, .long ha])), (pg, .inl (cA, 18, .inl f)), (rd, .inl (cA, 10, .inl u_3.2.2.2)), (ro, .inl (cA, 15, .inl (mRows n f r)))] H := z_arrP hP 3 (g := (mRows n f r)) rfl (by clear hret hl hS hD hP hK hA hN hts hx hb hr hml hown hlocks hiX5 ih7; intro p hp; rw [hg p, ht_]; rfl) rfl
            have hD : va_D A [(m0, .inr (5, [.ref pg, .int (nI 0), .ref rd, .int u_3.1, .int u_3.2.1, .int u_3.2.2.1, .int (nI (jSeats n)), .int (f (n - 1) - 48), .int 63, .int 0, .int 0, .int 0, .int 0, .int 0, .int 0, .int (cr + 1), .ref ro, .ref fa, .ref wo, .ref ah, .int pf, .int (nI 0), .ref he, .ref wy, .ref on_, .ref pa, .ref kr, .ref kn, .ref kh, .int kt, .int kc, .int sd, .ref sr, .ref sn, .long ha])), (pg, .inl (cA, 18, .inl f)), (rd, .inl (cA, 10, .inl u_3.2.2.2)), (ro, .inl (cA, 15, .inl (mRows n f r)))] := z_arrD hD 3 rfl rfl
            exact hret (nI (jSeats n)) (u_3.1, (u_3.2.1, (u_3.2.2.1, u_3.2.2.2))) _ _ _ _ dX5_court_161 (rfl) (by rfl) hP hD hS
          · skip
            have hlti_ : i < jSeats n := Nat.lt_of_not_le (fun q_ => c45_8 ((nI_leI (a := jSeats n) (b := i) (by omega) (by omega)).mpr q_))
            refine lv_aload_n hx hb dX5_court_48 rfl (lv_at hl 0 rfl) ?_
            refine va_get (D := D) (ci := 5) (v := .ref ro) (C := RX5) (T := TX5) (N := 35) hx hb hts hiX5 hown hK hP 0 rfl rfl 16 (by decide) (hts (.fieldLink RX5 16 "HeardSecondModel" "rows" "[I") (by decide +kernel)) (fun _ h9 => h9) rfl dX5_court_49 ?_
            refine lv_iconst (v := 3) hx hb dX5_court_52 (by decide) ?_
            refine lv_iload_n hx hb dX5_court_53 rfl (lv_at hl 1 rfl) ?_
            refine lv_imul hx hb dX5_court_54 ?_
            refine z_top (y := nI (3 * i)) (nI_3 i) ?_
            refine lv_aload_n hx hb dX5_court_55 rfl (lv_at hl 0 rfl) ?_
            refine va_get (D := D) (ci := 5) (v := .ref rd) (C := RX5) (T := TX5) (N := 35) hx hb hts hiX5 hown hK hP 0 rfl rfl 2 (by decide) (hts (.fieldLink RX5 13 "HeardSecondModel" "read" "[I") (by decide +kernel)) (fun _ h9 => h9) rfl dX5_court_56 ?_
            refine lv_iconst (v := 2) hx hb dX5_court_59 (by decide) ?_
            refine lv_iload_n hx hb dX5_court_60 rfl (lv_at hl 1 rfl) ?_
            refine lv_imul hx hb dX5_court_61 ?_
            refine z_top (y := nI (2 * i)) (nI_2 i) ?_
            refine va_iald hx hb hK hP 2 0 rfl rfl (z_inN (by omega) (by decide)) dX5_court_62 ?_
            refine z_top (y := jKindOf (f (3 * i))) (by rw [z_nat (by omega)]; exact (hcn_ i hlti_).1) ?_
            refine va_iast hx hb hK hP hD hS 3 0 rfl rfl (z_inN (by omega) (by decide)) dX5_court_63 (fun H locs hP hD hS => ?_)
            have hP : va_P D vwCl [(m0, .inr (5, [.ref pg, .int (nI n), .ref rd, .int u_3.1, .int u_3.2.1, .int u_3.2.2.1, .int (nI (jSeats n)), .int (f (n - 1) - 48), .int nw, .int ou, .int si, .int en, .int w0, .int w1, .int br, .int cr, .ref ro, .ref fa, .ref wo, .ref ah, .int pf, .int (nI t), .ref he, .ref wy, .ref on_, .ref pa, .ref kr, .ref kn, .ref kh, .int kt, .int kc, .int sd, .ref sr, .ref sn, .long ha])), (pg, .inl (cA, 18, .inl f)), (rd, .inl (cA, 10, .inl u_3.2.2.2)), (ro, .inl (cA, 15, .inl (upd g (Int32.toNatClampNeg (nI (3 * i))) (jKindOf (f (3 * i))))))] H := hP
            have hD : va_D A [(m0, .inr (5, [.ref pg, .int (nI n), .ref rd, .int u_3.1, .int u_3.2.1, .int u_3.2.2.1, .int (nI (jSeats n)), .int (f (n - 1) - 48), .int nw, .int ou, .int si, .int en, .int w0, .int w1, .int br, .int cr, .ref ro, .ref fa, .ref wo, .ref ah, .int pf, .int (nI t), .ref he, .ref wy, .ref on_, .ref pa, .ref kr, .ref kn, .ref kh, .int kt, .int kc, .int sd, .ref sr, .ref sn, .long ha])), (pg, .inl (cA, 18, .inl f)), (rd, .inl (cA, 10, .inl u_3.2.2.2)), (ro, .inl (cA, 15, .inl (upd g (Int32.toNatClampNeg (nI (3 * i))) (jKindOf (f (3 * i))))))] := hD
            rw [show upd g (Int32.toNatClampNeg (nI (3 * i))) (jKindOf (f (3 * i))) = upd g (3 * i) (jKindOf (f (3 * i))) from by rw [z_nat (by omega)]] at hP hD
            refine lv_aload_n hx hb dX5_court_64 rfl (lv_at hl 0 rfl) ?_
            refine va_get (D := D) (ci := 5) (v := .ref ro) (C := RX5) (T := TX5) (N := 35) hx hb hts hiX5 hown hK hP 0 rfl rfl 16 (by decide) (hts (.fieldLink RX5 16 "HeardSecondModel" "rows" "[I") (by decide +kernel)) (fun _ h9 => h9) rfl dX5_court_65 ?_
            refine lv_iconst (v := 3) hx hb dX5_court_68 (by decide) ?_
            refine lv_iload_n hx hb dX5_court_69 rfl (lv_at hl 1 rfl) ?_
            refine lv_imul hx hb dX5_court_70 ?_
            refine lv_iconst (v := 1) hx hb dX5_court_71 (by decide) ?_
            refine lv_iadd hx hb dX5_court_72 ?_
            refine z_top (y := nI (3 * i + 1)) (nI_31 i) ?_
            refine lv_aload_n hx hb dX5_court_73 rfl (lv_at hl 0 rfl) ?_
            refine va_get (D := D) (ci := 5) (v := .ref rd) (C := RX5) (T := TX5) (N := 35) hx hb hts hiX5 hown hK hP 0 rfl rfl 2 (by decide) (hts (.fieldLink RX5 13 "HeardSecondModel" "read" "[I") (by decide +kernel)) (fun _ h9 => h9) rfl dX5_court_74 ?_
            refine lv_iconst (v := 2) hx hb dX5_court_77 (by decide) ?_
            refine lv_iload_n hx hb dX5_court_78 rfl (lv_at hl 1 rfl) ?_
            refine lv_imul hx hb dX5_court_79 ?_
            refine lv_iconst (v := 1) hx hb dX5_court_80 (by decide) ?_
            refine lv_iadd hx hb dX5_court_81 ?_
            refine z_top (y := nI (2 * i + 1)) (nI_21 i) ?_
            refine va_iald hx hb hK hP 2 0 rfl rfl (z_inN (by omega) (by decide)) dX5_court_82 ?_
            refine z_top (y := f (3 * i + 1) - 48) (by rw [z_nat (by omega)]; exact (hcn_ i hlti_).2) ?_
            refine va_iast hx hb hK hP hD hS 3 0 rfl rfl (z_inN (by omega) (by decide)) dX5_court_83 (fun H locs hP hD hS => ?_)
            have hP : va_P D vwCl [(m0, .inr (5, [.ref pg, .int (nI n), .ref rd, .int u_3.1, .int u_3.2.1, .int u_3.2.2.1, .int (nI (jSeats n)), .int (f (n - 1) - 48), .int nw, .int ou, .int si, .int en, .int w0, .int w1, .int br, .int cr, .ref ro, .ref fa, .ref wo, .ref ah, .int pf, .int (nI t), .ref he, .ref wy, .ref on_, .ref pa, .ref kr, .ref kn, .ref kh, .int kt, .int kc, .int sd, .ref sr, .ref sn, .long ha])), (pg, .inl (cA, 18, .inl f)), (rd, .inl (cA, 10, .inl u_3.2.2.2)), (ro, .inl (cA, 15, .inl (upd (upd g (3 * i) (jKindOf (f (3 * i)))) (Int32.toNatClampNeg (nI (3 * i + 1))) (f (3 * i + 1) - 48))))] H := hP
            have hD : va_D A [(m0, .inr (5, [.ref pg, .int (nI n), .ref rd, .int u_3.1, .int u_3.2.1, .int u_3.2.2.1, .int (nI (jSeats n)), .int (f (n - 1) - 48), .int nw, .int ou, .int si, .int en, .int w0, .int w1, .int br, .int cr, .ref ro, .ref fa, .ref wo, .ref ah, .int pf, .int (nI t), .ref he, .ref wy, .ref on_, .ref pa, .ref kr, .ref kn, .ref kh, .int kt, .int kc, .int sd, .ref sr, .ref sn, .long ha])), (pg, .inl (cA, 18, .inl f)), (rd, .inl (cA, 10, .inl u_3.2.2.2)), (ro, .inl (cA, 15, .inl (upd (upd g (3 * i) (jKindOf (f (3 * i)))) (Int32.toNatClampNeg (nI (3 * i + 1))) (f (3 * i + 1) - 48))))] := hD
            rw [show upd (upd g (3 * i) (jKindOf (f (3 * i)))) (Int32.toNatClampNeg (nI (3 * i + 1))) (f (3 * i + 1) - 48) = upd (upd g (3 * i) (jKindOf (f (3 * i)))) (3 * i + 1) (f (3 * i + 1) - 48) from by rw [z_nat (by omega)]] at hP hD
            refine lv_aload_n hx hb dX5_court_84 rfl (lv_at hl 0 rfl) ?_
            refine va_get (D := D) (ci := 5) (v := .ref ro) (C := RX5) (T := TX5) (N := 35) hx hb hts hiX5 hown hK hP 0 rfl rfl 16 (by decide) (hts (.fieldLink RX5 16 "HeardSecondModel" "rows" "[I") (by decide +kernel)) (fun _ h9 => h9) rfl dX5_court_85 ?_
            refine lv_iconst (v := 3) hx hb dX5_court_88 (by decide) ?_
            refine lv_iload_n hx hb dX5_court_89 rfl (lv_at hl 1 rfl) ?_
            refine lv_imul hx hb dX5_court_90 ?_
            refine lv_iconst (v := 2) hx hb dX5_court_91 (by decide) ?_
            refine lv_iadd hx hb dX5_court_92 ?_
            refine z_top (y := nI (3 * i + 2)) (nI_32 i) ?_
            refine lv_iconst (v := 0) hx hb dX5_court_93 (by decide) ?_
            refine va_iast hx hb hK hP hD hS 3 0 rfl rfl (z_inN (by omega) (by decide)) dX5_court_94 (fun H locs hP hD hS => ?_)
            have hP : va_P D vwCl [(m0, .inr (5, [.ref pg, .int (nI n), .ref rd, .int u_3.1, .int u_3.2.1, .int u_3.2.2.1, .int (nI (jSeats n)), .int (f (n - 1) - 48), .int nw, .int ou, .int si, .int en, .int w0, .int w1, .int br, .int cr, .ref ro, .ref fa, .ref wo, .ref ah, .int pf, .int (nI t), .ref he, .ref wy, .ref on_, .ref pa, .ref kr, .ref kn, .ref kh, .int kt, .int kc, .int sd, .ref sr, .ref sn, .long ha])), (pg, .inl (cA, 18, .inl f)), (rd, .inl (cA, 10, .inl u_3.2.2.2)), (ro, .inl (cA, 15, .inl (upd (upd (upd g (3 * i) (jKindOf (f (3 * i)))) (3 * i + 1) (f (3 * i + 1) - 48)) (Int32.toNatClampNeg (nI (3 * i + 2))) 0)))] H := hP
            have hD : va_D A [(m0, .inr (5, [.ref pg, .int (nI n), .ref rd, .int u_3.1, .int u_3.2.1, .int u_3.2.2.1, .int (nI (jSeats n)), .int (f (n - 1) - 48), .int nw, .int ou, .int si, .int en, .int w0, .int w1, .int br, .int cr, .ref ro, .ref fa, .ref wo, .ref ah, .int pf, .int (nI t), .ref he, .ref wy, .ref on_, .ref pa, .ref kr, .ref kn, .ref kh, .int kt, .int kc, .int sd, .ref sr, .ref sn, .long ha])), (pg, .inl (cA, 18, .inl f)), (rd, .inl (cA, 10, .inl u_3.2.2.2)), (ro, .inl (cA, 15, .inl (upd (upd (upd g (3 * i) (jKindOf (f (3 * i)))) (3 * i + 1) (f (3 * i + 1) - 48)) (Int32.toNatClampNeg (nI (3 * i + 2))) 0)))] := hD
            rw [show upd (upd (upd g (3 * i) (jKindOf (f (3 * i)))) (3 * i + 1) (f (3 * i + 1) - 48)) (Int32.toNatClampNeg (nI (3 * i + 2))) 0 = upd (upd (upd g (3 * i) (jKindOf (f (3 * i)))) (3 * i + 1) (f (3 * i + 1) - 48)) (3 * i + 2) 0 from by rw [z_nat (by omega)]] at hP hD
            refine lv_iinc (v := nI (i + 1)) (lv' := [(1, .int (nI (i + 1))), (0, .ref m0)]) hx hb dX5_court_95 hl (k := 1) rfl (nI_1 i) (by decide) rfl (fun ls hl => ?_)
            refine lv_goto (tgt := 40) hx hb dX5_court_98 (by decide) ?_
            exact ih7 (i + 1) (upd (upd (upd g (3 * i) (jKindOf (f (3 * i)))) (3 * i + 1) (f (3 * i + 1) - 48)) (3 * i + 2) 0) (by omega) (by first | assumption | omega) (by clear hret hl hS hD hP hK hA hN hts hx hb hr hml hown hlocks hiX5 ih7; exact mRows_step hg) _ _ _ hP hD hS (lv_sub hl [1, 0] rfl)
      exact L40 6 0 r (by omega) (by first | assumption | omega) (by clear hret hl hS hD hP hK hA hN hts hx hb hr hml hown hlocks hiX5 L40; intro p; rw [if_neg (by omega)]) _ _ _ hP hD hS (lv_sub hl [1, 0] rfl)
    · skip
      exact absurd hst_ c16_6
abbrev rm_c_X5_counts : Room := { frames := 0, cells := 0, slots := 0, locals := 0 }
set_option maxHeartbeats 400000 in
set_option maxRecDepth 20000 in
theorem c_X5_counts {l : Launch} {D : va_G} {cA : ClassId} {m0 : Nat} {pg : Nat} {rd : Nat} {ro : Nat} {fa : Nat} {wo : Nat} {ah : Nat} {he : Nat} {wy : Nat} {on_ : Nat} {pa : Nat} {kr : Nat} {kn : Nat} {kh : Nat} {sr : Nat} {sn : Nat} {n : Nat} {N : Nat} {t : Nat} {rmy : Int32} {rpt : Int32} {sta : Int32} {pt : Int32} {nw : Int32} {ou : Int32} {si : Int32} {en : Int32} {w0 : Int32} {w1 : Int32} {br : Int32} {cr : Int32} {pf : Int32} {kt : Int32} {kc : Int32} {sd : Int32} {ha : Int64} {r : Nat → Int32} {sx : Nat} {k : Nat} (hs : sx < 5) (hk : k < 64) : zMi l yX5_counts wsX5_counts rm_c_X5_counts D cA [(m0, .inr (5, [.ref pg, .int (nI n), .ref rd, .int rmy, .int rpt, .int sta, .int (nI N), .int pt, .int nw, .int ou, .int si, .int en, .int w0, .int w1, .int br, .int cr, .ref ro, .ref fa, .ref wo, .ref ah, .int pf, .int (nI t), .ref he, .ref wy, .ref on_, .ref pa, .ref kr, .ref kn, .ref kh, .int kt, .int kc, .int sd, .ref sr, .ref sn, .long ha])), (ro, .inl (cA, 15, .inl r))] [.ref m0, .int (nI sx), .int (nI k)] (fun (ret_ : Int32) (_ : Unit) => ret_ = bI (mCounts r ou sx k)) (fun (_ : Unit) => [(m0, .inr (5, [.ref pg, .int (nI n), .ref rd, .int rmy, .int rpt, .int sta, .int (nI N), .int pt, .int nw, .int ou, .int si, .int en, .int w0, .int w1, .int br, .int cr, .ref ro, .ref fa, .ref wo, .ref ah, .int pf, .int (nI t), .ref he, .ref wy, .ref on_, .ref pa, .ref kr, .ref kn, .ref kh, .int kt, .int kc, .int sd, .ref sr, .ref sn, .long ha])), (ro, .inl (cA, 15, .inl r))]) := by
  refine z_enteri (cc := cX5_counts) (maxL := 6) (ty := .boolean) (by decide) rfl (Nat.le_of_ble_eq_true rfl) (fun p e s m args below meth c ls A H0 H locs Q hi_ hA hK hP hD hS hl hret => ?_)
  obtain ⟨hx, hb, hr, hml, hown, hts, hlocks, hN⟩ := hi_
  have hl : lv_has ls 6 [(0, .ref m0), (1, .int (nI sx)), (2, .int (nI k))] := hl
  have hiX5 : ∀ w ∈ wsX50, w ∈ wsX5_counts := by decide +kernel
  refine lv_iload_n hx hb dX5_counts_0 rfl (lv_at hl 2 rfl) ?_
  refine lv_bipush (v := 8) hx hb dX5_counts_1 (by decide) ?_
  refine lv_idiv hx hb dX5_counts_3 (by decide) ?_
  refine z_top (y := nI (k / 8)) (z_d8 k (by omega)) ?_
  refine lv_istore_n (lv' := [(3, .int (nI (k / 8))), (0, .ref m0), (1, .int (nI sx)), (2, .int (nI k))]) hx hb dX5_counts_4 rfl hl (by decide) rfl (fun ls hl => ?_)
  refine lv_aload_n hx hb dX5_counts_5 rfl (lv_at hl 1 rfl) ?_
  refine va_get (D := D) (ci := 5) (v := .ref ro) (C := RX5) (T := TX5) (N := 35) hx hb hts hiX5 hown hK hP 0 rfl rfl 16 (by decide) (hts (.fieldLink RX5 16 "HeardSecondModel" "rows" "[I") (by decide +kernel)) (fun _ h9 => h9) rfl dX5_counts_6 ?_
  refine lv_iconst (v := 3) hx hb dX5_counts_9 (by decide) ?_
  refine lv_iload_n hx hb dX5_counts_10 rfl (lv_at hl 2 rfl) ?_
  refine lv_imul hx hb dX5_counts_11 ?_
  refine z_top (y := nI (3 * sx)) (nI_3 sx) ?_
  refine va_iald hx hb hK hP 1 0 rfl rfl (z_inN (by omega) (by decide)) dX5_counts_12 ?_
  refine z_top (y := r (3 * sx)) (by rw [z_nat (by omega)]) ?_
  refine lv_istore (lv' := [(4, .int (r (3 * sx))), (3, .int (nI (k / 8))), (0, .ref m0), (1, .int (nI sx)), (2, .int (nI k))]) hx hb dX5_counts_13 hl (by decide) rfl (fun ls hl => ?_)
  refine lv_iload_n hx hb dX5_counts_15 rfl (lv_at hl 1 rfl) ?_
  refine lv_iconst (v := 5) hx hb dX5_counts_16 (by decide) ?_
  refine lv_icmp_ge (tgt := 38) hx hb dX5_counts_17 (by decide) (fun c17_1 => ?_) (fun c17_1 => ?_)
  · skip
    refine lv_iconst (v := 0) hx hb dX5_counts_38 (by decide) ?_
    refine lv_istore (lv' := [(5, .int 0), (4, .int (r (3 * sx))), (3, .int (nI (k / 8))), (0, .ref m0), (1, .int (nI sx)), (2, .int (nI k))]) hx hb dX5_counts_39 hl (by decide) rfl (fun ls hl => ?_)
    refine lv_aload_n hx hb dX5_counts_41 rfl (lv_at hl 3 rfl) ?_
    refine va_get (D := D) (ci := 5) (v := .int ou) (C := RX5) (T := TX5) (N := 35) hx hb hts hiX5 hown hK hP 0 rfl rfl 9 (by decide) (hts (.fieldLink RX5 100 "HeardSecondModel" "out" "I") (by decide +kernel)) (fun _ h9 => h9) rfl dX5_counts_42 ?_
    refine lv_iload_n hx hb dX5_counts_45 rfl (lv_at hl 4 rfl) ?_
    refine lv_ishr hx hb dX5_counts_46 ?_
    refine lv_iconst (v := 1) hx hb dX5_counts_47 (by decide) ?_
    refine lv_iand hx hb dX5_counts_48 ?_
    refine lv_if_ne (tgt := 73) hx hb dX5_counts_49 (by decide) (fun c49_2 => ?_) (fun c49_2 => ?_)
    · skip
      refine lv_iconst (v := 0) hx hb dX5_counts_73 (by decide) ?_
      -- path 1
      exact hret (0) () _ _ _ _ dX5_counts_74 (rfl) (by clear hret hl hS hD hP hK hA hN hts hx hb hr hml hown hlocks hiX5; grind [mCounts, bI]) hP hD hS
    · skip
      refine lv_iload hx hb dX5_counts_52 (lv_at hl 1 rfl) ?_
      refine lv_iconst (v := 4) hx hb dX5_counts_54 (by decide) ?_
      refine lv_icmp_eq (tgt := 73) hx hb dX5_counts_55 (by decide) (fun c55_3 => ?_) (fun c55_3 => ?_)
      · skip
        refine lv_iconst (v := 0) hx hb dX5_counts_73 (by decide) ?_
        -- path 2
        exact hret (0) () _ _ _ _ dX5_counts_74 (rfl) (by clear hret hl hS hD hP hK hA hN hts hx hb hr hml hown hlocks hiX5; grind [mCounts, bI]) hP hD hS
      · skip
        refine lv_iload hx hb dX5_counts_58 (lv_at hl 1 rfl) ?_
        refine lv_iconst (v := 1) hx hb dX5_counts_60 (by decide) ?_
        refine lv_icmp_ne (tgt := 69) hx hb dX5_counts_61 (by decide) (fun c61_4 => ?_) (fun c61_4 => ?_)
        · skip
          refine lv_iconst (v := 1) hx hb dX5_counts_69 (by decide) ?_
          refine lv_goto (tgt := 74) hx hb dX5_counts_70 (by decide) ?_
          -- path 3
          exact hret (1) () _ _ _ _ dX5_counts_74 (rfl) (by clear hret hl hS hD hP hK hA hN hts hx hb hr hml hown hlocks hiX5; grind [mCounts, bI]) hP hD hS
        · skip
          refine lv_iload hx hb dX5_counts_64 (lv_at hl 0 rfl) ?_
          refine lv_if_eq (tgt := 73) hx hb dX5_counts_66 (by decide) (fun c66_5 => ?_) (fun c66_5 => ?_)
          · skip
            refine lv_iconst (v := 0) hx hb dX5_counts_73 (by decide) ?_
            -- path 4
            exact hret (0) () _ _ _ _ dX5_counts_74 (rfl) (by clear hret hl hS hD hP hK hA hN hts hx hb hr hml hown hlocks hiX5; grind [mCounts, bI]) hP hD hS
          · skip
            exact absurd (by decide) c66_5
  · skip
    refine lv_iload_n hx hb dX5_counts_20 rfl (lv_at hl 1 rfl) ?_
    refine lv_iload_n hx hb dX5_counts_21 rfl (lv_at hl 3 rfl) ?_
    refine lv_iconst (v := 1) hx hb dX5_counts_22 (by decide) ?_
    refine lv_isub hx hb dX5_counts_23 ?_
    refine lv_icmp_eq (tgt := 34) hx hb dX5_counts_24 (by decide) (fun c24_6 => ?_) (fun c24_6 => ?_)
    · skip
      refine lv_iconst (v := 1) hx hb dX5_counts_34 (by decide) ?_
      refine lv_goto (tgt := 39) hx hb dX5_counts_35 (by decide) ?_
      refine lv_istore (lv' := [(5, .int 1), (4, .int (r (3 * sx))), (3, .int (nI (k / 8))), (0, .ref m0), (1, .int (nI sx)), (2, .int (nI k))]) hx hb dX5_counts_39 hl (by decide) rfl (fun ls hl => ?_)
      refine lv_aload_n hx hb dX5_counts_41 rfl (lv_at hl 3 rfl) ?_
      refine va_get (D := D) (ci := 5) (v := .int ou) (C := RX5) (T := TX5) (N := 35) hx hb hts hiX5 hown hK hP 0 rfl rfl 9 (by decide) (hts (.fieldLink RX5 100 "HeardSecondModel" "out" "I") (by decide +kernel)) (fun _ h9 => h9) rfl dX5_counts_42 ?_
      refine lv_iload_n hx hb dX5_counts_45 rfl (lv_at hl 4 rfl) ?_
      refine lv_ishr hx hb dX5_counts_46 ?_
      refine lv_iconst (v := 1) hx hb dX5_counts_47 (by decide) ?_
      refine lv_iand hx hb dX5_counts_48 ?_
      refine lv_if_ne (tgt := 73) hx hb dX5_counts_49 (by decide) (fun c49_7 => ?_) (fun c49_7 => ?_)
      · skip
        refine lv_iconst (v := 0) hx hb dX5_counts_73 (by decide) ?_
        -- path 5
        exact hret (0) () _ _ _ _ dX5_counts_74 (rfl) (by clear hret hl hS hD hP hK hA hN hts hx hb hr hml hown hlocks hiX5; grind [mCounts, bI]) hP hD hS
      · skip
        refine lv_iload hx hb dX5_counts_52 (lv_at hl 1 rfl) ?_
        refine lv_iconst (v := 4) hx hb dX5_counts_54 (by decide) ?_
        refine lv_icmp_eq (tgt := 73) hx hb dX5_counts_55 (by decide) (fun c55_8 => ?_) (fun c55_8 => ?_)
        · skip
          refine lv_iconst (v := 0) hx hb dX5_counts_73 (by decide) ?_
          -- path 6
          exact hret (0) () _ _ _ _ dX5_counts_74 (rfl) (by clear hret hl hS hD hP hK hA hN hts hx hb hr hml hown hlocks hiX5; grind [mCounts, bI]) hP hD hS
        · skip
          refine lv_iload hx hb dX5_counts_58 (lv_at hl 1 rfl) ?_
          refine lv_iconst (v := 1) hx hb dX5_counts_60 (by decide) ?_
          refine lv_icmp_ne (tgt := 69) hx hb dX5_counts_61 (by decide) (fun c61_9 => ?_) (fun c61_9 => ?_)
          · skip
            refine lv_iconst (v := 1) hx hb dX5_counts_69 (by decide) ?_
            refine lv_goto (tgt := 74) hx hb dX5_counts_70 (by decide) ?_
            -- path 7
            exact hret (1) () _ _ _ _ dX5_counts_74 (rfl) (by clear hret hl hS hD hP hK hA hN hts hx hb hr hml hown hlocks hiX5; grind [mCounts, bI]) hP hD hS
          · skip
            refine lv_iload hx hb dX5_counts_64 (lv_at hl 0 rfl) ?_
            refine lv_if_eq (tgt := 73) hx hb dX5_counts_66 (by decide) (fun c66_10 => ?_) (fun c66_10 => ?_)
            · skip
              exact absurd c66_10 (by decide)
            · skip
              refine lv_iconst (v := 1) hx hb dX5_counts_69 (by decide) ?_
              refine lv_goto (tgt := 74) hx hb dX5_counts_70 (by decide) ?_
              -- path 8
              exact hret (1) () _ _ _ _ dX5_counts_74 (rfl) (by clear hret hl hS hD hP hK hA hN hts hx hb hr hml hown hlocks hiX5; grind [mCounts, bI]) hP hD hS
    · skip
      refine lv_iload_n hx hb dX5_counts_27 rfl (lv_at hl 1 rfl) ?_
      refine lv_iload_n hx hb dX5_counts_28 rfl (lv_at hl 3 rfl) ?_
      refine lv_iconst (v := 1) hx hb dX5_counts_29 (by decide) ?_
      refine lv_iadd hx hb dX5_counts_30 ?_
      refine lv_icmp_ne (tgt := 38) hx hb dX5_counts_31 (by decide) (fun c31_11 => ?_) (fun c31_11 => ?_)
      · skip
        refine lv_iconst (v := 0) hx hb dX5_counts_38 (by decide) ?_
        refine lv_istore (lv' := [(5, .int 0), (4, .int (r (3 * sx))), (3, .int (nI (k / 8))), (0, .ref m0), (1, .int (nI sx)), (2, .int (nI k))]) hx hb dX5_counts_39 hl (by decide) rfl (fun ls hl => ?_)
        refine lv_aload_n hx hb dX5_counts_41 rfl (lv_at hl 3 rfl) ?_
        refine va_get (D := D) (ci := 5) (v := .int ou) (C := RX5) (T := TX5) (N := 35) hx hb hts hiX5 hown hK hP 0 rfl rfl 9 (by decide) (hts (.fieldLink RX5 100 "HeardSecondModel" "out" "I") (by decide +kernel)) (fun _ h9 => h9) rfl dX5_counts_42 ?_
        refine lv_iload_n hx hb dX5_counts_45 rfl (lv_at hl 4 rfl) ?_
        refine lv_ishr hx hb dX5_counts_46 ?_
        refine lv_iconst (v := 1) hx hb dX5_counts_47 (by decide) ?_
        refine lv_iand hx hb dX5_counts_48 ?_
        refine lv_if_ne (tgt := 73) hx hb dX5_counts_49 (by decide) (fun c49_12 => ?_) (fun c49_12 => ?_)
        · skip
          refine lv_iconst (v := 0) hx hb dX5_counts_73 (by decide) ?_
          -- path 9
          exact hret (0) () _ _ _ _ dX5_counts_74 (rfl) (by clear hret hl hS hD hP hK hA hN hts hx hb hr hml hown hlocks hiX5; grind [mCounts, bI]) hP hD hS
        · skip
          refine lv_iload hx hb dX5_counts_52 (lv_at hl 1 rfl) ?_
          refine lv_iconst (v := 4) hx hb dX5_counts_54 (by decide) ?_
          refine lv_icmp_eq (tgt := 73) hx hb dX5_counts_55 (by decide) (fun c55_13 => ?_) (fun c55_13 => ?_)
          · skip
            refine lv_iconst (v := 0) hx hb dX5_counts_73 (by decide) ?_
            -- path 10
            exact hret (0) () _ _ _ _ dX5_counts_74 (rfl) (by clear hret hl hS hD hP hK hA hN hts hx hb hr hml hown hlocks hiX5; grind [mCounts, bI]) hP hD hS
          · skip
            refine lv_iload hx hb dX5_counts_58 (lv_at hl 1 rfl) ?_
            refine lv_iconst (v := 1) hx hb dX5_counts_60 (by decide) ?_
            refine lv_icmp_ne (tgt := 69) hx hb dX5_counts_61 (by decide) (fun c61_14 => ?_) (fun c61_14 => ?_)
            · skip
              refine lv_iconst (v := 1) hx hb dX5_counts_69 (by decide) ?_
              refine lv_goto (tgt := 74) hx hb dX5_counts_70 (by decide) ?_
              -- path 11
              exact hret (1) () _ _ _ _ dX5_counts_74 (rfl) (by clear hret hl hS hD hP hK hA hN hts hx hb hr hml hown hlocks hiX5; grind [mCounts, bI]) hP hD hS
            · skip
              refine lv_iload hx hb dX5_counts_64 (lv_at hl 0 rfl) ?_
              refine lv_if_eq (tgt := 73) hx hb dX5_counts_66 (by decide) (fun c66_15 => ?_) (fun c66_15 => ?_)
              · skip
                refine lv_iconst (v := 0) hx hb dX5_counts_73 (by decide) ?_
                -- path 12
                exact hret (0) () _ _ _ _ dX5_counts_74 (rfl) (by clear hret hl hS hD hP hK hA hN hts hx hb hr hml hown hlocks hiX5; grind [mCounts, bI]) hP hD hS
              · skip
                exact absurd (by decide) c66_15
      · skip
        refine lv_iconst (v := 1) hx hb dX5_counts_34 (by decide) ?_
        refine lv_goto (tgt := 39) hx hb dX5_counts_35 (by decide) ?_
        refine lv_istore (lv' := [(5, .int 1), (4, .int (r (3 * sx))), (3, .int (nI (k / 8))), (0, .ref m0), (1, .int (nI sx)), (2, .int (nI k))]) hx hb dX5_counts_39 hl (by decide) rfl (fun ls hl => ?_)
        refine lv_aload_n hx hb dX5_counts_41 rfl (lv_at hl 3 rfl) ?_
        refine va_get (D := D) (ci := 5) (v := .int ou) (C := RX5) (T := TX5) (N := 35) hx hb hts hiX5 hown hK hP 0 rfl rfl 9 (by decide) (hts (.fieldLink RX5 100 "HeardSecondModel" "out" "I") (by decide +kernel)) (fun _ h9 => h9) rfl dX5_counts_42 ?_
        refine lv_iload_n hx hb dX5_counts_45 rfl (lv_at hl 4 rfl) ?_
        refine lv_ishr hx hb dX5_counts_46 ?_
        refine lv_iconst (v := 1) hx hb dX5_counts_47 (by decide) ?_
        refine lv_iand hx hb dX5_counts_48 ?_
        refine lv_if_ne (tgt := 73) hx hb dX5_counts_49 (by decide) (fun c49_16 => ?_) (fun c49_16 => ?_)
        · skip
          refine lv_iconst (v := 0) hx hb dX5_counts_73 (by decide) ?_
          -- path 13
          exact hret (0) () _ _ _ _ dX5_counts_74 (rfl) (by clear hret hl hS hD hP hK hA hN hts hx hb hr hml hown hlocks hiX5; grind [mCounts, bI]) hP hD hS
        · skip
          refine lv_iload hx hb dX5_counts_52 (lv_at hl 1 rfl) ?_
          refine lv_iconst (v := 4) hx hb dX5_counts_54 (by decide) ?_
          refine lv_icmp_eq (tgt := 73) hx hb dX5_counts_55 (by decide) (fun c55_17 => ?_) (fun c55_17 => ?_)
          · skip
            refine lv_iconst (v := 0) hx hb dX5_counts_73 (by decide) ?_
            -- path 14
            exact hret (0) () _ _ _ _ dX5_counts_74 (rfl) (by clear hret hl hS hD hP hK hA hN hts hx hb hr hml hown hlocks hiX5; grind [mCounts, bI]) hP hD hS
          · skip
            refine lv_iload hx hb dX5_counts_58 (lv_at hl 1 rfl) ?_
            refine lv_iconst (v := 1) hx hb dX5_counts_60 (by decide) ?_
            refine lv_icmp_ne (tgt := 69) hx hb dX5_counts_61 (by decide) (fun c61_18 => ?_) (fun c61_18 => ?_)
            · skip
              refine lv_iconst (v := 1) hx hb dX5_counts_69 (by decide) ?_
              refine lv_goto (tgt := 74) hx hb dX5_counts_70 (by decide) ?_
              -- path 15
              exact hret (1) () _ _ _ _ dX5_counts_74 (rfl) (by clear hret hl hS hD hP hK hA hN hts hx hb hr hml hown hlocks hiX5; grind [mCounts, bI]) hP hD hS
            · skip
              refine lv_iload hx hb dX5_counts_64 (lv_at hl 0 rfl) ?_
              refine lv_if_eq (tgt := 73) hx hb dX5_counts_66 (by decide) (fun c66_19 => ?_) (fun c66_19 => ?_)
              · skip
                exact absurd c66_19 (by decide)
              · skip
                refine lv_iconst (v := 1) hx hb dX5_counts_69 (by decide) ?_
                refine lv_goto (tgt := 74) hx hb dX5_counts_70 (by decide) ?_
                -- path 16
                exact hret (1) () _ _ _ _ dX5_counts_74 (rfl) (by clear hret hl hS hD hP hK hA hN hts hx hb hr hml hown hlocks hiX5; grind [mCounts, bI]) hP hD hS
abbrev rm_c_X5_behind : Room := { frames := 0, cells := 0, slots := 0, locals := 0 }
set_option maxHeartbeats 400000 in
set_option maxRecDepth 20000 in
theorem c_X5_behind {l : Launch} {D : va_G} {cA : ClassId} {m0 : Nat} {pg : Nat} {rd : Nat} {ro : Nat} {fa : Nat} {wo : Nat} {ah : Nat} {he : Nat} {wy : Nat} {on_ : Nat} {pa : Nat} {kr : Nat} {kn : Nat} {kh : Nat} {sr : Nat} {sn : Nat} {n : Nat} {N : Nat} {t : Nat} {rmy : Int32} {rpt : Int32} {sta : Int32} {pt : Int32} {nw : Int32} {ou : Int32} {si : Int32} {en : Int32} {w0 : Int32} {w1 : Int32} {br : Int32} {cr : Int32} {pf : Int32} {kt : Int32} {kc : Int32} {sd : Int32} {ha : Int64} {r : Nat → Int32} {sx : Nat} {k : Nat} (h5 : N ≤ 5) (hs : sx < N) (hk : k < 64) : zMi l yX5_behind wsX5_behind rm_c_X5_behind D cA [(m0, .inr (5, [.ref pg, .int (nI n), .ref rd, .int rmy, .int rpt, .int sta, .int (nI N), .int pt, .int nw, .int ou, .int si, .int en, .int w0, .int w1, .int br, .int cr, .ref ro, .ref fa, .ref wo, .ref ah, .int pf, .int (nI t), .ref he, .ref wy, .ref on_, .ref pa, .ref kr, .ref kn, .ref kh, .int kt, .int kc, .int sd, .ref sr, .ref sn, .long ha])), (ro, .inl (cA, 15, .inl r))] [.ref m0, .int (nI sx), .int (nI k)] (fun (ret_ : Int32) (_ : Unit) => ret_ = nI (mBeh r N sx k)) (fun (_ : Unit) => [(m0, .inr (5, [.ref pg, .int (nI n), .ref rd, .int rmy, .int rpt, .int sta, .int (nI N), .int pt, .int nw, .int ou, .int si, .int en, .int w0, .int w1, .int br, .int cr, .ref ro, .ref fa, .ref wo, .ref ah, .int pf, .int (nI t), .ref he, .ref wy, .ref on_, .ref pa, .ref kr, .ref kn, .ref kh, .int kt, .int kc, .int sd, .ref sr, .ref sn, .long ha])), (ro, .inl (cA, 15, .inl r))]) := by
  refine z_enteri (cc := cX5_behind) (maxL := 7) (ty := .int) (by decide) rfl (Nat.le_of_ble_eq_true rfl) (fun p e s m args below meth c ls A H0 H locs Q hi_ hA hK hP hD hS hl hret => ?_)
  obtain ⟨hx, hb, hr, hml, hown, hts, hlocks, hN⟩ := hi_
  have hl : lv_has ls 7 [(0, .ref m0), (1, .int (nI sx)), (2, .int (nI k))] := hl
  have hiX5 : ∀ w ∈ wsX50, w ∈ wsX5_behind := by decide +kernel
  refine lv_iload_n hx hb dX5_behind_0 rfl (lv_at hl 2 rfl) ?_
  refine lv_bipush (v := 8) hx hb dX5_behind_1 (by decide) ?_
  refine lv_idiv hx hb dX5_behind_3 (by decide) ?_
  refine z_top (y := nI (k / 8)) (z_d8 k (by omega)) ?_
  refine lv_istore_n (lv' := [(3, .int (nI (k / 8))), (0, .ref m0), (1, .int (nI sx)), (2, .int (nI k))]) hx hb dX5_behind_4 rfl hl (by decide) rfl (fun ls hl => ?_)
  refine lv_iload_n hx hb dX5_behind_5 rfl (lv_at hl 0 rfl) ?_
  refine lv_iload_n hx hb dX5_behind_6 rfl (lv_at hl 2 rfl) ?_
  refine lv_icmp_ne (tgt := 12) hx hb dX5_behind_7 (by decide) (fun c7_1 => ?_) (fun c7_1 => ?_)
  · skip
    have e1_ : ¬ k / 8 = sx := fun q_ => c7_1 (by rw [q_]; try rfl)
    refine lv_aload_n hx hb dX5_behind_12 rfl (lv_at hl 1 rfl) ?_
    refine va_get (D := D) (ci := 5) (v := .ref ro) (C := RX5) (T := TX5) (N := 35) hx hb hts hiX5 hown hK hP 0 rfl rfl 16 (by decide) (hts (.fieldLink RX5 16 "HeardSecondModel" "rows" "[I") (by decide +kernel)) (fun _ h9 => h9) rfl dX5_behind_13 ?_
    refine lv_iconst (v := 3) hx hb dX5_behind_16 (by decide) ?_
    refine lv_iload_n hx hb dX5_behind_17 rfl (lv_at hl 2 rfl) ?_
    refine lv_imul hx hb dX5_behind_18 ?_
    refine z_top (y := nI (3 * sx)) (nI_3 sx) ?_
    refine va_iald hx hb hK hP 1 0 rfl rfl (z_inN (by omega) (by decide)) dX5_behind_19 ?_
    refine z_top (y := r (3 * sx)) (by rw [z_nat (by omega)]) ?_
    refine lv_istore (lv' := [(4, .int (r (3 * sx))), (3, .int (nI (k / 8))), (0, .ref m0), (1, .int (nI sx)), (2, .int (nI k))]) hx hb dX5_behind_20 hl (by decide) rfl (fun ls hl => ?_)
    refine lv_iload hx hb dX5_behind_22 (lv_at hl 0 rfl) ?_
    refine lv_iconst (v := 2) hx hb dX5_behind_24 (by decide) ?_
    refine lv_icmp_ne (tgt := 31) hx hb dX5_behind_25 (by decide) (fun c25_2 => ?_) (fun c25_2 => ?_)
    · skip
      refine lv_iload_n hx hb dX5_behind_31 rfl (lv_at hl 3 rfl) ?_
      refine lv_if_ne (tgt := 44) hx hb dX5_behind_32 (by decide) (fun c32_3 => ?_) (fun c32_3 => ?_)
      · skip
        have e2_ : ¬ sx = 0 := fun q_ => c32_3 (by rw [q_]; try rfl)
        refine lv_iload_n hx hb dX5_behind_44 rfl (lv_at hl 3 rfl) ?_
        refine lv_iconst (v := 1) hx hb dX5_behind_45 (by decide) ?_
        refine lv_isub hx hb dX5_behind_46 ?_
        refine z_top (y := nI (sx - 1)) (z_sub (b := 1) (by omega)) ?_
        refine lv_istore (lv' := [(5, .int (nI (sx - 1))), (4, .int (r (3 * sx))), (3, .int (nI (k / 8))), (0, .ref m0), (1, .int (nI sx)), (2, .int (nI k))]) hx hb dX5_behind_47 hl (by decide) rfl (fun ls hl => ?_)
        refine lv_iload_n hx hb dX5_behind_49 rfl (lv_at hl 2 rfl) ?_
        refine lv_bipush (v := 7) hx hb dX5_behind_50 (by decide) ?_
        refine lv_icmp_ne (tgt := 60) hx hb dX5_behind_52 (by decide) (fun c52_4 => ?_) (fun c52_4 => ?_)
        · skip
          have e3_ : ¬ k / 8 = 7 := fun q_ => c52_4 (by rw [q_]; try rfl)
          refine lv_iload hx hb dX5_behind_60 (lv_at hl 1 rfl) ?_
          refine lv_iconst (v := 3) hx hb dX5_behind_62 (by decide) ?_
          refine lv_icmp_ne (tgt := 71) hx hb dX5_behind_63 (by decide) (fun c63_5 => ?_) (fun c63_5 => ?_)
          · skip
            refine lv_iload_n hx hb dX5_behind_71 rfl (lv_at hl 4 rfl) ?_
            refine lv_istore (lv' := [(6, .int (nI sx)), (5, .int (nI (sx - 1))), (4, .int (r (3 * sx))), (3, .int (nI (k / 8))), (0, .ref m0), (1, .int (nI sx)), (2, .int (nI k))]) hx hb dX5_behind_72 hl (by decide) rfl (fun ls hl => ?_)
            refine lv_bipush (v := 8) hx hb dX5_behind_74 (by decide) ?_
            refine lv_iload_n hx hb dX5_behind_76 rfl (lv_at hl 5 rfl) ?_
            refine lv_imul hx hb dX5_behind_77 ?_
            refine lv_iload hx hb dX5_behind_78 (lv_at hl 0 rfl) ?_
            refine lv_iadd hx hb dX5_behind_80 ?_
            refine z_top (y := nI (8 * sx + sx)) (z_8 sx sx) ?_
            -- path 1
            exact hret (nI (8 * sx + sx)) () _ _ _ _ dX5_behind_81 (rfl) (by clear hret hl hS hD hP hK hA hN hts hx hb hr hml hown hlocks hiX5; congr 1; unfold mBeh; grind) hP hD hS
          · skip
            refine lv_iload hx hb dX5_behind_66 (lv_at hl 0 rfl) ?_
            refine lv_goto (tgt := 72) hx hb dX5_behind_68 (by decide) ?_
            refine lv_istore (lv' := [(6, .int (nI (sx - 1))), (5, .int (nI (sx - 1))), (4, .int (r (3 * sx))), (3, .int (nI (k / 8))), (0, .ref m0), (1, .int (nI sx)), (2, .int (nI k))]) hx hb dX5_behind_72 hl (by decide) rfl (fun ls hl => ?_)
            refine lv_bipush (v := 8) hx hb dX5_behind_74 (by decide) ?_
            refine lv_iload_n hx hb dX5_behind_76 rfl (lv_at hl 5 rfl) ?_
            refine lv_imul hx hb dX5_behind_77 ?_
            refine lv_iload hx hb dX5_behind_78 (lv_at hl 0 rfl) ?_
            refine lv_iadd hx hb dX5_behind_80 ?_
            refine z_top (y := nI (8 * sx + (sx - 1))) (z_8 sx (sx - 1)) ?_
            -- path 2
            exact hret (nI (8 * sx + (sx - 1))) () _ _ _ _ dX5_behind_81 (rfl) (by clear hret hl hS hD hP hK hA hN hts hx hb hr hml hown hlocks hiX5; congr 1; unfold mBeh; grind) hP hD hS
        · skip
          have e3_ := (nI_eq (a := k / 8) (b := 7) (by omega) (by omega)).mp c52_4
          refine lv_bipush (v := nI 7) hx hb dX5_behind_55 (by decide) ?_
          refine lv_goto (tgt := 72) hx hb dX5_behind_57 (by decide) ?_
          refine lv_istore (lv' := [(6, .int (nI 7)), (5, .int (nI (sx - 1))), (4, .int (r (3 * sx))), (3, .int (nI (k / 8))), (0, .ref m0), (1, .int (nI sx)), (2, .int (nI k))]) hx hb dX5_behind_72 hl (by decide) rfl (fun ls hl => ?_)
          refine lv_bipush (v := 8) hx hb dX5_behind_74 (by decide) ?_
          refine lv_iload_n hx hb dX5_behind_76 rfl (lv_at hl 5 rfl) ?_
          refine lv_imul hx hb dX5_behind_77 ?_
          refine lv_iload hx hb dX5_behind_78 (lv_at hl 0 rfl) ?_
          refine lv_iadd hx hb dX5_behind_80 ?_
          refine z_top (y := nI (8 * sx + 7)) (z_8 sx 7) ?_
          -- path 3
          exact hret (nI (8 * sx + 7)) () _ _ _ _ dX5_behind_81 (rfl) (by clear hret hl hS hD hP hK hA hN hts hx hb hr hml hown hlocks hiX5; congr 1; unfold mBeh; grind) hP hD hS
      · skip
        have e2_ := (nI_eq (a := sx) (b := 0) (by omega) (by omega)).mp c32_3
        refine lv_aload_n hx hb dX5_behind_35 rfl (lv_at hl 2 rfl) ?_
        refine va_get (D := D) (ci := 5) (v := .int (nI N)) (C := RX5) (T := TX5) (N := 35) hx hb hts hiX5 hown hK hP 0 rfl rfl 6 (by decide) (hts (.fieldLink RX5 94 "HeardSecondModel" "seats" "I") (by decide +kernel)) (fun _ h9 => h9) rfl dX5_behind_36 ?_
        refine lv_iconst (v := 1) hx hb dX5_behind_39 (by decide) ?_
        refine lv_isub hx hb dX5_behind_40 ?_
        refine z_top (y := nI (N - 1)) (z_sub (b := 1) (by omega)) ?_
        refine lv_goto (tgt := 47) hx hb dX5_behind_41 (by decide) ?_
        refine lv_istore (lv' := [(5, .int (nI (N - 1))), (4, .int (r (3 * sx))), (3, .int (nI (k / 8))), (0, .ref m0), (1, .int (nI sx)), (2, .int (nI k))]) hx hb dX5_behind_47 hl (by decide) rfl (fun ls hl => ?_)
        refine lv_iload_n hx hb dX5_behind_49 rfl (lv_at hl 2 rfl) ?_
        refine lv_bipush (v := 7) hx hb dX5_behind_50 (by decide) ?_
        refine lv_icmp_ne (tgt := 60) hx hb dX5_behind_52 (by decide) (fun c52_6 => ?_) (fun c52_6 => ?_)
        · skip
          have e3_ : ¬ k / 8 = 7 := fun q_ => c52_6 (by rw [q_]; try rfl)
          refine lv_iload hx hb dX5_behind_60 (lv_at hl 1 rfl) ?_
          refine lv_iconst (v := 3) hx hb dX5_behind_62 (by decide) ?_
          refine lv_icmp_ne (tgt := 71) hx hb dX5_behind_63 (by decide) (fun c63_7 => ?_) (fun c63_7 => ?_)
          · skip
            refine lv_iload_n hx hb dX5_behind_71 rfl (lv_at hl 4 rfl) ?_
            refine lv_istore (lv' := [(6, .int (nI sx)), (5, .int (nI (N - 1))), (4, .int (r (3 * sx))), (3, .int (nI (k / 8))), (0, .ref m0), (1, .int (nI sx)), (2, .int (nI k))]) hx hb dX5_behind_72 hl (by decide) rfl (fun ls hl => ?_)
            refine lv_bipush (v := 8) hx hb dX5_behind_74 (by decide) ?_
            refine lv_iload_n hx hb dX5_behind_76 rfl (lv_at hl 5 rfl) ?_
            refine lv_imul hx hb dX5_behind_77 ?_
            refine lv_iload hx hb dX5_behind_78 (lv_at hl 0 rfl) ?_
            refine lv_iadd hx hb dX5_behind_80 ?_
            refine z_top (y := nI (8 * sx + sx)) (z_8 sx sx) ?_
            -- path 4
            exact hret (nI (8 * sx + sx)) () _ _ _ _ dX5_behind_81 (rfl) (by clear hret hl hS hD hP hK hA hN hts hx hb hr hml hown hlocks hiX5; congr 1; unfold mBeh; grind) hP hD hS
          · skip
            refine lv_iload hx hb dX5_behind_66 (lv_at hl 0 rfl) ?_
            refine lv_goto (tgt := 72) hx hb dX5_behind_68 (by decide) ?_
            refine lv_istore (lv' := [(6, .int (nI (N - 1))), (5, .int (nI (N - 1))), (4, .int (r (3 * sx))), (3, .int (nI (k / 8))), (0, .ref m0), (1, .int (nI sx)), (2, .int (nI k))]) hx hb dX5_behind_72 hl (by decide) rfl (fun ls hl => ?_)
            refine lv_bipush (v := 8) hx hb dX5_behind_74 (by decide) ?_
            refine lv_iload_n hx hb dX5_behind_76 rfl (lv_at hl 5 rfl) ?_
            refine lv_imul hx hb dX5_behind_77 ?_
            refine lv_iload hx hb dX5_behind_78 (lv_at hl 0 rfl) ?_
            refine lv_iadd hx hb dX5_behind_80 ?_
            refine z_top (y := nI (8 * sx + (N - 1))) (z_8 sx (N - 1)) ?_
            -- path 5
            exact hret (nI (8 * sx + (N - 1))) () _ _ _ _ dX5_behind_81 (rfl) (by clear hret hl hS hD hP hK hA hN hts hx hb hr hml hown hlocks hiX5; congr 1; unfold mBeh; grind) hP hD hS
        · skip
          have e3_ := (nI_eq (a := k / 8) (b := 7) (by omega) (by omega)).mp c52_6
          refine lv_bipush (v := nI 7) hx hb dX5_behind_55 (by decide) ?_
          refine lv_goto (tgt := 72) hx hb dX5_behind_57 (by decide) ?_
          refine lv_istore (lv' := [(6, .int (nI 7)), (5, .int (nI (N - 1))), (4, .int (r (3 * sx))), (3, .int (nI (k / 8))), (0, .ref m0), (1, .int (nI sx)), (2, .int (nI k))]) hx hb dX5_behind_72 hl (by decide) rfl (fun ls hl => ?_)
          refine lv_bipush (v := 8) hx hb dX5_behind_74 (by decide) ?_
          refine lv_iload_n hx hb dX5_behind_76 rfl (lv_at hl 5 rfl) ?_
          refine lv_imul hx hb dX5_behind_77 ?_
          refine lv_iload hx hb dX5_behind_78 (lv_at hl 0 rfl) ?_
          refine lv_iadd hx hb dX5_behind_80 ?_
          refine z_top (y := nI (8 * sx + 7)) (z_8 sx 7) ?_
          -- path 6
          exact hret (nI (8 * sx + 7)) () _ _ _ _ dX5_behind_81 (rfl) (by clear hret hl hS hD hP hK hA hN hts hx hb hr hml hown hlocks hiX5; congr 1; unfold mBeh; grind) hP hD hS
    · skip
      refine lv_bipush (v := nI 47) hx hb dX5_behind_28 (by decide) ?_
      -- path 7
      exact hret (nI 47) () _ _ _ _ dX5_behind_30 (rfl) (by clear hret hl hS hD hP hK hA hN hts hx hb hr hml hown hlocks hiX5; congr 1; unfold mBeh; grind) hP hD hS
  · skip
    have e1_ := (nI_eq (a := k / 8) (b := sx) (by omega) (by omega)).mp c7_1
    refine lv_iload_n hx hb dX5_behind_10 rfl (lv_at hl 3 rfl) ?_
    -- path 8
    exact hret (nI k) () _ _ _ _ dX5_behind_11 (rfl) (by clear hret hl hS hD hP hK hA hN hts hx hb hr hml hown hlocks hiX5; congr 1; unfold mBeh; grind) hP hD hS
abbrev rm_c_X5_ones : Room := { frames := 0, cells := 0, slots := 0, locals := 0 }
set_option maxHeartbeats 400000 in
set_option maxRecDepth 20000 in
theorem c_X5_ones {l : Launch} {D : va_G} {cA : ClassId} {x : Int32} : zMi l yX5_ones wsX5_ones rm_c_X5_ones D cA [] [.int x] (fun (ret_ : Int32) (_ : Unit) => ret_ = mOnes x 8) (fun (_ : Unit) => []) := by
  refine z_enteri (cc := cX5_ones) (maxL := 3) (ty := .int) (by decide) rfl (Nat.le_of_ble_eq_true rfl) (fun p e s m args below meth c ls A H0 H locs Q hi_ hA hK hP hD hS hl hret => ?_)
  obtain ⟨hx, hb, hr, hml, hown, hts, hlocks, hN⟩ := hi_
  have hl : lv_has ls 3 [(0, .int x)] := hl
  refine lv_iconst (v := 0) hx hb dX5_ones_0 (by decide) ?_
  refine lv_istore_n (lv' := [(1, .int 0), (0, .int x)]) hx hb dX5_ones_1 rfl hl (by decide) rfl (fun ls hl => ?_)
  refine lv_iconst (v := nI 0) hx hb dX5_ones_2 (by decide) ?_
  refine lv_istore_n (lv' := [(2, .int (nI 0)), (1, .int 0), (0, .int x)]) hx hb dX5_ones_3 rfl hl (by decide) rfl (fun ls hl => ?_)
  have L4 : ∀ (n_ : Nat) (k : Nat) (v : Int32) (hm_ : 9 ≤ k + n_) (hk : k ≤ 8) (hv : v = mOnes x k) (H : Heap) (locs : List Loc) (ls : Array Slot), va_P D vwCl [] H → va_D A [] → va_S A H0 H locs → lv_has ls 3 [(0, .int x), (1, .int v), (2, .int (nI k))] → W p l e rm_c_X5_ones s m args below meth c H locs 0 0 Q (F0 m 4 ls []) := by
    intro n_
    induction n_ with
    | zero =>
      intro k v hm_ hk hv
      exact absurd hm_ (by omega)
    | succ n_ ih_ =>
      intro k v hm_ hk hv H locs ls hP hD hS hl
      have ih1 := ih_
      clear ih_
      refine lv_iload_n hx hb dX5_ones_4 rfl (lv_at hl 2 rfl) ?_
      refine lv_bipush (v := 8) hx hb dX5_ones_5 (by decide) ?_
      refine lv_icmp_ge (tgt := 24) hx hb dX5_ones_7 (by decide) (fun c7_2 => ?_) (fun c7_2 => ?_)
      · skip
        have ht_ : k = 8 := by have := (nI_leI (a := 8) (b := k) (by omega) (by omega)).mp c7_2; omega
        refine lv_iload_n hx hb dX5_ones_24 rfl (lv_at hl 1 rfl) ?_
        -- path 1
        exact hret (v) () _ _ _ _ dX5_ones_25 (rfl) (by clear hret hl hS hD hP hK hA hN hts hx hb hr hml hown hlocks  ih1; rw [hv, ht_]) hP hD hS
      · skip
        have hltk : k < 8 := Nat.lt_of_not_le (fun q_ => c7_2 ((nI_leI (a := 8) (b := k) (by omega) (by omega)).mpr q_))
        refine lv_iload_n hx hb dX5_ones_10 rfl (lv_at hl 1 rfl) ?_
        refine lv_iload_n hx hb dX5_ones_11 rfl (lv_at hl 0 rfl) ?_
        refine lv_iload_n hx hb dX5_ones_12 rfl (lv_at hl 2 rfl) ?_
        refine lv_ishr hx hb dX5_ones_13 ?_
        refine lv_iconst (v := 1) hx hb dX5_ones_14 (by decide) ?_
        refine lv_iand hx hb dX5_ones_15 ?_
        refine lv_iadd hx hb dX5_ones_16 ?_
        refine lv_istore_n (lv' := [(1, .int (v + ((x >>> ((nI k) &&& 31)) &&& 1))), (0, .int x), (2, .int (nI k))]) hx hb dX5_ones_17 rfl hl (by decide) rfl (fun ls hl => ?_)
        refine lv_iinc (v := nI (k + 1)) (lv' := [(2, .int (nI (k + 1))), (1, .int (v + ((x >>> ((nI k) &&& 31)) &&& 1))), (0, .int x)]) hx hb dX5_ones_18 hl (k := 2) rfl (nI_1 k) (by decide) rfl (fun ls hl => ?_)
        refine lv_goto (tgt := 4) hx hb dX5_ones_21 (by decide) ?_
        exact ih1 (k + 1) (v + ((x >>> ((nI k) &&& 31)) &&& 1)) (by omega) (by first | assumption | omega) (by clear hret hl hS hD hP hK hA hN hts hx hb hr hml hown hlocks  ih1; rw [mOnes, ← hv]) _ _ _ hP hD hS (lv_sub hl [2, 1, 0] rfl)
  exact L4 9 0 0 (by omega) (by first | assumption | omega) (by rfl) _ _ _ hP hD hS (lv_sub hl [2, 1, 0] rfl)
abbrev rm_c_X5_counting : Room := { frames := 1, cells := 0, slots := 0, locals := 25 }
set_option maxHeartbeats 400000 in
set_option maxRecDepth 20000 in
theorem c_X5_counting {l : Launch} {D : va_G} {cA : ClassId} {m0 : Nat} {pg : Nat} {rd : Nat} {ro : Nat} {fa : Nat} {wo : Nat} {ah : Nat} {he : Nat} {wy : Nat} {on_ : Nat} {pa : Nat} {kr : Nat} {kn : Nat} {kh : Nat} {sr : Nat} {sn : Nat} {n : Nat} {N : Nat} {t : Nat} {rmy : Int32} {rpt : Int32} {sta : Int32} {pt : Int32} {ou : Int32} {si : Int32} {en : Int32} {w0 : Int32} {w1 : Int32} {br : Int32} {cr : Int32} {pf : Int32} {kt : Int32} {kc : Int32} {sd : Int32} {ha : Int64} {r : Nat → Int32} {who : Int32} {k : Nat} (h5 : N ≤ 5) (hk : k < 64) : zMi l yX5_counting wsX5_counting rm_c_X5_counting D cA [(m0, .inr (5, [.ref pg, .int (nI n), .ref rd, .int rmy, .int rpt, .int sta, .int (nI N), .int pt, .int (nI k), .int ou, .int si, .int en, .int w0, .int w1, .int br, .int cr, .ref ro, .ref fa, .ref wo, .ref ah, .int pf, .int (nI t), .ref he, .ref wy, .ref on_, .ref pa, .ref kr, .ref kn, .ref kh, .int kt, .int kc, .int sd, .ref sr, .ref sn, .long ha])), (ro, .inl (cA, 15, .inl r))] [.ref m0, .int who] (fun (ret_ : Int32) (_ : Unit) => ret_ = mBits r ou who k N) (fun (_ : Unit) => [(m0, .inr (5, [.ref pg, .int (nI n), .ref rd, .int rmy, .int rpt, .int sta, .int (nI N), .int pt, .int (nI k), .int ou, .int si, .int en, .int w0, .int w1, .int br, .int cr, .ref ro, .ref fa, .ref wo, .ref ah, .int pf, .int (nI t), .ref he, .ref wy, .ref on_, .ref pa, .ref kr, .ref kn, .ref kh, .int kt, .int kc, .int sd, .ref sr, .ref sn, .long ha])), (ro, .inl (cA, 15, .inl r))]) := by
  refine z_enteri (cc := cX5_counting) (maxL := 4) (ty := .int) (by decide) rfl (Nat.le_of_ble_eq_true rfl) (fun p e s m args below meth c ls A H0 H locs Q hi_ hA hK hP hD hS hl hret => ?_)
  obtain ⟨hx, hb, hr, hml, hown, hts, hlocks, hN⟩ := hi_
  have hl : lv_has ls 4 [(0, .ref m0), (1, .int who)] := hl
  have hiX5 : ∀ w ∈ wsX50, w ∈ wsX5_counting := by decide +kernel
  refine lv_iconst (v := 0) hx hb dX5_counting_0 (by decide) ?_
  refine lv_istore_n (lv' := [(2, .int 0), (0, .ref m0), (1, .int who)]) hx hb dX5_counting_1 rfl hl (by decide) rfl (fun ls hl => ?_)
  refine lv_iconst (v := nI 0) hx hb dX5_counting_2 (by decide) ?_
  refine lv_istore_n (lv' := [(3, .int (nI 0)), (2, .int 0), (0, .ref m0), (1, .int who)]) hx hb dX5_counting_3 rfl hl (by decide) rfl (fun ls hl => ?_)
  have L4 : ∀ (n_ : Nat) (sx : Nat) (v : Int32) (hm_ : N + 1 ≤ sx + n_) (hs : sx ≤ N) (hv : v = mBits r ou who k sx) (H : Heap) (locs : List Loc) (ls : Array Slot), va_P D vwCl [(m0, .inr (5, [.ref pg, .int (nI n), .ref rd, .int rmy, .int rpt, .int sta, .int (nI N), .int pt, .int (nI k), .int ou, .int si, .int en, .int w0, .int w1, .int br, .int cr, .ref ro, .ref fa, .ref wo, .ref ah, .int pf, .int (nI t), .ref he, .ref wy, .ref on_, .ref pa, .ref kr, .ref kn, .ref kh, .int kt, .int kc, .int sd, .ref sr, .ref sn, .long ha])), (ro, .inl (cA, 15, .inl r))] H → va_D A [(m0, .inr (5, [.ref pg, .int (nI n), .ref rd, .int rmy, .int rpt, .int sta, .int (nI N), .int pt, .int (nI k), .int ou, .int si, .int en, .int w0, .int w1, .int br, .int cr, .ref ro, .ref fa, .ref wo, .ref ah, .int pf, .int (nI t), .ref he, .ref wy, .ref on_, .ref pa, .ref kr, .ref kn, .ref kh, .int kt, .int kc, .int sd, .ref sr, .ref sn, .long ha])), (ro, .inl (cA, 15, .inl r))] → va_S A H0 H locs → lv_has ls 4 [(0, .ref m0), (1, .int who), (2, .int v), (3, .int (nI sx))] → W p l e rm_c_X5_counting s m args below meth c H locs 0 0 Q (F0 m 4 ls []) := by
    intro n_
    induction n_ with
    | zero =>
      intro sx v hm_ hs hv
      exact absurd hm_ (by omega)
    | succ n_ ih_ =>
      intro sx v hm_ hs hv H locs ls hP hD hS hl
      have ih1 := ih_
      clear ih_
      refine lv_iload_n hx hb dX5_counting_4 rfl (lv_at hl 3 rfl) ?_
      refine lv_aload_n hx hb dX5_counting_5 rfl (lv_at hl 0 rfl) ?_
      refine va_get (D := D) (ci := 5) (v := .int (nI N)) (C := RX5) (T := TX5) (N := 35) hx hb hts hiX5 hown hK hP 0 rfl rfl 6 (by decide) (hts (.fieldLink RX5 94 "HeardSecondModel" "seats" "I") (by decide +kernel)) (fun _ h9 => h9) rfl dX5_counting_6 ?_
      refine lv_icmp_ge (tgt := 49) hx hb dX5_counting_9 (by decide) (fun c9_2 => ?_) (fun c9_2 => ?_)
      · skip
        have ht_ : sx = N := by have := (nI_leI (a := N) (b := sx) (by omega) (by omega)).mp c9_2; omega
        refine lv_iload_n hx hb dX5_counting_49 rfl (lv_at hl 2 rfl) ?_
        -- path 1
        exact hret (v) () _ _ _ _ dX5_counting_50 (rfl) (by clear hret hl hS hD hP hK hA hN hts hx hb hr hml hown hlocks hiX5 ih1; rw [hv, ht_]) hP hD hS
      · skip
        have hltsx : sx < N := Nat.lt_of_not_le (fun q_ => c9_2 ((nI_leI (a := N) (b := sx) (by omega) (by omega)).mpr q_))
        refine lv_iload_n hx hb dX5_counting_12 rfl (lv_at hl 2 rfl) ?_
        refine lv_iload_n hx hb dX5_counting_13 rfl (lv_at hl 1 rfl) ?_
        refine lv_iload_n hx hb dX5_counting_14 rfl (lv_at hl 3 rfl) ?_
        refine lv_ishr hx hb dX5_counting_15 ?_
        refine lv_iconst (v := 1) hx hb dX5_counting_16 (by decide) ?_
        refine lv_iand hx hb dX5_counting_17 ?_
        refine lv_iconst (v := 1) hx hb dX5_counting_18 (by decide) ?_
        refine lv_icmp_ne (tgt := 40) hx hb dX5_counting_19 (by decide) (fun c19_3 => ?_) (fun c19_3 => ?_)
        · skip
          refine lv_iconst (v := 0) hx hb dX5_counting_40 (by decide) ?_
          refine lv_ior hx hb dX5_counting_41 ?_
          refine lv_istore_n (lv' := [(2, .int (v ||| 0)), (0, .ref m0), (1, .int who), (3, .int (nI sx))]) hx hb dX5_counting_42 rfl hl (by decide) rfl (fun ls hl => ?_)
          refine lv_iinc (v := nI (sx + 1)) (lv' := [(3, .int (nI (sx + 1))), (2, .int (v ||| 0)), (0, .ref m0), (1, .int who)]) hx hb dX5_counting_43 hl (k := 3) rfl (nI_1 sx) (by decide) rfl (fun ls hl => ?_)
          refine lv_goto (tgt := 4) hx hb dX5_counting_46 (by decide) ?_
          exact ih1 (sx + 1) (v ||| 0) (by omega) (by first | assumption | omega) (by clear hret hl hS hD hP hK hA hN hts hx hb hr hml hown hlocks hiX5 ih1; rw [mBits, ← hv]; simp_all) _ _ _ hP hD hS (lv_sub hl [2, 3, 1, 0] rfl)
        · skip
          refine lv_aload_n hx hb dX5_counting_22 rfl (lv_at hl 0 rfl) ?_
          refine lv_iload_n hx hb dX5_counting_23 rfl (lv_at hl 3 rfl) ?_
          refine lv_aload_n hx hb dX5_counting_24 rfl (lv_at hl 0 rfl) ?_
          refine va_get (D := D) (ci := 5) (v := .int (nI k)) (C := RX5) (T := TX5) (N := 35) hx hb hts hiX5 hown hK hP 0 rfl rfl 8 (by decide) (hts (.fieldLink RX5 59 "HeardSecondModel" "now" "I") (by decide +kernel)) (fun _ h9 => h9) rfl dX5_counting_25 ?_
          refine z_bri (z_runV (As := [.int (nI sx), .int (nI k)]) (rest := [.int v]) (ci := 5) ⟨hx, hb, hml, hown, hts⟩ (c_X5_counts (m0 := m0) (pg := pg) (rd := rd) (ro := ro) (fa := fa) (wo := wo) (ah := ah) (he := he) (wy := wy) (on_ := on_) (pa := pa) (kr := kr) (kn := kn) (kh := kh) (sr := sr) (sn := sn) (n := n) (N := N) (t := t) (rmy := rmy) (rpt := rpt) (sta := sta) (pt := pt) (nw := nI k) (ou := ou) (si := si) (en := en) (w0 := w0) (w1 := w1) (br := br) (cr := cr) (pf := pf) (kt := kt) (kc := kc) (sd := sd) (ha := ha) (r := r) (sx := sx) (k := k) (by first | assumption | omega) (by first | assumption | omega) _) (cwV 2 hts gX5_counting_X5_counts rfl rfl rfl (by decide +kernel) ⟨Nat.le_of_ble_eq_true rfl, Nat.le_of_ble_eq_true rfl⟩) hK hP hD hN [0, 1] rfl rfl rfl rfl rfl hl.1 rfl (Nat.le_of_ble_eq_true rfl) dX5_counting_28 ⟨Nat.zero_le _, Nat.zero_le _⟩) hP hD hS hA [0, 1] rfl (fun r_5 u_6 H locs hq_4 hP hS => ?_)
          obtain rfl : r_5 = bI (mCounts r ou sx k) := hq_4
          refine lv_if_eq (tgt := 40) hx hb dX5_counting_31 (by decide) (fun c31_7 => ?_) (fun c31_7 => ?_)
          · skip
            have c31_7 := bI_0.mp c31_7
            refine lv_iconst (v := 0) hx hb dX5_counting_40 (by decide) ?_
            refine lv_ior hx hb dX5_counting_41 ?_
            refine lv_istore_n (lv' := [(2, .int (v ||| 0)), (0, .ref m0), (1, .int who), (3, .int (nI sx))]) hx hb dX5_counting_42 rfl hl (by decide) rfl (fun ls hl => ?_)
            refine lv_iinc (v := nI (sx + 1)) (lv' := [(3, .int (nI (sx + 1))), (2, .int (v ||| 0)), (0, .ref m0), (1, .int who)]) hx hb dX5_counting_43 hl (k := 3) rfl (nI_1 sx) (by decide) rfl (fun ls hl => ?_)
            refine lv_goto (tgt := 4) hx hb dX5_counting_46 (by decide) ?_
            exact ih1 (sx + 1) (v ||| 0) (by omega) (by first | assumption | omega) (by clear hret hl hS hD hP hK hA hN hts hx hb hr hml hown hlocks hiX5 ih1; rw [mBits, ← hv]; simp_all) _ _ _ hP hD hS (lv_sub hl [2, 3, 1, 0] rfl)
          · skip
            have c31_7 := bI_n0.mp c31_7
            refine lv_iconst (v := 1) hx hb dX5_counting_34 (by decide) ?_
            refine lv_iload_n hx hb dX5_counting_35 rfl (lv_at hl 3 rfl) ?_
            refine lv_ishl hx hb dX5_counting_36 ?_
            refine lv_goto (tgt := 41) hx hb dX5_counting_37 (by decide) ?_
            refine lv_ior hx hb dX5_counting_41 ?_
            refine lv_istore_n (lv' := [(2, .int (v ||| (1 <<< ((nI sx) &&& 31)))), (0, .ref m0), (1, .int who), (3, .int (nI sx))]) hx hb dX5_counting_42 rfl hl (by decide) rfl (fun ls hl => ?_)
            refine lv_iinc (v := nI (sx + 1)) (lv' := [(3, .int (nI (sx + 1))), (2, .int (v ||| (1 <<< ((nI sx) &&& 31)))), (0, .ref m0), (1, .int who)]) hx hb dX5_counting_43 hl (k := 3) rfl (nI_1 sx) (by decide) rfl (fun ls hl => ?_)
            refine lv_goto (tgt := 4) hx hb dX5_counting_46 (by decide) ?_
            exact ih1 (sx + 1) (v ||| (1 <<< ((nI sx) &&& 31))) (by omega) (by first | assumption | omega) (by clear hret hl hS hD hP hK hA hN hts hx hb hr hml hown hlocks hiX5 ih1; rw [mBits, ← hv]; simp_all) _ _ _ hP hD hS (lv_sub hl [2, 3, 1, 0] rfl)
  exact L4 (N + 1) 0 0 (by omega) (by first | assumption | omega) (by rfl) _ _ _ hP hD hS (lv_sub hl [2, 3, 1, 0] rfl)
abbrev rm_c_X5_ends : Room := { frames := 0, cells := 0, slots := 0, locals := 0 }
set_option maxHeartbeats 400000 in
set_option maxRecDepth 20000 in
theorem c_X5_ends {l : Launch} {D : va_G} {cA : ClassId} {m0 : Nat} {pg : Nat} {rd : Nat} {ro : Nat} {fa : Nat} {wo : Nat} {ah : Nat} {he : Nat} {wy : Nat} {on_ : Nat} {pa : Nat} {kr : Nat} {kn : Nat} {kh : Nat} {sr : Nat} {sn : Nat} {n : Nat} {N : Nat} {t : Nat} {rmy : Int32} {rpt : Int32} {sta : Int32} {pt : Int32} {ou : Int32} {si : Int32} {en : Int32} {w0 : Int32} {w1 : Int32} {br : Int32} {cr : Int32} {pf : Int32} {kt : Int32} {kc : Int32} {sd : Int32} {ha : Int64} {r : Nat → Int32} {k : Nat} (hkv : mV k) : zMv l yX5_ends wsX5_ends rm_c_X5_ends D cA [(m0, .inr (5, [.ref pg, .int (nI n), .ref rd, .int rmy, .int rpt, .int sta, .int (nI N), .int pt, .int (nI k), .int ou, .int si, .int en, .int w0, .int w1, .int br, .int cr, .ref ro, .ref fa, .ref wo, .ref ah, .int pf, .int (nI t), .ref he, .ref wy, .ref on_, .ref pa, .ref kr, .ref kn, .ref kh, .int kt, .int kc, .int sd, .ref sr, .ref sn, .long ha])), (ro, .inl (cA, 15, .inl r))] [.ref m0] (fun (_ : Unit) => True) (fun (_ : Unit) => [(m0, .inr (5, [.ref pg, .int (nI n), .ref rd, .int rmy, .int rpt, .int sta, .int (nI N), .int pt, .int (nI 63), .int 0, .int 0, .int (en + 1), .int (mWon 0 r k w0), .int (mWon 1 r k w1), .int br, .int cr, .ref ro, .ref fa, .ref wo, .ref ah, .int pf, .int (nI t), .ref he, .ref wy, .ref on_, .ref pa, .ref kr, .ref kn, .ref kh, .int kt, .int kc, .int sd, .ref sr, .ref sn, .long ha])), (ro, .inl (cA, 15, .inl r))]) := by
  refine z_enterv (cc := cX5_ends) (maxL := 2) (by decide) rfl (Nat.le_of_ble_eq_true rfl) (fun p e s m args below meth c ls A H0 H locs Q hi_ hA hK hP hD hS hl hret => ?_)
  obtain ⟨hx, hb, hr, hml, hown, hts, hlocks, hN⟩ := hi_
  have hl : lv_has ls 2 [(0, .ref m0)] := hl
  have hiX5 : ∀ w ∈ wsX50, w ∈ wsX5_ends := by decide +kernel
  have hk8_ : k % 8 < 5 ∨ k % 8 = 7 := hkv.2
  have hk64_ : k < 64 := hkv.1
  refine lv_aload_n hx hb dX5_ends_0 rfl (lv_at hl 0 rfl) ?_
  refine va_get (D := D) (ci := 5) (v := .int (nI k)) (C := RX5) (T := TX5) (N := 35) hx hb hts hiX5 hown hK hP 0 rfl rfl 8 (by decide) (hts (.fieldLink RX5 59 "HeardSecondModel" "now" "I") (by decide +kernel)) (fun _ h9 => h9) rfl dX5_ends_1 ?_
  refine lv_bipush (v := 8) hx hb dX5_ends_4 (by decide) ?_
  refine lv_irem hx hb dX5_ends_6 (by decide) ?_
  refine z_top (y := nI (k % 8)) (z_m8 k (by omega)) ?_
  refine lv_istore_n (lv' := [(1, .int (nI (k % 8))), (0, .ref m0)]) hx hb dX5_ends_7 rfl hl (by decide) rfl (fun ls hl => ?_)
  refine lv_aload_n hx hb dX5_ends_8 rfl (lv_at hl 1 rfl) ?_
  refine lv_dup hx hb dX5_ends_9 rfl ?_
  refine va_get (D := D) (ci := 5) (v := .int en) (C := RX5) (T := TX5) (N := 35) hx hb hts hiX5 hown hK hP 0 rfl rfl 11 (by decide) (hts (.fieldLink RX5 106 "HeardSecondModel" "cases" "I") (by decide +kernel)) (fun _ h9 => h9) rfl dX5_ends_10 ?_
  refine lv_iconst (v := 1) hx hb dX5_ends_13 (by decide) ?_
  refine lv_iadd hx hb dX5_ends_14 ?_
  refine va_put (D := D) (ci := 5) (v := .int (en + 1)) (ty := .int) (C := RX5) (T := TX5) (N := 35) hx hb hts hiX5 tyX5 tyX5_ok nmX5 hown hK hP hD hS 0 rfl rfl 11 (by decide) (hts (.fieldLink RX5 106 "HeardSecondModel" "cases" "I") (by decide +kernel)) (fun _ h9 => h9) rfl (by decide +kernel) (rfl) rfl (Nat.le_of_ble_eq_true rfl) dX5_ends_15 (fun H locs hP hD hS => ?_)
  have hP : va_P D vwCl [(m0, .inr (5, [.ref pg, .int (nI n), .ref rd, .int rmy, .int rpt, .int sta, .int (nI N), .int pt, .int (nI k), .int ou, .int si, .int (en + 1), .int w0, .int w1, .int br, .int cr, .ref ro, .ref fa, .ref wo, .ref ah, .int pf, .int (nI t), .ref he, .ref wy, .ref on_, .ref pa, .ref kr, .ref kn, .ref kh, .int kt, .int kc, .int sd, .ref sr, .ref sn, .long ha])), (ro, .inl (cA, 15, .inl r))] H := hP
  have hD : va_D A [(m0, .inr (5, [.ref pg, .int (nI n), .ref rd, .int rmy, .int rpt, .int sta, .int (nI N), .int pt, .int (nI k), .int ou, .int si, .int (en + 1), .int w0, .int w1, .int br, .int cr, .ref ro, .ref fa, .ref wo, .ref ah, .int pf, .int (nI t), .ref he, .ref wy, .ref on_, .ref pa, .ref kr, .ref kn, .ref kh, .int kt, .int kc, .int sd, .ref sr, .ref sn, .long ha])), (ro, .inl (cA, 15, .inl r))] := hD
  refine lv_aload_n hx hb dX5_ends_18 rfl (lv_at hl 1 rfl) ?_
  refine lv_dup hx hb dX5_ends_19 rfl ?_
  refine va_get (D := D) (ci := 5) (v := .int w0) (C := RX5) (T := TX5) (N := 35) hx hb hts hiX5 hown hK hP 0 rfl rfl 12 (by decide) (hts (.fieldLink RX5 109 "HeardSecondModel" "wonBy0" "I") (by decide +kernel)) (fun _ h9 => h9) rfl dX5_ends_20 ?_
  refine lv_iload_n hx hb dX5_ends_23 rfl (lv_at hl 0 rfl) ?_
  refine lv_bipush (v := 7) hx hb dX5_ends_24 (by decide) ?_
  refine lv_icmp_eq (tgt := 46) hx hb dX5_ends_26 (by decide) (fun c26_1 => ?_) (fun c26_1 => ?_)
  · skip
    have e1_ := (nI_eq (a := k % 8) (b := 7) (by omega) (by omega)).mp c26_1
    refine lv_iconst (v := 0) hx hb dX5_ends_46 (by decide) ?_
    refine lv_iadd hx hb dX5_ends_47 ?_
    refine va_put (D := D) (ci := 5) (v := .int (w0 + 0)) (ty := .int) (C := RX5) (T := TX5) (N := 35) hx hb hts hiX5 tyX5 tyX5_ok nmX5 hown hK hP hD hS 0 rfl rfl 12 (by decide) (hts (.fieldLink RX5 109 "HeardSecondModel" "wonBy0" "I") (by decide +kernel)) (fun _ h9 => h9) rfl (by decide +kernel) (rfl) rfl (Nat.le_of_ble_eq_true rfl) dX5_ends_48 (fun H locs hP hD hS => ?_)
    have hP : va_P D vwCl [(m0, .inr (5, [.ref pg, .int (nI n), .ref rd, .int rmy, .int rpt, .int sta, .int (nI N), .int pt, .int (nI k), .int ou, .int si, .int (en + 1), .int (w0 + 0), .int w1, .int br, .int cr, .ref ro, .ref fa, .ref wo, .ref ah, .int pf, .int (nI t), .ref he, .ref wy, .ref on_, .ref pa, .ref kr, .ref kn, .ref kh, .int kt, .int kc, .int sd, .ref sr, .ref sn, .long ha])), (ro, .inl (cA, 15, .inl r))] H := hP
    have hD : va_D A [(m0, .inr (5, [.ref pg, .int (nI n), .ref rd, .int rmy, .int rpt, .int sta, .int (nI N), .int pt, .int (nI k), .int ou, .int si, .int (en + 1), .int (w0 + 0), .int w1, .int br, .int cr, .ref ro, .ref fa, .ref wo, .ref ah, .int pf, .int (nI t), .ref he, .ref wy, .ref on_, .ref pa, .ref kr, .ref kn, .ref kh, .int kt, .int kc, .int sd, .ref sr, .ref sn, .long ha])), (ro, .inl (cA, 15, .inl r))] := hD
    refine lv_aload_n hx hb dX5_ends_51 rfl (lv_at hl 1 rfl) ?_
    refine lv_dup hx hb dX5_ends_52 rfl ?_
    refine va_get (D := D) (ci := 5) (v := .int w1) (C := RX5) (T := TX5) (N := 35) hx hb hts hiX5 hown hK hP 0 rfl rfl 13 (by decide) (hts (.fieldLink RX5 112 "HeardSecondModel" "wonBy1" "I") (by decide +kernel)) (fun _ h9 => h9) rfl dX5_ends_53 ?_
    refine lv_iload_n hx hb dX5_ends_56 rfl (lv_at hl 0 rfl) ?_
    refine lv_bipush (v := 7) hx hb dX5_ends_57 (by decide) ?_
    refine lv_icmp_eq (tgt := 80) hx hb dX5_ends_59 (by decide) (fun c59_2 => ?_) (fun c59_2 => ?_)
    · skip
      have e2_ := (nI_eq (a := k % 8) (b := 7) (by omega) (by omega)).mp c59_2
      refine lv_iconst (v := 0) hx hb dX5_ends_80 (by decide) ?_
      refine lv_iadd hx hb dX5_ends_81 ?_
      refine va_put (D := D) (ci := 5) (v := .int (w1 + 0)) (ty := .int) (C := RX5) (T := TX5) (N := 35) hx hb hts hiX5 tyX5 tyX5_ok nmX5 hown hK hP hD hS 0 rfl rfl 13 (by decide) (hts (.fieldLink RX5 112 "HeardSecondModel" "wonBy1" "I") (by decide +kernel)) (fun _ h9 => h9) rfl (by decide +kernel) (rfl) rfl (Nat.le_of_ble_eq_true rfl) dX5_ends_82 (fun H locs hP hD hS => ?_)
      have hP : va_P D vwCl [(m0, .inr (5, [.ref pg, .int (nI n), .ref rd, .int rmy, .int rpt, .int sta, .int (nI N), .int pt, .int (nI k), .int ou, .int si, .int (en + 1), .int (w0 + 0), .int (w1 + 0), .int br, .int cr, .ref ro, .ref fa, .ref wo, .ref ah, .int pf, .int (nI t), .ref he, .ref wy, .ref on_, .ref pa, .ref kr, .ref kn, .ref kh, .int kt, .int kc, .int sd, .ref sr, .ref sn, .long ha])), (ro, .inl (cA, 15, .inl r))] H := hP
      have hD : va_D A [(m0, .inr (5, [.ref pg, .int (nI n), .ref rd, .int rmy, .int rpt, .int sta, .int (nI N), .int pt, .int (nI k), .int ou, .int si, .int (en + 1), .int (w0 + 0), .int (w1 + 0), .int br, .int cr, .ref ro, .ref fa, .ref wo, .ref ah, .int pf, .int (nI t), .ref he, .ref wy, .ref on_, .ref pa, .ref kr, .ref kn, .ref kh, .int kt, .int kc, .int sd, .ref sr, .ref sn, .long ha])), (ro, .inl (cA, 15, .inl r))] := hD
      refine lv_aload_n hx hb dX5_ends_85 rfl (lv_at hl 1 rfl) ?_
      refine lv_bipush (v := nI 63) hx hb dX5_ends_86 (by decide) ?_
      refine va_put (D := D) (ci := 5) (v := .int (nI 63)) (ty := .int) (C := RX5) (T := TX5) (N := 35) hx hb hts hiX5 tyX5 tyX5_ok nmX5 hown hK hP hD hS 0 rfl rfl 8 (by decide) (hts (.fieldLink RX5 59 "HeardSecondModel" "now" "I") (by decide +kernel)) (fun _ h9 => h9) rfl (by decide +kernel) (rfl) rfl (Nat.le_of_ble_eq_true rfl) dX5_ends_88 (fun H locs hP hD hS => ?_)
      have hP : va_P D vwCl [(m0, .inr (5, [.ref pg, .int (nI n), .ref rd, .int rmy, .int rpt, .int sta, .int (nI N), .int pt, .int (nI 63), .int ou, .int si, .int (en + 1), .int (w0 + 0), .int (w1 + 0), .int br, .int cr, .ref ro, .ref fa, .ref wo, .ref ah, .int pf, .int (nI t), .ref he, .ref wy, .ref on_, .ref pa, .ref kr, .ref kn, .ref kh, .int kt, .int kc, .int sd, .ref sr, .ref sn, .long ha])), (ro, .inl (cA, 15, .inl r))] H := hP
      have hD : va_D A [(m0, .inr (5, [.ref pg, .int (nI n), .ref rd, .int rmy, .int rpt, .int sta, .int (nI N), .int pt, .int (nI 63), .int ou, .int si, .int (en + 1), .int (w0 + 0), .int (w1 + 0), .int br, .int cr, .ref ro, .ref fa, .ref wo, .ref ah, .int pf, .int (nI t), .ref he, .ref wy, .ref on_, .ref pa, .ref kr, .ref kn, .ref kh, .int kt, .int kc, .int sd, .ref sr, .ref sn, .long ha])), (ro, .inl (cA, 15, .inl r))] := hD
      refine lv_aload_n hx hb dX5_ends_91 rfl (lv_at hl 1 rfl) ?_
      refine lv_iconst (v := 0) hx hb dX5_ends_92 (by decide) ?_
      refine va_put (D := D) (ci := 5) (v := .int 0) (ty := .int) (C := RX5) (T := TX5) (N := 35) hx hb hts hiX5 tyX5 tyX5_ok nmX5 hown hK hP hD hS 0 rfl rfl 9 (by decide) (hts (.fieldLink RX5 100 "HeardSecondModel" "out" "I") (by decide +kernel)) (fun _ h9 => h9) rfl (by decide +kernel) (rfl) rfl (Nat.le_of_ble_eq_true rfl) dX5_ends_93 (fun H locs hP hD hS => ?_)
      have hP : va_P D vwCl [(m0, .inr (5, [.ref pg, .int (nI n), .ref rd, .int rmy, .int rpt, .int sta, .int (nI N), .int pt, .int (nI 63), .int 0, .int si, .int (en + 1), .int (w0 + 0), .int (w1 + 0), .int br, .int cr, .ref ro, .ref fa, .ref wo, .ref ah, .int pf, .int (nI t), .ref he, .ref wy, .ref on_, .ref pa, .ref kr, .ref kn, .ref kh, .int kt, .int kc, .int sd, .ref sr, .ref sn, .long ha])), (ro, .inl (cA, 15, .inl r))] H := hP
      have hD : va_D A [(m0, .inr (5, [.ref pg, .int (nI n), .ref rd, .int rmy, .int rpt, .int sta, .int (nI N), .int pt, .int (nI 63), .int 0, .int si, .int (en + 1), .int (w0 + 0), .int (w1 + 0), .int br, .int cr, .ref ro, .ref fa, .ref wo, .ref ah, .int pf, .int (nI t), .ref he, .ref wy, .ref on_, .ref pa, .ref kr, .ref kn, .ref kh, .int kt, .int kc, .int sd, .ref sr, .ref sn, .long ha])), (ro, .inl (cA, 15, .inl r))] := hD
      refine lv_aload_n hx hb dX5_ends_96 rfl (lv_at hl 1 rfl) ?_
      refine lv_iconst (v := 0) hx hb dX5_ends_97 (by decide) ?_
      refine va_put (D := D) (ci := 5) (v := .int 0) (ty := .int) (C := RX5) (T := TX5) (N := 35) hx hb hts hiX5 tyX5 tyX5_ok nmX5 hown hK hP hD hS 0 rfl rfl 10 (by decide) (hts (.fieldLink RX5 103 "HeardSecondModel" "silence" "I") (by decide +kernel)) (fun _ h9 => h9) rfl (by decide +kernel) (rfl) rfl (Nat.le_of_ble_eq_true rfl) dX5_ends_98 (fun H locs hP hD hS => ?_)
      have hP : va_P D vwCl [(m0, .inr (5, [.ref pg, .int (nI n), .ref rd, .int rmy, .int rpt, .int sta, .int (nI N), .int pt, .int (nI 63), .int 0, .int 0, .int (en + 1), .int (w0 + 0), .int (w1 + 0), .int br, .int cr, .ref ro, .ref fa, .ref wo, .ref ah, .int pf, .int (nI t), .ref he, .ref wy, .ref on_, .ref pa, .ref kr, .ref kn, .ref kh, .int kt, .int kc, .int sd, .ref sr, .ref sn, .long ha])), (ro, .inl (cA, 15, .inl r))] H := hP
      have hD : va_D A [(m0, .inr (5, [.ref pg, .int (nI n), .ref rd, .int rmy, .int rpt, .int sta, .int (nI N), .int pt, .int (nI 63), .int 0, .int 0, .int (en + 1), .int (w0 + 0), .int (w1 + 0), .int br, .int cr, .ref ro, .ref fa, .ref wo, .ref ah, .int pf, .int (nI t), .ref he, .ref wy, .ref on_, .ref pa, .ref kr, .ref kn, .ref kh, .int kt, .int kc, .int sd, .ref sr, .ref sn, .long ha])), (ro, .inl (cA, 15, .inl r))] := hD
      -- path 1
      have hP : va_P D vwCl [(m0, .inr (5, [.ref pg, .int (nI n), .ref rd, .int rmy, .int rpt, .int sta, .int (nI N), .int pt, .int (nI 63), .int 0, .int 0, .int (en + 1), .int (mWon 0 r k w0), .int (w1 + 0), .int br, .int cr, .ref ro, .ref fa, .ref wo, .ref ah, .int pf, .int (nI t), .ref he, .ref wy, .ref on_, .ref pa, .ref kr, .ref kn, .ref kh, .int kt, .int kc, .int sd, .ref sr, .ref sn, .long ha])), (ro, .inl (cA, 15, .inl r))] H := by have e_ : w0 + 0 = mWon 0 r k w0 := (by clear hret hl hS hD hP hK hA hN hts hx hb hr hml hown hlocks hiX5; grind [mWon]); rw [← e_]; exact hP
      have hD : va_D A [(m0, .inr (5, [.ref pg, .int (nI n), .ref rd, .int rmy, .int rpt, .int sta, .int (nI N), .int pt, .int (nI 63), .int 0, .int 0, .int (en + 1), .int (mWon 0 r k w0), .int (w1 + 0), .int br, .int cr, .ref ro, .ref fa, .ref wo, .ref ah, .int pf, .int (nI t), .ref he, .ref wy, .ref on_, .ref pa, .ref kr, .ref kn, .ref kh, .int kt, .int kc, .int sd, .ref sr, .ref sn, .long ha])), (ro, .inl (cA, 15, .inl r))] := by have e_ : w0 + 0 = mWon 0 r k w0 := (by clear hret hl hS hD hP hK hA hN hts hx hb hr hml hown hlocks hiX5; grind [mWon]); rw [← e_]; exact hD
      have hP : va_P D vwCl [(m0, .inr (5, [.ref pg, .int (nI n), .ref rd, .int rmy, .int rpt, .int sta, .int (nI N), .int pt, .int (nI 63), .int 0, .int 0, .int (en + 1), .int (mWon 0 r k w0), .int (mWon 1 r k w1), .int br, .int cr, .ref ro, .ref fa, .ref wo, .ref ah, .int pf, .int (nI t), .ref he, .ref wy, .ref on_, .ref pa, .ref kr, .ref kn, .ref kh, .int kt, .int kc, .int sd, .ref sr, .ref sn, .long ha])), (ro, .inl (cA, 15, .inl r))] H := by have e_ : w1 + 0 = mWon 1 r k w1 := (by clear hret hl hS hD hP hK hA hN hts hx hb hr hml hown hlocks hiX5; grind [mWon]); rw [← e_]; exact hP
      have hD : va_D A [(m0, .inr (5, [.ref pg, .int (nI n), .ref rd, .int rmy, .int rpt, .int sta, .int (nI N), .int pt, .int (nI 63), .int 0, .int 0, .int (en + 1), .int (mWon 0 r k w0), .int (mWon 1 r k w1), .int br, .int cr, .ref ro, .ref fa, .ref wo, .ref ah, .int pf, .int (nI t), .ref he, .ref wy, .ref on_, .ref pa, .ref kr, .ref kn, .ref kh, .int kt, .int kc, .int sd, .ref sr, .ref sn, .long ha])), (ro, .inl (cA, 15, .inl r))] := by have e_ : w1 + 0 = mWon 1 r k w1 := (by clear hret hl hS hD hP hK hA hN hts hx hb hr hml hown hlocks hiX5; grind [mWon]); rw [← e_]; exact hD
      exact hret () _ _ _ _ dX5_ends_101 (by trivial) hP hD hS
    · skip
      have e2_ : ¬ k % 8 = 7 := fun q_ => c59_2 (by rw [q_]; try rfl)
      refine lv_aload_n hx hb dX5_ends_62 rfl (lv_at hl 1 rfl) ?_
      refine va_get (D := D) (ci := 5) (v := .ref ro) (C := RX5) (T := TX5) (N := 35) hx hb hts hiX5 hown hK hP 0 rfl rfl 16 (by decide) (hts (.fieldLink RX5 16 "HeardSecondModel" "rows" "[I") (by decide +kernel)) (fun _ h9 => h9) rfl dX5_ends_63 ?_
      refine lv_iconst (v := 3) hx hb dX5_ends_66 (by decide) ?_
      refine lv_iload_n hx hb dX5_ends_67 rfl (lv_at hl 0 rfl) ?_
      refine lv_imul hx hb dX5_ends_68 ?_
      refine lv_iconst (v := 1) hx hb dX5_ends_69 (by decide) ?_
      refine lv_iadd hx hb dX5_ends_70 ?_
      refine z_top (y := nI (3 * (k % 8) + 1)) (nI_31 (k % 8)) ?_
      refine va_iald hx hb hK hP 1 0 rfl rfl (z_inN (by omega) (by decide)) dX5_ends_71 ?_
      refine z_top (y := r (3 * (k % 8) + 1)) (by rw [z_nat (by omega)]) ?_
      refine lv_iconst (v := 1) hx hb dX5_ends_72 (by decide) ?_
      refine lv_icmp_ne (tgt := 80) hx hb dX5_ends_73 (by decide) (fun c73_3 => ?_) (fun c73_3 => ?_)
      · skip
        refine lv_iconst (v := 0) hx hb dX5_ends_80 (by decide) ?_
        refine lv_iadd hx hb dX5_ends_81 ?_
        refine va_put (D := D) (ci := 5) (v := .int (w1 + 0)) (ty := .int) (C := RX5) (T := TX5) (N := 35) hx hb hts hiX5 tyX5 tyX5_ok nmX5 hown hK hP hD hS 0 rfl rfl 13 (by decide) (hts (.fieldLink RX5 112 "HeardSecondModel" "wonBy1" "I") (by decide +kernel)) (fun _ h9 => h9) rfl (by decide +kernel) (rfl) rfl (Nat.le_of_ble_eq_true rfl) dX5_ends_82 (fun H locs hP hD hS => ?_)
        have hP : va_P D vwCl [(m0, .inr (5, [.ref pg, .int (nI n), .ref rd, .int rmy, .int rpt, .int sta, .int (nI N), .int pt, .int (nI k), .int ou, .int si, .int (en + 1), .int (w0 + 0), .int (w1 + 0), .int br, .int cr, .ref ro, .ref fa, .ref wo, .ref ah, .int pf, .int (nI t), .ref he, .ref wy, .ref on_, .ref pa, .ref kr, .ref kn, .ref kh, .int kt, .int kc, .int sd, .ref sr, .ref sn, .long ha])), (ro, .inl (cA, 15, .inl r))] H := hP
        have hD : va_D A [(m0, .inr (5, [.ref pg, .int (nI n), .ref rd, .int rmy, .int rpt, .int sta, .int (nI N), .int pt, .int (nI k), .int ou, .int si, .int (en + 1), .int (w0 + 0), .int (w1 + 0), .int br, .int cr, .ref ro, .ref fa, .ref wo, .ref ah, .int pf, .int (nI t), .ref he, .ref wy, .ref on_, .ref pa, .ref kr, .ref kn, .ref kh, .int kt, .int kc, .int sd, .ref sr, .ref sn, .long ha])), (ro, .inl (cA, 15, .inl r))] := hD
        refine lv_aload_n hx hb dX5_ends_85 rfl (lv_at hl 1 rfl) ?_
        refine lv_bipush (v := nI 63) hx hb dX5_ends_86 (by decide) ?_
        refine va_put (D := D) (ci := 5) (v := .int (nI 63)) (ty := .int) (C := RX5) (T := TX5) (N := 35) hx hb hts hiX5 tyX5 tyX5_ok nmX5 hown hK hP hD hS 0 rfl rfl 8 (by decide) (hts (.fieldLink RX5 59 "HeardSecondModel" "now" "I") (by decide +kernel)) (fun _ h9 => h9) rfl (by decide +kernel) (rfl) rfl (Nat.le_of_ble_eq_true rfl) dX5_ends_88 (fun H locs hP hD hS => ?_)
        have hP : va_P D vwCl [(m0, .inr (5, [.ref pg, .int (nI n), .ref rd, .int rmy, .int rpt, .int sta, .int (nI N), .int pt, .int (nI 63), .int ou, .int si, .int (en + 1), .int (w0 + 0), .int (w1 + 0), .int br, .int cr, .ref ro, .ref fa, .ref wo, .ref ah, .int pf, .int (nI t), .ref he, .ref wy, .ref on_, .ref pa, .ref kr, .ref kn, .ref kh, .int kt, .int kc, .int sd, .ref sr, .ref sn, .long ha])), (ro, .inl (cA, 15, .inl r))] H := hP
        have hD : va_D A [(m0, .inr (5, [.ref pg, .int (nI n), .ref rd, .int rmy, .int rpt, .int sta, .int (nI N), .int pt, .int (nI 63), .int ou, .int si, .int (en + 1), .int (w0 + 0), .int (w1 + 0), .int br, .int cr, .ref ro, .ref fa, .ref wo, .ref ah, .int pf, .int (nI t), .ref he, .ref wy, .ref on_, .ref pa, .ref kr, .ref kn, .ref kh, .int kt, .int kc, .int sd, .ref sr, .ref sn, .long ha])), (ro, .inl (cA, 15, .inl r))] := hD
        refine lv_aload_n hx hb dX5_ends_91 rfl (lv_at hl 1 rfl) ?_
        refine lv_iconst (v := 0) hx hb dX5_ends_92 (by decide) ?_
        refine va_put (D := D) (ci := 5) (v := .int 0) (ty := .int) (C := RX5) (T := TX5) (N := 35) hx hb hts hiX5 tyX5 tyX5_ok nmX5 hown hK hP hD hS 0 rfl rfl 9 (by decide) (hts (.fieldLink RX5 100 "HeardSecondModel" "out" "I") (by decide +kernel)) (fun _ h9 => h9) rfl (by decide +kernel) (rfl) rfl (Nat.le_of_ble_eq_true rfl) dX5_ends_93 (fun H locs hP hD hS => ?_)
        have hP : va_P D vwCl [(m0, .inr (5, [.ref pg, .int (nI n), .ref rd, .int rmy, .int rpt, .int sta, .int (nI N), .int pt, .int (nI 63), .int 0, .int si, .int (en + 1), .int (w0 + 0), .int (w1 + 0), .int br, .int cr, .ref ro, .ref fa, .ref wo, .ref ah, .int pf, .int (nI t), .ref he, .ref wy, .ref on_, .ref pa, .ref kr, .ref kn, .ref kh, .int kt, .int kc, .int sd, .ref sr, .ref sn, .long ha])), (ro, .inl (cA, 15, .inl r))] H := hP
        have hD : va_D A [(m0, .inr (5, [.ref pg, .int (nI n), .ref rd, .int rmy, .int rpt, .int sta, .int (nI N), .int pt, .int (nI 63), .int 0, .int si, .int (en + 1), .int (w0 + 0), .int (w1 + 0), .int br, .int cr, .ref ro, .ref fa, .ref wo, .ref ah, .int pf, .int (nI t), .ref he, .ref wy, .ref on_, .ref pa, .ref kr, .ref kn, .ref kh, .int kt, .int kc, .int sd, .ref sr, .ref sn, .long ha])), (ro, .inl (cA, 15, .inl r))] := hD
        refine lv_aload_n hx hb dX5_ends_96 rfl (lv_at hl 1 rfl) ?_
        refine lv_iconst (v := 0) hx hb dX5_ends_97 (by decide) ?_
        refine va_put (D := D) (ci := 5) (v := .int 0) (ty := .int) (C := RX5) (T := TX5) (N := 35) hx hb hts hiX5 tyX5 tyX5_ok nmX5 hown hK hP hD hS 0 rfl rfl 10 (by decide) (hts (.fieldLink RX5 103 "HeardSecondModel" "silence" "I") (by decide +kernel)) (fun _ h9 => h9) rfl (by decide +kernel) (rfl) rfl (Nat.le_of_ble_eq_true rfl) dX5_ends_98 (fun H locs hP hD hS => ?_)
        have hP : va_P D vwCl [(m0, .inr (5, [.ref pg, .int (nI n), .ref rd, .int rmy, .int rpt, .int sta, .int (nI N), .int pt, .int (nI 63), .int 0, .int 0, .int (en + 1), .int (w0 + 0), .int (w1 + 0), .int br, .int cr, .ref ro, .ref fa, .ref wo, .ref ah, .int pf, .int (nI t), .ref he, .ref wy, .ref on_, .ref pa, .ref kr, .ref kn, .ref kh, .int kt, .int kc, .int sd, .ref sr, .ref sn, .long ha])), (ro, .inl (cA, 15, .inl r))] H := hP
        have hD : va_D A [(m0, .inr (5, [.ref pg, .int (nI n), .ref rd, .int rmy, .int rpt, .int sta, .int (nI N), .int pt, .int (nI 63), .int 0, .int 0, .int (en + 1), .int (w0 + 0), .int (w1 + 0), .int br, .int cr, .ref ro, .ref fa, .ref wo, .ref ah, .int pf, .int (nI t), .ref he, .ref wy, .ref on_, .ref pa, .ref kr, .ref kn, .ref kh, .int kt, .int kc, .int sd, .ref sr, .ref sn, .long ha])), (ro, .inl (cA, 15, .inl r))] := hD
        -- path 2
        have hP : va_P D vwCl [(m0, .inr (5, [.ref pg, .int (nI n), .ref rd, .int rmy, .int rpt, .int sta, .int (nI N), .int pt, .int (nI 63), .int 0, .int 0, .int (en + 1), .int (mWon 0 r k w0), .int (w1 + 0), .int br, .int cr, .ref ro, .ref fa, .ref wo, .ref ah, .int pf, .int (nI t), .ref he, .ref wy, .ref on_, .ref pa, .ref kr, .ref kn, .ref kh, .int kt, .int kc, .int sd, .ref sr, .ref sn, .long ha])), (ro, .inl (cA, 15, .inl r))] H := by have e_ : w0 + 0 = mWon 0 r k w0 := (by clear hret hl hS hD hP hK hA hN hts hx hb hr hml hown hlocks hiX5; grind [mWon]); rw [← e_]; exact hP
        have hD : va_D A [(m0, .inr (5, [.ref pg, .int (nI n), .ref rd, .int rmy, .int rpt, .int sta, .int (nI N), .int pt, .int (nI 63), .int 0, .int 0, .int (en + 1), .int (mWon 0 r k w0), .int (w1 + 0), .int br, .int cr, .ref ro, .ref fa, .ref wo, .ref ah, .int pf, .int (nI t), .ref he, .ref wy, .ref on_, .ref pa, .ref kr, .ref kn, .ref kh, .int kt, .int kc, .int sd, .ref sr, .ref sn, .long ha])), (ro, .inl (cA, 15, .inl r))] := by have e_ : w0 + 0 = mWon 0 r k w0 := (by clear hret hl hS hD hP hK hA hN hts hx hb hr hml hown hlocks hiX5; grind [mWon]); rw [← e_]; exact hD
        have hP : va_P D vwCl [(m0, .inr (5, [.ref pg, .int (nI n), .ref rd, .int rmy, .int rpt, .int sta, .int (nI N), .int pt, .int (nI 63), .int 0, .int 0, .int (en + 1), .int (mWon 0 r k w0), .int (mWon 1 r k w1), .int br, .int cr, .ref ro, .ref fa, .ref wo, .ref ah, .int pf, .int (nI t), .ref he, .ref wy, .ref on_, .ref pa, .ref kr, .ref kn, .ref kh, .int kt, .int kc, .int sd, .ref sr, .ref sn, .long ha])), (ro, .inl (cA, 15, .inl r))] H := by have e_ : w1 + 0 = mWon 1 r k w1 := (by clear hret hl hS hD hP hK hA hN hts hx hb hr hml hown hlocks hiX5; grind [mWon]); rw [← e_]; exact hP
        have hD : va_D A [(m0, .inr (5, [.ref pg, .int (nI n), .ref rd, .int rmy, .int rpt, .int sta, .int (nI N), .int pt, .int (nI 63), .int 0, .int 0, .int (en + 1), .int (mWon 0 r k w0), .int (mWon 1 r k w1), .int br, .int cr, .ref ro, .ref fa, .ref wo, .ref ah, .int pf, .int (nI t), .ref he, .ref wy, .ref on_, .ref pa, .ref kr, .ref kn, .ref kh, .int kt, .int kc, .int sd, .ref sr, .ref sn, .long ha])), (ro, .inl (cA, 15, .inl r))] := by have e_ : w1 + 0 = mWon 1 r k w1 := (by clear hret hl hS hD hP hK hA hN hts hx hb hr hml hown hlocks hiX5; grind [mWon]); rw [← e_]; exact hD
        exact hret () _ _ _ _ dX5_ends_101 (by trivial) hP hD hS
      · skip
        refine lv_iconst (v := 1) hx hb dX5_ends_76 (by decide) ?_
        refine lv_goto (tgt := 81) hx hb dX5_ends_77 (by decide) ?_
        refine lv_iadd hx hb dX5_ends_81 ?_
        refine va_put (D := D) (ci := 5) (v := .int (w1 + 1)) (ty := .int) (C := RX5) (T := TX5) (N := 35) hx hb hts hiX5 tyX5 tyX5_ok nmX5 hown hK hP hD hS 0 rfl rfl 13 (by decide) (hts (.fieldLink RX5 112 "HeardSecondModel" "wonBy1" "I") (by decide +kernel)) (fun _ h9 => h9) rfl (by decide +kernel) (rfl) rfl (Nat.le_of_ble_eq_true rfl) dX5_ends_82 (fun H locs hP hD hS => ?_)
        have hP : va_P D vwCl [(m0, .inr (5, [.ref pg, .int (nI n), .ref rd, .int rmy, .int rpt, .int sta, .int (nI N), .int pt, .int (nI k), .int ou, .int si, .int (en + 1), .int (w0 + 0), .int (w1 + 1), .int br, .int cr, .ref ro, .ref fa, .ref wo, .ref ah, .int pf, .int (nI t), .ref he, .ref wy, .ref on_, .ref pa, .ref kr, .ref kn, .ref kh, .int kt, .int kc, .int sd, .ref sr, .ref sn, .long ha])), (ro, .inl (cA, 15, .inl r))] H := hP
        have hD : va_D A [(m0, .inr (5, [.ref pg, .int (nI n), .ref rd, .int rmy, .int rpt, .int sta, .int (nI N), .int pt, .int (nI k), .int ou, .int si, .int (en + 1), .int (w0 + 0), .int (w1 + 1), .int br, .int cr, .ref ro, .ref fa, .ref wo, .ref ah, .int pf, .int (nI t), .ref he, .ref wy, .ref on_, .ref pa, .ref kr, .ref kn, .ref kh, .int kt, .int kc, .int sd, .ref sr, .ref sn, .long ha])), (ro, .inl (cA, 15, .inl r))] := hD
        refine lv_aload_n hx hb dX5_ends_85 rfl (lv_at hl 1 rfl) ?_
        refine lv_bipush (v := nI 63) hx hb dX5_ends_86 (by decide) ?_
        refine va_put (D := D) (ci := 5) (v := .int (nI 63)) (ty := .int) (C := RX5) (T := TX5) (N := 35) hx hb hts hiX5 tyX5 tyX5_ok nmX5 hown hK hP hD hS 0 rfl rfl 8 (by decide) (hts (.fieldLink RX5 59 "HeardSecondModel" "now" "I") (by decide +kernel)) (fun _ h9 => h9) rfl (by decide +kernel) (rfl) rfl (Nat.le_of_ble_eq_true rfl) dX5_ends_88 (fun H locs hP hD hS => ?_)
        have hP : va_P D vwCl [(m0, .inr (5, [.ref pg, .int (nI n), .ref rd, .int rmy, .int rpt, .int sta, .int (nI N), .int pt, .int (nI 63), .int ou, .int si, .int (en + 1), .int (w0 + 0), .int (w1 + 1), .int br, .int cr, .ref ro, .ref fa, .ref wo, .ref ah, .int pf, .int (nI t), .ref he, .ref wy, .ref on_, .ref pa, .ref kr, .ref kn, .ref kh, .int kt, .int kc, .int sd, .ref sr, .ref sn, .long ha])), (ro, .inl (cA, 15, .inl r))] H := hP
        have hD : va_D A [(m0, .inr (5, [.ref pg, .int (nI n), .ref rd, .int rmy, .int rpt, .int sta, .int (nI N), .int pt, .int (nI 63), .int ou, .int si, .int (en + 1), .int (w0 + 0), .int (w1 + 1), .int br, .int cr, .ref ro, .ref fa, .ref wo, .ref ah, .int pf, .int (nI t), .ref he, .ref wy, .ref on_, .ref pa, .ref kr, .ref kn, .ref kh, .int kt, .int kc, .int sd, .ref sr, .ref sn, .long ha])), (ro, .inl (cA, 15, .inl r))] := hD
        refine lv_aload_n hx hb dX5_ends_91 rfl (lv_at hl 1 rfl) ?_
        refine lv_iconst (v := 0) hx hb dX5_ends_92 (by decide) ?_
        refine va_put (D := D) (ci := 5) (v := .int 0) (ty := .int) (C := RX5) (T := TX5) (N := 35) hx hb hts hiX5 tyX5 tyX5_ok nmX5 hown hK hP hD hS 0 rfl rfl 9 (by decide) (hts (.fieldLink RX5 100 "HeardSecondModel" "out" "I") (by decide +kernel)) (fun _ h9 => h9) rfl (by decide +kernel) (rfl) rfl (Nat.le_of_ble_eq_true rfl) dX5_ends_93 (fun H locs hP hD hS => ?_)
        have hP : va_P D vwCl [(m0, .inr (5, [.ref pg, .int (nI n), .ref rd, .int rmy, .int rpt, .int sta, .int (nI N), .int pt, .int (nI 63), .int 0, .int si, .int (en + 1), .int (w0 + 0), .int (w1 + 1), .int br, .int cr, .ref ro, .ref fa, .ref wo, .ref ah, .int pf, .int (nI t), .ref he, .ref wy, .ref on_, .ref pa, .ref kr, .ref kn, .ref kh, .int kt, .int kc, .int sd, .ref sr, .ref sn, .long ha])), (ro, .inl (cA, 15, .inl r))] H := hP
        have hD : va_D A [(m0, .inr (5, [.ref pg, .int (nI n), .ref rd, .int rmy, .int rpt, .int sta, .int (nI N), .int pt, .int (nI 63), .int 0, .int si, .int (en + 1), .int (w0 + 0), .int (w1 + 1), .int br, .int cr, .ref ro, .ref fa, .ref wo, .ref ah, .int pf, .int (nI t), .ref he, .ref wy, .ref on_, .ref pa, .ref kr, .ref kn, .ref kh, .int kt, .int kc, .int sd, .ref sr, .ref sn, .long ha])), (ro, .inl (cA, 15, .inl r))] := hD
        refine lv_aload_n hx hb dX5_ends_96 rfl (lv_at hl 1 rfl) ?_
        refine lv_iconst (v := 0) hx hb dX5_ends_97 (by decide) ?_
        refine va_put (D := D) (ci := 5) (v := .int 0) (ty := .int) (C := RX5) (T := TX5) (N := 35) hx hb hts hiX5 tyX5 tyX5_ok nmX5 hown hK hP hD hS 0 rfl rfl 10 (by decide) (hts (.fieldLink RX5 103 "HeardSecondModel" "silence" "I") (by decide +kernel)) (fun _ h9 => h9) rfl (by decide +kernel) (rfl) rfl (Nat.le_of_ble_eq_true rfl) dX5_ends_98 (fun H locs hP hD hS => ?_)
        have hP : va_P D vwCl [(m0, .inr (5, [.ref pg, .int (nI n), .ref rd, .int rmy, .int rpt, .int sta, .int (nI N), .int pt, .int (nI 63), .int 0, .int 0, .int (en + 1), .int (w0 + 0), .int (w1 + 1), .int br, .int cr, .ref ro, .ref fa, .ref wo, .ref ah, .int pf, .int (nI t), .ref he, .ref wy, .ref on_, .ref pa, .ref kr, .ref kn, .ref kh, .int kt, .int kc, .int sd, .ref sr, .ref sn, .long ha])), (ro, .inl (cA, 15, .inl r))] H := hP
        have hD : va_D A [(m0, .inr (5, [.ref pg, .int (nI n), .ref rd, .int rmy, .int rpt, .int sta, .int (nI N), .int pt, .int (nI 63), .int 0, .int 0, .int (en + 1), .int (w0 + 0), .int (w1 + 1), .int br, .int cr, .ref ro, .ref fa, .ref wo, .ref ah, .int pf, .int (nI t), .ref he, .ref wy, .ref on_, .ref pa, .ref kr, .ref kn, .ref kh, .int kt, .int kc, .int sd, .ref sr, .ref sn, .long ha])), (ro, .inl (cA, 15, .inl r))] := hD
        -- path 3
        have hP : va_P D vwCl [(m0, .inr (5, [.ref pg, .int (nI n), .ref rd, .int rmy, .int rpt, .int sta, .int (nI N), .int pt, .int (nI 63), .int 0, .int 0, .int (en + 1), .int (mWon 0 r k w0), .int (w1 + 1), .int br, .int cr, .ref ro, .ref fa, .ref wo, .ref ah, .int pf, .int (nI t), .ref he, .ref wy, .ref on_, .ref pa, .ref kr, .ref kn, .ref kh, .int kt, .int kc, .int sd, .ref sr, .ref sn, .long ha])), (ro, .inl (cA, 15, .inl r))] H := by have e_ : w0 + 0 = mWon 0 r k w0 := (by clear hret hl hS hD hP hK hA hN hts hx hb hr hml hown hlocks hiX5; grind [mWon]); rw [← e_]; exact hP
        have hD : va_D A [(m0, .inr (5, [.ref pg, .int (nI n), .ref rd, .int rmy, .int rpt, .int sta, .int (nI N), .int pt, .int (nI 63), .int 0, .int 0, .int (en + 1), .int (mWon 0 r k w0), .int (w1 + 1), .int br, .int cr, .ref ro, .ref fa, .ref wo, .ref ah, .int pf, .int (nI t), .ref he, .ref wy, .ref on_, .ref pa, .ref kr, .ref kn, .ref kh, .int kt, .int kc, .int sd, .ref sr, .ref sn, .long ha])), (ro, .inl (cA, 15, .inl r))] := by have e_ : w0 + 0 = mWon 0 r k w0 := (by clear hret hl hS hD hP hK hA hN hts hx hb hr hml hown hlocks hiX5; grind [mWon]); rw [← e_]; exact hD
        have hP : va_P D vwCl [(m0, .inr (5, [.ref pg, .int (nI n), .ref rd, .int rmy, .int rpt, .int sta, .int (nI N), .int pt, .int (nI 63), .int 0, .int 0, .int (en + 1), .int (mWon 0 r k w0), .int (mWon 1 r k w1), .int br, .int cr, .ref ro, .ref fa, .ref wo, .ref ah, .int pf, .int (nI t), .ref he, .ref wy, .ref on_, .ref pa, .ref kr, .ref kn, .ref kh, .int kt, .int kc, .int sd, .ref sr, .ref sn, .long ha])), (ro, .inl (cA, 15, .inl r))] H := by have e_ : w1 + 1 = mWon 1 r k w1 := (by clear hret hl hS hD hP hK hA hN hts hx hb hr hml hown hlocks hiX5; grind [mWon]); rw [← e_]; exact hP
        have hD : va_D A [(m0, .inr (5, [.ref pg, .int (nI n), .ref rd, .int rmy, .int rpt, .int sta, .int (nI N), .int pt, .int (nI 63), .int 0, .int 0, .int (en + 1), .int (mWon 0 r k w0), .int (mWon 1 r k w1), .int br, .int cr, .ref ro, .ref fa, .ref wo, .ref ah, .int pf, .int (nI t), .ref he, .ref wy, .ref on_, .ref pa, .ref kr, .ref kn, .ref kh, .int kt, .int kc, .int sd, .ref sr, .ref sn, .long ha])), (ro, .inl (cA, 15, .inl r))] := by have e_ : w1 + 1 = mWon 1 r k w1 := (by clear hret hl hS hD hP hK hA hN hts hx hb hr hml hown hlocks hiX5; grind [mWon]); rw [← e_]; exact hD
        exact hret () _ _ _ _ dX5_ends_101 (by trivial) hP hD hS
  · skip
    have e1_ : ¬ k % 8 = 7 := fun q_ => c26_1 (by rw [q_]; try rfl)
    refine lv_aload_n hx hb dX5_ends_29 rfl (lv_at hl 1 rfl) ?_
    refine va_get (D := D) (ci := 5) (v := .ref ro) (C := RX5) (T := TX5) (N := 35) hx hb hts hiX5 hown hK hP 0 rfl rfl 16 (by decide) (hts (.fieldLink RX5 16 "HeardSecondModel" "rows" "[I") (by decide +kernel)) (fun _ h9 => h9) rfl dX5_ends_30 ?_
    refine lv_iconst (v := 3) hx hb dX5_ends_33 (by decide) ?_
    refine lv_iload_n hx hb dX5_ends_34 rfl (lv_at hl 0 rfl) ?_
    refine lv_imul hx hb dX5_ends_35 ?_
    refine lv_iconst (v := 1) hx hb dX5_ends_36 (by decide) ?_
    refine lv_iadd hx hb dX5_ends_37 ?_
    refine z_top (y := nI (3 * (k % 8) + 1)) (nI_31 (k % 8)) ?_
    refine va_iald hx hb hK hP 1 0 rfl rfl (z_inN (by omega) (by decide)) dX5_ends_38 ?_
    refine z_top (y := r (3 * (k % 8) + 1)) (by rw [z_nat (by omega)]) ?_
    refine lv_if_ne (tgt := 46) hx hb dX5_ends_39 (by decide) (fun c39_4 => ?_) (fun c39_4 => ?_)
    · skip
      refine lv_iconst (v := 0) hx hb dX5_ends_46 (by decide) ?_
      refine lv_iadd hx hb dX5_ends_47 ?_
      refine va_put (D := D) (ci := 5) (v := .int (w0 + 0)) (ty := .int) (C := RX5) (T := TX5) (N := 35) hx hb hts hiX5 tyX5 tyX5_ok nmX5 hown hK hP hD hS 0 rfl rfl 12 (by decide) (hts (.fieldLink RX5 109 "HeardSecondModel" "wonBy0" "I") (by decide +kernel)) (fun _ h9 => h9) rfl (by decide +kernel) (rfl) rfl (Nat.le_of_ble_eq_true rfl) dX5_ends_48 (fun H locs hP hD hS => ?_)
      have hP : va_P D vwCl [(m0, .inr (5, [.ref pg, .int (nI n), .ref rd, .int rmy, .int rpt, .int sta, .int (nI N), .int pt, .int (nI k), .int ou, .int si, .int (en + 1), .int (w0 + 0), .int w1, .int br, .int cr, .ref ro, .ref fa, .ref wo, .ref ah, .int pf, .int (nI t), .ref he, .ref wy, .ref on_, .ref pa, .ref kr, .ref kn, .ref kh, .int kt, .int kc, .int sd, .ref sr, .ref sn, .long ha])), (ro, .inl (cA, 15, .inl r))] H := hP
      have hD : va_D A [(m0, .inr (5, [.ref pg, .int (nI n), .ref rd, .int rmy, .int rpt, .int sta, .int (nI N), .int pt, .int (nI k), .int ou, .int si, .int (en + 1), .int (w0 + 0), .int w1, .int br, .int cr, .ref ro, .ref fa, .ref wo, .ref ah, .int pf, .int (nI t), .ref he, .ref wy, .ref on_, .ref pa, .ref kr, .ref kn, .ref kh, .int kt, .int kc, .int sd, .ref sr, .ref sn, .long ha])), (ro, .inl (cA, 15, .inl r))] := hD
      refine lv_aload_n hx hb dX5_ends_51 rfl (lv_at hl 1 rfl) ?_
      refine lv_dup hx hb dX5_ends_52 rfl ?_
      refine va_get (D := D) (ci := 5) (v := .int w1) (C := RX5) (T := TX5) (N := 35) hx hb hts hiX5 hown hK hP 0 rfl rfl 13 (by decide) (hts (.fieldLink RX5 112 "HeardSecondModel" "wonBy1" "I") (by decide +kernel)) (fun _ h9 => h9) rfl dX5_ends_53 ?_
      refine lv_iload_n hx hb dX5_ends_56 rfl (lv_at hl 0 rfl) ?_
      refine lv_bipush (v := 7) hx hb dX5_ends_57 (by decide) ?_
      refine lv_icmp_eq (tgt := 80) hx hb dX5_ends_59 (by decide) (fun c59_5 => ?_) (fun c59_5 => ?_)
      · skip
        have e2_ := (nI_eq (a := k % 8) (b := 7) (by omega) (by omega)).mp c59_5
        refine lv_iconst (v := 0) hx hb dX5_ends_80 (by decide) ?_
        refine lv_iadd hx hb dX5_ends_81 ?_
        refine va_put (D := D) (ci := 5) (v := .int (w1 + 0)) (ty := .int) (C := RX5) (T := TX5) (N := 35) hx hb hts hiX5 tyX5 tyX5_ok nmX5 hown hK hP hD hS 0 rfl rfl 13 (by decide) (hts (.fieldLink RX5 112 "HeardSecondModel" "wonBy1" "I") (by decide +kernel)) (fun _ h9 => h9) rfl (by decide +kernel) (rfl) rfl (Nat.le_of_ble_eq_true rfl) dX5_ends_82 (fun H locs hP hD hS => ?_)
        have hP : va_P D vwCl [(m0, .inr (5, [.ref pg, .int (nI n), .ref rd, .int rmy, .int rpt, .int sta, .int (nI N), .int pt, .int (nI k), .int ou, .int si, .int (en + 1), .int (w0 + 0), .int (w1 + 0), .int br, .int cr, .ref ro, .ref fa, .ref wo, .ref ah, .int pf, .int (nI t), .ref he, .ref wy, .ref on_, .ref pa, .ref kr, .ref kn, .ref kh, .int kt, .int kc, .int sd, .ref sr, .ref sn, .long ha])), (ro, .inl (cA, 15, .inl r))] H := hP
        have hD : va_D A [(m0, .inr (5, [.ref pg, .int (nI n), .ref rd, .int rmy, .int rpt, .int sta, .int (nI N), .int pt, .int (nI k), .int ou, .int si, .int (en + 1), .int (w0 + 0), .int (w1 + 0), .int br, .int cr, .ref ro, .ref fa, .ref wo, .ref ah, .int pf, .int (nI t), .ref he, .ref wy, .ref on_, .ref pa, .ref kr, .ref kn, .ref kh, .int kt, .int kc, .int sd, .ref sr, .ref sn, .long ha])), (ro, .inl (cA, 15, .inl r))] := hD
        refine lv_aload_n hx hb dX5_ends_85 rfl (lv_at hl 1 rfl) ?_
        refine lv_bipush (v := nI 63) hx hb dX5_ends_86 (by decide) ?_
        refine va_put (D := D) (ci := 5) (v := .int (nI 63)) (ty := .int) (C := RX5) (T := TX5) (N := 35) hx hb hts hiX5 tyX5 tyX5_ok nmX5 hown hK hP hD hS 0 rfl rfl 8 (by decide) (hts (.fieldLink RX5 59 "HeardSecondModel" "now" "I") (by decide +kernel)) (fun _ h9 => h9) rfl (by decide +kernel) (rfl) rfl (Nat.le_of_ble_eq_true rfl) dX5_ends_88 (fun H locs hP hD hS => ?_)
        have hP : va_P D vwCl [(m0, .inr (5, [.ref pg, .int (nI n), .ref rd, .int rmy, .int rpt, .int sta, .int (nI N), .int pt, .int (nI 63), .int ou, .int si, .int (en + 1), .int (w0 + 0), .int (w1 + 0), .int br, .int cr, .ref ro, .ref fa, .ref wo, .ref ah, .int pf, .int (nI t), .ref he, .ref wy, .ref on_, .ref pa, .ref kr, .ref kn, .ref kh, .int kt, .int kc, .int sd, .ref sr, .ref sn, .long ha])), (ro, .inl (cA, 15, .inl r))] H := hP
        have hD : va_D A [(m0, .inr (5, [.ref pg, .int (nI n), .ref rd, .int rmy, .int rpt, .int sta, .int (nI N), .int pt, .int (nI 63), .int ou, .int si, .int (en + 1), .int (w0 + 0), .int (w1 + 0), .int br, .int cr, .ref ro, .ref fa, .ref wo, .ref ah, .int pf, .int (nI t), .ref he, .ref wy, .ref on_, .ref pa, .ref kr, .ref kn, .ref kh, .int kt, .int kc, .int sd, .ref sr, .ref sn, .long ha])), (ro, .inl (cA, 15, .inl r))] := hD
        refine lv_aload_n hx hb dX5_ends_91 rfl (lv_at hl 1 rfl) ?_
        refine lv_iconst (v := 0) hx hb dX5_ends_92 (by decide) ?_
        refine va_put (D := D) (ci := 5) (v := .int 0) (ty := .int) (C := RX5) (T := TX5) (N := 35) hx hb hts hiX5 tyX5 tyX5_ok nmX5 hown hK hP hD hS 0 rfl rfl 9 (by decide) (hts (.fieldLink RX5 100 "HeardSecondModel" "out" "I") (by decide +kernel)) (fun _ h9 => h9) rfl (by decide +kernel) (rfl) rfl (Nat.le_of_ble_eq_true rfl) dX5_ends_93 (fun H locs hP hD hS => ?_)
        have hP : va_P D vwCl [(m0, .inr (5, [.ref pg, .int (nI n), .ref rd, .int rmy, .int rpt, .int sta, .int (nI N), .int pt, .int (nI 63), .int 0, .int si, .int (en + 1), .int (w0 + 0), .int (w1 + 0), .int br, .int cr, .ref ro, .ref fa, .ref wo, .ref ah, .int pf, .int (nI t), .ref he, .ref wy, .ref on_, .ref pa, .ref kr, .ref kn, .ref kh, .int kt, .int kc, .int sd, .ref sr, .ref sn, .long ha])), (ro, .inl (cA, 15, .inl r))] H := hP
        have hD : va_D A [(m0, .inr (5, [.ref pg, .int (nI n), .ref rd, .int rmy, .int rpt, .int sta, .int (nI N), .int pt, .int (nI 63), .int 0, .int si, .int (en + 1), .int (w0 + 0), .int (w1 + 0), .int br, .int cr, .ref ro, .ref fa, .ref wo, .ref ah, .int pf, .int (nI t), .ref he, .ref wy, .ref on_, .ref pa, .ref kr, .ref kn, .ref kh, .int kt, .int kc, .int sd, .ref sr, .ref sn, .long ha])), (ro, .inl (cA, 15, .inl r))] := hD
        refine lv_aload_n hx hb dX5_ends_96 rfl (lv_at hl 1 rfl) ?_
        refine lv_iconst (v := 0) hx hb dX5_ends_97 (by decide) ?_
        refine va_put (D := D) (ci := 5) (v := .int 0) (ty := .int) (C := RX5) (T := TX5) (N := 35) hx hb hts hiX5 tyX5 tyX5_ok nmX5 hown hK hP hD hS 0 rfl rfl 10 (by decide) (hts (.fieldLink RX5 103 "HeardSecondModel" "silence" "I") (by decide +kernel)) (fun _ h9 => h9) rfl (by decide +kernel) (rfl) rfl (Nat.le_of_ble_eq_true rfl) dX5_ends_98 (fun H locs hP hD hS => ?_)
        have hP : va_P D vwCl [(m0, .inr (5, [.ref pg, .int (nI n), .ref rd, .int rmy, .int rpt, .int sta, .int (nI N), .int pt, .int (nI 63), .int 0, .int 0, .int (en + 1), .int (w0 + 0), .int (w1 + 0), .int br, .int cr, .ref ro, .ref fa, .ref wo, .ref ah, .int pf, .int (nI t), .ref he, .ref wy, .ref on_, .ref pa, .ref kr, .ref kn, .ref kh, .int kt, .int kc, .int sd, .ref sr, .ref sn, .long ha])), (ro, .inl (cA, 15, .inl r))] H := hP
        have hD : va_D A [(m0, .inr (5, [.ref pg, .int (nI n), .ref rd, .int rmy, .int rpt, .int sta, .int (nI N), .int pt, .int (nI 63), .int 0, .int 0, .int (en + 1), .int (w0 + 0), .int (w1 + 0), .int br, .int cr, .ref ro, .ref fa, .ref wo, .ref ah, .int pf, .int (nI t), .ref he, .ref wy, .ref on_, .ref pa, .ref kr, .ref kn, .ref kh, .int kt, .int kc, .int sd, .ref sr, .ref sn, .long ha])), (ro, .inl (cA, 15, .inl r))] := hD
        -- path 4
        have hP : va_P D vwCl [(m0, .inr (5, [.ref pg, .int (nI n), .ref rd, .int rmy, .int rpt, .int sta, .int (nI N), .int pt, .int (nI 63), .int 0, .int 0, .int (en + 1), .int (mWon 0 r k w0), .int (w1 + 0), .int br, .int cr, .ref ro, .ref fa, .ref wo, .ref ah, .int pf, .int (nI t), .ref he, .ref wy, .ref on_, .ref pa, .ref kr, .ref kn, .ref kh, .int kt, .int kc, .int sd, .ref sr, .ref sn, .long ha])), (ro, .inl (cA, 15, .inl r))] H := by have e_ : w0 + 0 = mWon 0 r k w0 := (by clear hret hl hS hD hP hK hA hN hts hx hb hr hml hown hlocks hiX5; grind [mWon]); rw [← e_]; exact hP
        have hD : va_D A [(m0, .inr (5, [.ref pg, .int (nI n), .ref rd, .int rmy, .int rpt, .int sta, .int (nI N), .int pt, .int (nI 63), .int 0, .int 0, .int (en + 1), .int (mWon 0 r k w0), .int (w1 + 0), .int br, .int cr, .ref ro, .ref fa, .ref wo, .ref ah, .int pf, .int (nI t), .ref he, .ref wy, .ref on_, .ref pa, .ref kr, .ref kn, .ref kh, .int kt, .int kc, .int sd, .ref sr, .ref sn, .long ha])), (ro, .inl (cA, 15, .inl r))] := by have e_ : w0 + 0 = mWon 0 r k w0 := (by clear hret hl hS hD hP hK hA hN hts hx hb hr hml hown hlocks hiX5; grind [mWon]); rw [← e_]; exact hD
        have hP : va_P D vwCl [(m0, .inr (5, [.ref pg, .int (nI n), .ref rd, .int rmy, .int rpt, .int sta, .int (nI N), .int pt, .int (nI 63), .int 0, .int 0, .int (en + 1), .int (mWon 0 r k w0), .int (mWon 1 r k w1), .int br, .int cr, .ref ro, .ref fa, .ref wo, .ref ah, .int pf, .int (nI t), .ref he, .ref wy, .ref on_, .ref pa, .ref kr, .ref kn, .ref kh, .int kt, .int kc, .int sd, .ref sr, .ref sn, .long ha])), (ro, .inl (cA, 15, .inl r))] H := by have e_ : w1 + 0 = mWon 1 r k w1 := (by clear hret hl hS hD hP hK hA hN hts hx hb hr hml hown hlocks hiX5; grind [mWon]); rw [← e_]; exact hP
        have hD : va_D A [(m0, .inr (5, [.ref pg, .int (nI n), .ref rd, .int rmy, .int rpt, .int sta, .int (nI N), .int pt, .int (nI 63), .int 0, .int 0, .int (en + 1), .int (mWon 0 r k w0), .int (mWon 1 r k w1), .int br, .int cr, .ref ro, .ref fa, .ref wo, .ref ah, .int pf, .int (nI t), .ref he, .ref wy, .ref on_, .ref pa, .ref kr, .ref kn, .ref kh, .int kt, .int kc, .int sd, .ref sr, .ref sn, .long ha])), (ro, .inl (cA, 15, .inl r))] := by have e_ : w1 + 0 = mWon 1 r k w1 := (by clear hret hl hS hD hP hK hA hN hts hx hb hr hml hown hlocks hiX5; grind [mWon]); rw [← e_]; exact hD
        exact hret () _ _ _ _ dX5_ends_101 (by trivial) hP hD hS
      · skip
        have e2_ : ¬ k % 8 = 7 := fun q_ => c59_5 (by rw [q_]; try rfl)
        refine lv_aload_n hx hb dX5_ends_62 rfl (lv_at hl 1 rfl) ?_
        refine va_get (D := D) (ci := 5) (v := .ref ro) (C := RX5) (T := TX5) (N := 35) hx hb hts hiX5 hown hK hP 0 rfl rfl 16 (by decide) (hts (.fieldLink RX5 16 "HeardSecondModel" "rows" "[I") (by decide +kernel)) (fun _ h9 => h9) rfl dX5_ends_63 ?_
        refine lv_iconst (v := 3) hx hb dX5_ends_66 (by decide) ?_
        refine lv_iload_n hx hb dX5_ends_67 rfl (lv_at hl 0 rfl) ?_
        refine lv_imul hx hb dX5_ends_68 ?_
        refine lv_iconst (v := 1) hx hb dX5_ends_69 (by decide) ?_
        refine lv_iadd hx hb dX5_ends_70 ?_
        refine z_top (y := nI (3 * (k % 8) + 1)) (nI_31 (k % 8)) ?_
        refine va_iald hx hb hK hP 1 0 rfl rfl (z_inN (by omega) (by decide)) dX5_ends_71 ?_
        refine z_top (y := r (3 * (k % 8) + 1)) (by rw [z_nat (by omega)]) ?_
        refine lv_iconst (v := 1) hx hb dX5_ends_72 (by decide) ?_
        refine lv_icmp_ne (tgt := 80) hx hb dX5_ends_73 (by decide) (fun c73_6 => ?_) (fun c73_6 => ?_)
        · skip
          refine lv_iconst (v := 0) hx hb dX5_ends_80 (by decide) ?_
          refine lv_iadd hx hb dX5_ends_81 ?_
          refine va_put (D := D) (ci := 5) (v := .int (w1 + 0)) (ty := .int) (C := RX5) (T := TX5) (N := 35) hx hb hts hiX5 tyX5 tyX5_ok nmX5 hown hK hP hD hS 0 rfl rfl 13 (by decide) (hts (.fieldLink RX5 112 "HeardSecondModel" "wonBy1" "I") (by decide +kernel)) (fun _ h9 => h9) rfl (by decide +kernel) (rfl) rfl (Nat.le_of_ble_eq_true rfl) dX5_ends_82 (fun H locs hP hD hS => ?_)
          have hP : va_P D vwCl [(m0, .inr (5, [.ref pg, .int (nI n), .ref rd, .int rmy, .int rpt, .int sta, .int (nI N), .int pt, .int (nI k), .int ou, .int si, .int (en + 1), .int (w0 + 0), .int (w1 + 0), .int br, .int cr, .ref ro, .ref fa, .ref wo, .ref ah, .int pf, .int (nI t), .ref he, .ref wy, .ref on_, .ref pa, .ref kr, .ref kn, .ref kh, .int kt, .int kc, .int sd, .ref sr, .ref sn, .long ha])), (ro, .inl (cA, 15, .inl r))] H := hP
          have hD : va_D A [(m0, .inr (5, [.ref pg, .int (nI n), .ref rd, .int rmy, .int rpt, .int sta, .int (nI N), .int pt, .int (nI k), .int ou, .int si, .int (en + 1), .int (w0 + 0), .int (w1 + 0), .int br, .int cr, .ref ro, .ref fa, .ref wo, .ref ah, .int pf, .int (nI t), .ref he, .ref wy, .ref on_, .ref pa, .ref kr, .ref kn, .ref kh, .int kt, .int kc, .int sd, .ref sr, .ref sn, .long ha])), (ro, .inl (cA, 15, .inl r))] := hD
          refine lv_aload_n hx hb dX5_ends_85 rfl (lv_at hl 1 rfl) ?_
          refine lv_bipush (v := nI 63) hx hb dX5_ends_86 (by decide) ?_
          refine va_put (D := D) (ci := 5) (v := .int (nI 63)) (ty := .int) (C := RX5) (T := TX5) (N := 35) hx hb hts hiX5 tyX5 tyX5_ok nmX5 hown hK hP hD hS 0 rfl rfl 8 (by decide) (hts (.fieldLink RX5 59 "HeardSecondModel" "now" "I") (by decide +kernel)) (fun _ h9 => h9) rfl (by decide +kernel) (rfl) rfl (Nat.le_of_ble_eq_true rfl) dX5_ends_88 (fun H locs hP hD hS => ?_)
          have hP : va_P D vwCl [(m0, .inr (5, [.ref pg, .int (nI n), .ref rd, .int rmy, .int rpt, .int sta, .int (nI N), .int pt, .int (nI 63), .int ou, .int si, .int (en + 1), .int (w0 + 0), .int (w1 + 0), .int br, .int cr, .ref ro, .ref fa, .ref wo, .ref ah, .int pf, .int (nI t), .ref he, .ref wy, .ref on_, .ref pa, .ref kr, .ref kn, .ref kh, .int kt, .int kc, .int sd, .ref sr, .ref sn, .long ha])), (ro, .inl (cA, 15, .inl r))] H := hP
          have hD : va_D A [(m0, .inr (5, [.ref pg, .int (nI n), .ref rd, .int rmy, .int rpt, .int sta, .int (nI N), .int pt, .int (nI 63), .int ou, .int si, .int (en + 1), .int (w0 + 0), .int (w1 + 0), .int br, .int cr, .ref ro, .ref fa, .ref wo, .ref ah, .int pf, .int (nI t), .ref he, .ref wy, .ref on_, .ref pa, .ref kr, .ref kn, .ref kh, .int kt, .int kc, .int sd, .ref sr, .ref sn, .long ha])), (ro, .inl (cA, 15, .inl r))] := hD
          refine lv_aload_n hx hb dX5_ends_91 rfl (lv_at hl 1 rfl) ?_
          refine lv_iconst (v := 0) hx hb dX5_ends_92 (by decide) ?_
          refine va_put (D := D) (ci := 5) (v := .int 0) (ty := .int) (C := RX5) (T := TX5) (N := 35) hx hb hts hiX5 tyX5 tyX5_ok nmX5 hown hK hP hD hS 0 rfl rfl 9 (by decide) (hts (.fieldLink RX5 100 "HeardSecondModel" "out" "I") (by decide +kernel)) (fun _ h9 => h9) rfl (by decide +kernel) (rfl) rfl (Nat.le_of_ble_eq_true rfl) dX5_ends_93 (fun H locs hP hD hS => ?_)
          have hP : va_P D vwCl [(m0, .inr (5, [.ref pg, .int (nI n), .ref rd, .int rmy, .int rpt, .int sta, .int (nI N), .int pt, .int (nI 63), .int 0, .int si, .int (en + 1), .int (w0 + 0), .int (w1 + 0), .int br, .int cr, .ref ro, .ref fa, .ref wo, .ref ah, .int pf, .int (nI t), .ref he, .ref wy, .ref on_, .ref pa, .ref kr, .ref kn, .ref kh, .int kt, .int kc, .int sd, .ref sr, .ref sn, .long ha])), (ro, .inl (cA, 15, .inl r))] H := hP
          have hD : va_D A [(m0, .inr (5, [.ref pg, .int (nI n), .ref rd, .int rmy, .int rpt, .int sta, .int (nI N), .int pt, .int (nI 63), .int 0, .int si, .int (en + 1), .int (w0 + 0), .int (w1 + 0), .int br, .int cr, .ref ro, .ref fa, .ref wo, .ref ah, .int pf, .int (nI t), .ref he, .ref wy, .ref on_, .ref pa, .ref kr, .ref kn, .ref kh, .int kt, .int kc, .int sd, .ref sr, .ref sn, .long ha])), (ro, .inl (cA, 15, .inl r))] := hD
          refine lv_aload_n hx hb dX5_ends_96 rfl (lv_at hl 1 rfl) ?_
          refine lv_iconst (v := 0) hx hb dX5_ends_97 (by decide) ?_
          refine va_put (D := D) (ci := 5) (v := .int 0) (ty := .int) (C := RX5) (T := TX5) (N := 35) hx hb hts hiX5 tyX5 tyX5_ok nmX5 hown hK hP hD hS 0 rfl rfl 10 (by decide) (hts (.fieldLink RX5 103 "HeardSecondModel" "silence" "I") (by decide +kernel)) (fun _ h9 => h9) rfl (by decide +kernel) (rfl) rfl (Nat.le_of_ble_eq_true rfl) dX5_ends_98 (fun H locs hP hD hS => ?_)
          have hP : va_P D vwCl [(m0, .inr (5, [.ref pg, .int (nI n), .ref rd, .int rmy, .int rpt, .int sta, .int (nI N), .int pt, .int (nI 63), .int 0, .int 0, .int (en + 1), .int (w0 + 0), .int (w1 + 0), .int br, .int cr, .ref ro, .ref fa, .ref wo, .ref ah, .int pf, .int (nI t), .ref he, .ref wy, .ref on_, .ref pa, .ref kr, .ref kn, .ref kh, .int kt, .int kc, .int sd, .ref sr, .ref sn, .long ha])), (ro, .inl (cA, 15, .inl r))] H := hP
          have hD : va_D A [(m0, .inr (5, [.ref pg, .int (nI n), .ref rd, .int rmy, .int rpt, .int sta, .int (nI N), .int pt, .int (nI 63), .int 0, .int 0, .int (en + 1), .int (w0 + 0), .int (w1 + 0), .int br, .int cr, .ref ro, .ref fa, .ref wo, .ref ah, .int pf, .int (nI t), .ref he, .ref wy, .ref on_, .ref pa, .ref kr, .ref kn, .ref kh, .int kt, .int kc, .int sd, .ref sr, .ref sn, .long ha])), (ro, .inl (cA, 15, .inl r))] := hD
          -- path 5
          have hP : va_P D vwCl [(m0, .inr (5, [.ref pg, .int (nI n), .ref rd, .int rmy, .int rpt, .int sta, .int (nI N), .int pt, .int (nI 63), .int 0, .int 0, .int (en + 1), .int (mWon 0 r k w0), .int (w1 + 0), .int br, .int cr, .ref ro, .ref fa, .ref wo, .ref ah, .int pf, .int (nI t), .ref he, .ref wy, .ref on_, .ref pa, .ref kr, .ref kn, .ref kh, .int kt, .int kc, .int sd, .ref sr, .ref sn, .long ha])), (ro, .inl (cA, 15, .inl r))] H := by have e_ : w0 + 0 = mWon 0 r k w0 := (by clear hret hl hS hD hP hK hA hN hts hx hb hr hml hown hlocks hiX5; grind [mWon]); rw [← e_]; exact hP
          have hD : va_D A [(m0, .inr (5, [.ref pg, .int (nI n), .ref rd, .int rmy, .int rpt, .int sta, .int (nI N), .int pt, .int (nI 63), .int 0, .int 0, .int (en + 1), .int (mWon 0 r k w0), .int (w1 + 0), .int br, .int cr, .ref ro, .ref fa, .ref wo, .ref ah, .int pf, .int (nI t), .ref he, .ref wy, .ref on_, .ref pa, .ref kr, .ref kn, .ref kh, .int kt, .int kc, .int sd, .ref sr, .ref sn, .long ha])), (ro, .inl (cA, 15, .inl r))] := by have e_ : w0 + 0 = mWon 0 r k w0 := (by clear hret hl hS hD hP hK hA hN hts hx hb hr hml hown hlocks hiX5; grind [mWon]); rw [← e_]; exact hD
          have hP : va_P D vwCl [(m0, .inr (5, [.ref pg, .int (nI n), .ref rd, .int rmy, .int rpt, .int sta, .int (nI N), .int pt, .int (nI 63), .int 0, .int 0, .int (en + 1), .int (mWon 0 r k w0), .int (mWon 1 r k w1), .int br, .int cr, .ref ro, .ref fa, .ref wo, .ref ah, .int pf, .int (nI t), .ref he, .ref wy, .ref on_, .ref pa, .ref kr, .ref kn, .ref kh, .int kt, .int kc, .int sd, .ref sr, .ref sn, .long ha])), (ro, .inl (cA, 15, .inl r))] H := by have e_ : w1 + 0 = mWon 1 r k w1 := (by clear hret hl hS hD hP hK hA hN hts hx hb hr hml hown hlocks hiX5; grind [mWon]); rw [← e_]; exact hP
          have hD : va_D A [(m0, .inr (5, [.ref pg, .int (nI n), .ref rd, .int rmy, .int rpt, .int sta, .int (nI N), .int pt, .int (nI 63), .int 0, .int 0, .int (en + 1), .int (mWon 0 r k w0), .int (mWon 1 r k w1), .int br, .int cr, .ref ro, .ref fa, .ref wo, .ref ah, .int pf, .int (nI t), .ref he, .ref wy, .ref on_, .ref pa, .ref kr, .ref kn, .ref kh, .int kt, .int kc, .int sd, .ref sr, .ref sn, .long ha])), (ro, .inl (cA, 15, .inl r))] := by have e_ : w1 + 0 = mWon 1 r k w1 := (by clear hret hl hS hD hP hK hA hN hts hx hb hr hml hown hlocks hiX5; grind [mWon]); rw [← e_]; exact hD
          exact hret () _ _ _ _ dX5_ends_101 (by trivial) hP hD hS
        · skip
          refine lv_iconst (v := 1) hx hb dX5_ends_76 (by decide) ?_
          refine lv_goto (tgt := 81) hx hb dX5_ends_77 (by decide) ?_
          refine lv_iadd hx hb dX5_ends_81 ?_
          refine va_put (D := D) (ci := 5) (v := .int (w1 + 1)) (ty := .int) (C := RX5) (T := TX5) (N := 35) hx hb hts hiX5 tyX5 tyX5_ok nmX5 hown hK hP hD hS 0 rfl rfl 13 (by decide) (hts (.fieldLink RX5 112 "HeardSecondModel" "wonBy1" "I") (by decide +kernel)) (fun _ h9 => h9) rfl (by decide +kernel) (rfl) rfl (Nat.le_of_ble_eq_true rfl) dX5_ends_82 (fun H locs hP hD hS => ?_)
          have hP : va_P D vwCl [(m0, .inr (5, [.ref pg, .int (nI n), .ref rd, .int rmy, .int rpt, .int sta, .int (nI N), .int pt, .int (nI k), .int ou, .int si, .int (en + 1), .int (w0 + 0), .int (w1 + 1), .int br, .int cr, .ref ro, .ref fa, .ref wo, .ref ah, .int pf, .int (nI t), .ref he, .ref wy, .ref on_, .ref pa, .ref kr, .ref kn, .ref kh, .int kt, .int kc, .int sd, .ref sr, .ref sn, .long ha])), (ro, .inl (cA, 15, .inl r))] H := hP
          have hD : va_D A [(m0, .inr (5, [.ref pg, .int (nI n), .ref rd, .int rmy, .int rpt, .int sta, .int (nI N), .int pt, .int (nI k), .int ou, .int si, .int (en + 1), .int (w0 + 0), .int (w1 + 1), .int br, .int cr, .ref ro, .ref fa, .ref wo, .ref ah, .int pf, .int (nI t), .ref he, .ref wy, .ref on_, .ref pa, .ref kr, .ref kn, .ref kh, .int kt, .int kc, .int sd, .ref sr, .ref sn, .long ha])), (ro, .inl (cA, 15, .inl r))] := hD
          refine lv_aload_n hx hb dX5_ends_85 rfl (lv_at hl 1 rfl) ?_
          refine lv_bipush (v := nI 63) hx hb dX5_ends_86 (by decide) ?_
          refine va_put (D := D) (ci := 5) (v := .int (nI 63)) (ty := .int) (C := RX5) (T := TX5) (N := 35) hx hb hts hiX5 tyX5 tyX5_ok nmX5 hown hK hP hD hS 0 rfl rfl 8 (by decide) (hts (.fieldLink RX5 59 "HeardSecondModel" "now" "I") (by decide +kernel)) (fun _ h9 => h9) rfl (by decide +kernel) (rfl) rfl (Nat.le_of_ble_eq_true rfl) dX5_ends_88 (fun H locs hP hD hS => ?_)
          have hP : va_P D vwCl [(m0, .inr (5, [.ref pg, .int (nI n), .ref rd, .int rmy, .int rpt, .int sta, .int (nI N), .int pt, .int (nI 63), .int ou, .int si, .int (en + 1), .int (w0 + 0), .int (w1 + 1), .int br, .int cr, .ref ro, .ref fa, .ref wo, .ref ah, .int pf, .int (nI t), .ref he, .ref wy, .ref on_, .ref pa, .ref kr, .ref kn, .ref kh, .int kt, .int kc, .int sd, .ref sr, .ref sn, .long ha])), (ro, .inl (cA, 15, .inl r))] H := hP
          have hD : va_D A [(m0, .inr (5, [.ref pg, .int (nI n), .ref rd, .int rmy, .int rpt, .int sta, .int (nI N), .int pt, .int (nI 63), .int ou, .int si, .int (en + 1), .int (w0 + 0), .int (w1 + 1), .int br, .int cr, .ref ro, .ref fa, .ref wo, .ref ah, .int pf, .int (nI t), .ref he, .ref wy, .ref on_, .ref pa, .ref kr, .ref kn, .ref kh, .int kt, .int kc, .int sd, .ref sr, .ref sn, .long ha])), (ro, .inl (cA, 15, .inl r))] := hD
          refine lv_aload_n hx hb dX5_ends_91 rfl (lv_at hl 1 rfl) ?_
          refine lv_iconst (v := 0) hx hb dX5_ends_92 (by decide) ?_
          refine va_put (D := D) (ci := 5) (v := .int 0) (ty := .int) (C := RX5) (T := TX5) (N := 35) hx hb hts hiX5 tyX5 tyX5_ok nmX5 hown hK hP hD hS 0 rfl rfl 9 (by decide) (hts (.fieldLink RX5 100 "HeardSecondModel" "out" "I") (by decide +kernel)) (fun _ h9 => h9) rfl (by decide +kernel) (rfl) rfl (Nat.le_of_ble_eq_true rfl) dX5_ends_93 (fun H locs hP hD hS => ?_)
          have hP : va_P D vwCl [(m0, .inr (5, [.ref pg, .int (nI n), .ref rd, .int rmy, .int rpt, .int sta, .int (nI N), .int pt, .int (nI 63), .int 0, .int si, .int (en + 1), .int (w0 + 0), .int (w1 + 1), .int br, .int cr, .ref ro, .ref fa, .ref wo, .ref ah, .int pf, .int (nI t), .ref he, .ref wy, .ref on_, .ref pa, .ref kr, .ref kn, .ref kh, .int kt, .int kc, .int sd, .ref sr, .ref sn, .long ha])), (ro, .inl (cA, 15, .inl r))] H := hP
          have hD : va_D A [(m0, .inr (5, [.ref pg, .int (nI n), .ref rd, .int rmy, .int rpt, .int sta, .int (nI N), .int pt, .int (nI 63), .int 0, .int si, .int (en + 1), .int (w0 + 0), .int (w1 + 1), .int br, .int cr, .ref ro, .ref fa, .ref wo, .ref ah, .int pf, .int (nI t), .ref he, .ref wy, .ref on_, .ref pa, .ref kr, .ref kn, .ref kh, .int kt, .int kc, .int sd, .ref sr, .ref sn, .long ha])), (ro, .inl (cA, 15, .inl r))] := hD
          refine lv_aload_n hx hb dX5_ends_96 rfl (lv_at hl 1 rfl) ?_
          refine lv_iconst (v := 0) hx hb dX5_ends_97 (by decide) ?_
          refine va_put (D := D) (ci := 5) (v := .int 0) (ty := .int) (C := RX5) (T := TX5) (N := 35) hx hb hts hiX5 tyX5 tyX5_ok nmX5 hown hK hP hD hS 0 rfl rfl 10 (by decide) (hts (.fieldLink RX5 103 "HeardSecondModel" "silence" "I") (by decide +kernel)) (fun _ h9 => h9) rfl (by decide +kernel) (rfl) rfl (Nat.le_of_ble_eq_true rfl) dX5_ends_98 (fun H locs hP hD hS => ?_)
          have hP : va_P D vwCl [(m0, .inr (5, [.ref pg, .int (nI n), .ref rd, .int rmy, .int rpt, .int sta, .int (nI N), .int pt, .int (nI 63), .int 0, .int 0, .int (en + 1), .int (w0 + 0), .int (w1 + 1), .int br, .int cr, .ref ro, .ref fa, .ref wo, .ref ah, .int pf, .int (nI t), .ref he, .ref wy, .ref on_, .ref pa, .ref kr, .ref kn, .ref kh, .int kt, .int kc, .int sd, .ref sr, .ref sn, .long ha])), (ro, .inl (cA, 15, .inl r))] H := hP
          have hD : va_D A [(m0, .inr (5, [.ref pg, .int (nI n), .ref rd, .int rmy, .int rpt, .int sta, .int (nI N), .int pt, .int (nI 63), .int 0, .int 0, .int (en + 1), .int (w0 + 0), .int (w1 + 1), .int br, .int cr, .ref ro, .ref fa, .ref wo, .ref ah, .int pf, .int (nI t), .ref he, .ref wy, .ref on_, .ref pa, .ref kr, .ref kn, .ref kh, .int kt, .int kc, .int sd, .ref sr, .ref sn, .long ha])), (ro, .inl (cA, 15, .inl r))] := hD
          -- path 6
          have hP : va_P D vwCl [(m0, .inr (5, [.ref pg, .int (nI n), .ref rd, .int rmy, .int rpt, .int sta, .int (nI N), .int pt, .int (nI 63), .int 0, .int 0, .int (en + 1), .int (mWon 0 r k w0), .int (w1 + 1), .int br, .int cr, .ref ro, .ref fa, .ref wo, .ref ah, .int pf, .int (nI t), .ref he, .ref wy, .ref on_, .ref pa, .ref kr, .ref kn, .ref kh, .int kt, .int kc, .int sd, .ref sr, .ref sn, .long ha])), (ro, .inl (cA, 15, .inl r))] H := by have e_ : w0 + 0 = mWon 0 r k w0 := (by clear hret hl hS hD hP hK hA hN hts hx hb hr hml hown hlocks hiX5; grind [mWon]); rw [← e_]; exact hP
          have hD : va_D A [(m0, .inr (5, [.ref pg, .int (nI n), .ref rd, .int rmy, .int rpt, .int sta, .int (nI N), .int pt, .int (nI 63), .int 0, .int 0, .int (en + 1), .int (mWon 0 r k w0), .int (w1 + 1), .int br, .int cr, .ref ro, .ref fa, .ref wo, .ref ah, .int pf, .int (nI t), .ref he, .ref wy, .ref on_, .ref pa, .ref kr, .ref kn, .ref kh, .int kt, .int kc, .int sd, .ref sr, .ref sn, .long ha])), (ro, .inl (cA, 15, .inl r))] := by have e_ : w0 + 0 = mWon 0 r k w0 := (by clear hret hl hS hD hP hK hA hN hts hx hb hr hml hown hlocks hiX5; grind [mWon]); rw [← e_]; exact hD
          have hP : va_P D vwCl [(m0, .inr (5, [.ref pg, .int (nI n), .ref rd, .int rmy, .int rpt, .int sta, .int (nI N), .int pt, .int (nI 63), .int 0, .int 0, .int (en + 1), .int (mWon 0 r k w0), .int (mWon 1 r k w1), .int br, .int cr, .ref ro, .ref fa, .ref wo, .ref ah, .int pf, .int (nI t), .ref he, .ref wy, .ref on_, .ref pa, .ref kr, .ref kn, .ref kh, .int kt, .int kc, .int sd, .ref sr, .ref sn, .long ha])), (ro, .inl (cA, 15, .inl r))] H := by have e_ : w1 + 1 = mWon 1 r k w1 := (by clear hret hl hS hD hP hK hA hN hts hx hb hr hml hown hlocks hiX5; grind [mWon]); rw [← e_]; exact hP
          have hD : va_D A [(m0, .inr (5, [.ref pg, .int (nI n), .ref rd, .int rmy, .int rpt, .int sta, .int (nI N), .int pt, .int (nI 63), .int 0, .int 0, .int (en + 1), .int (mWon 0 r k w0), .int (mWon 1 r k w1), .int br, .int cr, .ref ro, .ref fa, .ref wo, .ref ah, .int pf, .int (nI t), .ref he, .ref wy, .ref on_, .ref pa, .ref kr, .ref kn, .ref kh, .int kt, .int kc, .int sd, .ref sr, .ref sn, .long ha])), (ro, .inl (cA, 15, .inl r))] := by have e_ : w1 + 1 = mWon 1 r k w1 := (by clear hret hl hS hD hP hK hA hN hts hx hb hr hml hown hlocks hiX5; grind [mWon]); rw [← e_]; exact hD
          exact hret () _ _ _ _ dX5_ends_101 (by trivial) hP hD hS
    · skip
      refine lv_iconst (v := 1) hx hb dX5_ends_42 (by decide) ?_
      refine lv_goto (tgt := 47) hx hb dX5_ends_43 (by decide) ?_
      refine lv_iadd hx hb dX5_ends_47 ?_
      refine va_put (D := D) (ci := 5) (v := .int (w0 + 1)) (ty := .int) (C := RX5) (T := TX5) (N := 35) hx hb hts hiX5 tyX5 tyX5_ok nmX5 hown hK hP hD hS 0 rfl rfl 12 (by decide) (hts (.fieldLink RX5 109 "HeardSecondModel" "wonBy0" "I") (by decide +kernel)) (fun _ h9 => h9) rfl (by decide +kernel) (rfl) rfl (Nat.le_of_ble_eq_true rfl) dX5_ends_48 (fun H locs hP hD hS => ?_)
      have hP : va_P D vwCl [(m0, .inr (5, [.ref pg, .int (nI n), .ref rd, .int rmy, .int rpt, .int sta, .int (nI N), .int pt, .int (nI k), .int ou, .int si, .int (en + 1), .int (w0 + 1), .int w1, .int br, .int cr, .ref ro, .ref fa, .ref wo, .ref ah, .int pf, .int (nI t), .ref he, .ref wy, .ref on_, .ref pa, .ref kr, .ref kn, .ref kh, .int kt, .int kc, .int sd, .ref sr, .ref sn, .long ha])), (ro, .inl (cA, 15, .inl r))] H := hP
      have hD : va_D A [(m0, .inr (5, [.ref pg, .int (nI n), .ref rd, .int rmy, .int rpt, .int sta, .int (nI N), .int pt, .int (nI k), .int ou, .int si, .int (en + 1), .int (w0 + 1), .int w1, .int br, .int cr, .ref ro, .ref fa, .ref wo, .ref ah, .int pf, .int (nI t), .ref he, .ref wy, .ref on_, .ref pa, .ref kr, .ref kn, .ref kh, .int kt, .int kc, .int sd, .ref sr, .ref sn, .long ha])), (ro, .inl (cA, 15, .inl r))] := hD
      refine lv_aload_n hx hb dX5_ends_51 rfl (lv_at hl 1 rfl) ?_
      refine lv_dup hx hb dX5_ends_52 rfl ?_
      refine va_get (D := D) (ci := 5) (v := .int w1) (C := RX5) (T := TX5) (N := 35) hx hb hts hiX5 hown hK hP 0 rfl rfl 13 (by decide) (hts (.fieldLink RX5 112 "HeardSecondModel" "wonBy1" "I") (by decide +kernel)) (fun _ h9 => h9) rfl dX5_ends_53 ?_
      refine lv_iload_n hx hb dX5_ends_56 rfl (lv_at hl 0 rfl) ?_
      refine lv_bipush (v := 7) hx hb dX5_ends_57 (by decide) ?_
      refine lv_icmp_eq (tgt := 80) hx hb dX5_ends_59 (by decide) (fun c59_7 => ?_) (fun c59_7 => ?_)
      · skip
        have e2_ := (nI_eq (a := k % 8) (b := 7) (by omega) (by omega)).mp c59_7
        refine lv_iconst (v := 0) hx hb dX5_ends_80 (by decide) ?_
        refine lv_iadd hx hb dX5_ends_81 ?_
        refine va_put (D := D) (ci := 5) (v := .int (w1 + 0)) (ty := .int) (C := RX5) (T := TX5) (N := 35) hx hb hts hiX5 tyX5 tyX5_ok nmX5 hown hK hP hD hS 0 rfl rfl 13 (by decide) (hts (.fieldLink RX5 112 "HeardSecondModel" "wonBy1" "I") (by decide +kernel)) (fun _ h9 => h9) rfl (by decide +kernel) (rfl) rfl (Nat.le_of_ble_eq_true rfl) dX5_ends_82 (fun H locs hP hD hS => ?_)
        have hP : va_P D vwCl [(m0, .inr (5, [.ref pg, .int (nI n), .ref rd, .int rmy, .int rpt, .int sta, .int (nI N), .int pt, .int (nI k), .int ou, .int si, .int (en + 1), .int (w0 + 1), .int (w1 + 0), .int br, .int cr, .ref ro, .ref fa, .ref wo, .ref ah, .int pf, .int (nI t), .ref he, .ref wy, .ref on_, .ref pa, .ref kr, .ref kn, .ref kh, .int kt, .int kc, .int sd, .ref sr, .ref sn, .long ha])), (ro, .inl (cA, 15, .inl r))] H := hP
        have hD : va_D A [(m0, .inr (5, [.ref pg, .int (nI n), .ref rd, .int rmy, .int rpt, .int sta, .int (nI N), .int pt, .int (nI k), .int ou, .int si, .int (en + 1), .int (w0 + 1), .int (w1 + 0), .int br, .int cr, .ref ro, .ref fa, .ref wo, .ref ah, .int pf, .int (nI t), .ref he, .ref wy, .ref on_, .ref pa, .ref kr, .ref kn, .ref kh, .int kt, .int kc, .int sd, .ref sr, .ref sn, .long ha])), (ro, .inl (cA, 15, .inl r))] := hD
        refine lv_aload_n hx hb dX5_ends_85 rfl (lv_at hl 1 rfl) ?_
        refine lv_bipush (v := nI 63) hx hb dX5_ends_86 (by decide) ?_
        refine va_put (D := D) (ci := 5) (v := .int (nI 63)) (ty := .int) (C := RX5) (T := TX5) (N := 35) hx hb hts hiX5 tyX5 tyX5_ok nmX5 hown hK hP hD hS 0 rfl rfl 8 (by decide) (hts (.fieldLink RX5 59 "HeardSecondModel" "now" "I") (by decide +kernel)) (fun _ h9 => h9) rfl (by decide +kernel) (rfl) rfl (Nat.le_of_ble_eq_true rfl) dX5_ends_88 (fun H locs hP hD hS => ?_)
        have hP : va_P D vwCl [(m0, .inr (5, [.ref pg, .int (nI n), .ref rd, .int rmy, .int rpt, .int sta, .int (nI N), .int pt, .int (nI 63), .int ou, .int si, .int (en + 1), .int (w0 + 1), .int (w1 + 0), .int br, .int cr, .ref ro, .ref fa, .ref wo, .ref ah, .int pf, .int (nI t), .ref he, .ref wy, .ref on_, .ref pa, .ref kr, .ref kn, .ref kh, .int kt, .int kc, .int sd, .ref sr, .ref sn, .long ha])), (ro, .inl (cA, 15, .inl r))] H := hP
        have hD : va_D A [(m0, .inr (5, [.ref pg, .int (nI n), .ref rd, .int rmy, .int rpt, .int sta, .int (nI N), .int pt, .int (nI 63), .int ou, .int si, .int (en + 1), .int (w0 + 1), .int (w1 + 0), .int br, .int cr, .ref ro, .ref fa, .ref wo, .ref ah, .int pf, .int (nI t), .ref he, .ref wy, .ref on_, .ref pa, .ref kr, .ref kn, .ref kh, .int kt, .int kc, .int sd, .ref sr, .ref sn, .long ha])), (ro, .inl (cA, 15, .inl r))] := hD
        refine lv_aload_n hx hb dX5_ends_91 rfl (lv_at hl 1 rfl) ?_
        refine lv_iconst (v := 0) hx hb dX5_ends_92 (by decide) ?_
        refine va_put (D := D) (ci := 5) (v := .int 0) (ty := .int) (C := RX5) (T := TX5) (N := 35) hx hb hts hiX5 tyX5 tyX5_ok nmX5 hown hK hP hD hS 0 rfl rfl 9 (by decide) (hts (.fieldLink RX5 100 "HeardSecondModel" "out" "I") (by decide +kernel)) (fun _ h9 => h9) rfl (by decide +kernel) (rfl) rfl (Nat.le_of_ble_eq_true rfl) dX5_ends_93 (fun H locs hP hD hS => ?_)
        have hP : va_P D vwCl [(m0, .inr (5, [.ref pg, .int (nI n), .ref rd, .int rmy, .int rpt, .int sta, .int (nI N), .int pt, .int (nI 63), .int 0, .int si, .int (en + 1), .int (w0 + 1), .int (w1 + 0), .int br, .int cr, .ref ro, .ref fa, .ref wo, .ref ah, .int pf, .int (nI t), .ref he, .ref wy, .ref on_, .ref pa, .ref kr, .ref kn, .ref kh, .int kt, .int kc, .int sd, .ref sr, .ref sn, .long ha])), (ro, .inl (cA, 15, .inl r))] H := hP
        have hD : va_D A [(m0, .inr (5, [.ref pg, .int (nI n), .ref rd, .int rmy, .int rpt, .int sta, .int (nI N), .int pt, .int (nI 63), .int 0, .int si, .int (en + 1), .int (w0 + 1), .int (w1 + 0), .int br, .int cr, .ref ro, .ref fa, .ref wo, .ref ah, .int pf, .int (nI t), .ref he, .ref wy, .ref on_, .ref pa, .ref kr, .ref kn, .ref kh, .int kt, .int kc, .int sd, .ref sr, .ref sn, .long ha])), (ro, .inl (cA, 15, .inl r))] := hD
        refine lv_aload_n hx hb dX5_ends_96 rfl (lv_at hl 1 rfl) ?_
        refine lv_iconst (v := 0) hx hb dX5_ends_97 (by decide) ?_
        refine va_put (D := D) (ci := 5) (v := .int 0) (ty := .int) (C := RX5) (T := TX5) (N := 35) hx hb hts hiX5 tyX5 tyX5_ok nmX5 hown hK hP hD hS 0 rfl rfl 10 (by decide) (hts (.fieldLink RX5 103 "HeardSecondModel" "silence" "I") (by decide +kernel)) (fun _ h9 => h9) rfl (by decide +kernel) (rfl) rfl (Nat.le_of_ble_eq_true rfl) dX5_ends_98 (fun H locs hP hD hS => ?_)
        have hP : va_P D vwCl [(m0, .inr (5, [.ref pg, .int (nI n), .ref rd, .int rmy, .int rpt, .int sta, .int (nI N), .int pt, .int (nI 63), .int 0, .int 0, .int (en + 1), .int (w0 + 1), .int (w1 + 0), .int br, .int cr, .ref ro, .ref fa, .ref wo, .ref ah, .int pf, .int (nI t), .ref he, .ref wy, .ref on_, .ref pa, .ref kr, .ref kn, .ref kh, .int kt, .int kc, .int sd, .ref sr, .ref sn, .long ha])), (ro, .inl (cA, 15, .inl r))] H := hP
        have hD : va_D A [(m0, .inr (5, [.ref pg, .int (nI n), .ref rd, .int rmy, .int rpt, .int sta, .int (nI N), .int pt, .int (nI 63), .int 0, .int 0, .int (en + 1), .int (w0 + 1), .int (w1 + 0), .int br, .int cr, .ref ro, .ref fa, .ref wo, .ref ah, .int pf, .int (nI t), .ref he, .ref wy, .ref on_, .ref pa, .ref kr, .ref kn, .ref kh, .int kt, .int kc, .int sd, .ref sr, .ref sn, .long ha])), (ro, .inl (cA, 15, .inl r))] := hD
        -- path 7
        have hP : va_P D vwCl [(m0, .inr (5, [.ref pg, .int (nI n), .ref rd, .int rmy, .int rpt, .int sta, .int (nI N), .int pt, .int (nI 63), .int 0, .int 0, .int (en + 1), .int (mWon 0 r k w0), .int (w1 + 0), .int br, .int cr, .ref ro, .ref fa, .ref wo, .ref ah, .int pf, .int (nI t), .ref he, .ref wy, .ref on_, .ref pa, .ref kr, .ref kn, .ref kh, .int kt, .int kc, .int sd, .ref sr, .ref sn, .long ha])), (ro, .inl (cA, 15, .inl r))] H := by have e_ : w0 + 1 = mWon 0 r k w0 := (by clear hret hl hS hD hP hK hA hN hts hx hb hr hml hown hlocks hiX5; grind [mWon]); rw [← e_]; exact hP
        have hD : va_D A [(m0, .inr (5, [.ref pg, .int (nI n), .ref rd, .int rmy, .int rpt, .int sta, .int (nI N), .int pt, .int (nI 63), .int 0, .int 0, .int (en + 1), .int (mWon 0 r k w0), .int (w1 + 0), .int br, .int cr, .ref ro, .ref fa, .ref wo, .ref ah, .int pf, .int (nI t), .ref he, .ref wy, .ref on_, .ref pa, .ref kr, .ref kn, .ref kh, .int kt, .int kc, .int sd, .ref sr, .ref sn, .long ha])), (ro, .inl (cA, 15, .inl r))] := by have e_ : w0 + 1 = mWon 0 r k w0 := (by clear hret hl hS hD hP hK hA hN hts hx hb hr hml hown hlocks hiX5; grind [mWon]); rw [← e_]; exact hD
        have hP : va_P D vwCl [(m0, .inr (5, [.ref pg, .int (nI n), .ref rd, .int rmy, .int rpt, .int sta, .int (nI N), .int pt, .int (nI 63), .int 0, .int 0, .int (en + 1), .int (mWon 0 r k w0), .int (mWon 1 r k w1), .int br, .int cr, .ref ro, .ref fa, .ref wo, .ref ah, .int pf, .int (nI t), .ref he, .ref wy, .ref on_, .ref pa, .ref kr, .ref kn, .ref kh, .int kt, .int kc, .int sd, .ref sr, .ref sn, .long ha])), (ro, .inl (cA, 15, .inl r))] H := by have e_ : w1 + 0 = mWon 1 r k w1 := (by clear hret hl hS hD hP hK hA hN hts hx hb hr hml hown hlocks hiX5; grind [mWon]); rw [← e_]; exact hP
        have hD : va_D A [(m0, .inr (5, [.ref pg, .int (nI n), .ref rd, .int rmy, .int rpt, .int sta, .int (nI N), .int pt, .int (nI 63), .int 0, .int 0, .int (en + 1), .int (mWon 0 r k w0), .int (mWon 1 r k w1), .int br, .int cr, .ref ro, .ref fa, .ref wo, .ref ah, .int pf, .int (nI t), .ref he, .ref wy, .ref on_, .ref pa, .ref kr, .ref kn, .ref kh, .int kt, .int kc, .int sd, .ref sr, .ref sn, .long ha])), (ro, .inl (cA, 15, .inl r))] := by have e_ : w1 + 0 = mWon 1 r k w1 := (by clear hret hl hS hD hP hK hA hN hts hx hb hr hml hown hlocks hiX5; grind [mWon]); rw [← e_]; exact hD
        exact hret () _ _ _ _ dX5_ends_101 (by trivial) hP hD hS
      · skip
        have e2_ : ¬ k % 8 = 7 := fun q_ => c59_7 (by rw [q_]; try rfl)
        refine lv_aload_n hx hb dX5_ends_62 rfl (lv_at hl 1 rfl) ?_
        refine va_get (D := D) (ci := 5) (v := .ref ro) (C := RX5) (T := TX5) (N := 35) hx hb hts hiX5 hown hK hP 0 rfl rfl 16 (by decide) (hts (.fieldLink RX5 16 "HeardSecondModel" "rows" "[I") (by decide +kernel)) (fun _ h9 => h9) rfl dX5_ends_63 ?_
        refine lv_iconst (v := 3) hx hb dX5_ends_66 (by decide) ?_
        refine lv_iload_n hx hb dX5_ends_67 rfl (lv_at hl 0 rfl) ?_
        refine lv_imul hx hb dX5_ends_68 ?_
        refine lv_iconst (v := 1) hx hb dX5_ends_69 (by decide) ?_
        refine lv_iadd hx hb dX5_ends_70 ?_
        refine z_top (y := nI (3 * (k % 8) + 1)) (nI_31 (k % 8)) ?_
        refine va_iald hx hb hK hP 1 0 rfl rfl (z_inN (by omega) (by decide)) dX5_ends_71 ?_
        refine z_top (y := r (3 * (k % 8) + 1)) (by rw [z_nat (by omega)]) ?_
        refine lv_iconst (v := 1) hx hb dX5_ends_72 (by decide) ?_
        refine lv_icmp_ne (tgt := 80) hx hb dX5_ends_73 (by decide) (fun c73_8 => ?_) (fun c73_8 => ?_)
        · skip
          refine lv_iconst (v := 0) hx hb dX5_ends_80 (by decide) ?_
          refine lv_iadd hx hb dX5_ends_81 ?_
          refine va_put (D := D) (ci := 5) (v := .int (w1 + 0)) (ty := .int) (C := RX5) (T := TX5) (N := 35) hx hb hts hiX5 tyX5 tyX5_ok nmX5 hown hK hP hD hS 0 rfl rfl 13 (by decide) (hts (.fieldLink RX5 112 "HeardSecondModel" "wonBy1" "I") (by decide +kernel)) (fun _ h9 => h9) rfl (by decide +kernel) (rfl) rfl (Nat.le_of_ble_eq_true rfl) dX5_ends_82 (fun H locs hP hD hS => ?_)
          have hP : va_P D vwCl [(m0, .inr (5, [.ref pg, .int (nI n), .ref rd, .int rmy, .int rpt, .int sta, .int (nI N), .int pt, .int (nI k), .int ou, .int si, .int (en + 1), .int (w0 + 1), .int (w1 + 0), .int br, .int cr, .ref ro, .ref fa, .ref wo, .ref ah, .int pf, .int (nI t), .ref he, .ref wy, .ref on_, .ref pa, .ref kr, .ref kn, .ref kh, .int kt, .int kc, .int sd, .ref sr, .ref sn, .long ha])), (ro, .inl (cA, 15, .inl r))] H := hP
          have hD : va_D A [(m0, .inr (5, [.ref pg, .int (nI n), .ref rd, .int rmy, .int rpt, .int sta, .int (nI N), .int pt, .int (nI k), .int ou, .int si, .int (en + 1), .int (w0 + 1), .int (w1 + 0), .int br, .int cr, .ref ro, .ref fa, .ref wo, .ref ah, .int pf, .int (nI t), .ref he, .ref wy, .ref on_, .ref pa, .ref kr, .ref kn, .ref kh, .int kt, .int kc, .int sd, .ref sr, .ref sn, .long ha])), (ro, .inl (cA, 15, .inl r))] := hD
          refine lv_aload_n hx hb dX5_ends_85 rfl (lv_at hl 1 rfl) ?_
          refine lv_bipush (v := nI 63) hx hb dX5_ends_86 (by decide) ?_
          refine va_put (D := D) (ci := 5) (v := .int (nI 63)) (ty := .int) (C := RX5) (T := TX5) (N := 35) hx hb hts hiX5 tyX5 tyX5_ok nmX5 hown hK hP hD hS 0 rfl rfl 8 (by decide) (hts (.fieldLink RX5 59 "HeardSecondModel" "now" "I") (by decide +kernel)) (fun _ h9 => h9) rfl (by decide +kernel) (rfl) rfl (Nat.le_of_ble_eq_true rfl) dX5_ends_88 (fun H locs hP hD hS => ?_)
          have hP : va_P D vwCl [(m0, .inr (5, [.ref pg, .int (nI n), .ref rd, .int rmy, .int rpt, .int sta, .int (nI N), .int pt, .int (nI 63), .int ou, .int si, .int (en + 1), .int (w0 + 1), .int (w1 + 0), .int br, .int cr, .ref ro, .ref fa, .ref wo, .ref ah, .int pf, .int (nI t), .ref he, .ref wy, .ref on_, .ref pa, .ref kr, .ref kn, .ref kh, .int kt, .int kc, .int sd, .ref sr, .ref sn, .long ha])), (ro, .inl (cA, 15, .inl r))] H := hP
          have hD : va_D A [(m0, .inr (5, [.ref pg, .int (nI n), .ref rd, .int rmy, .int rpt, .int sta, .int (nI N), .int pt, .int (nI 63), .int ou, .int si, .int (en + 1), .int (w0 + 1), .int (w1 + 0), .int br, .int cr, .ref ro, .ref fa, .ref wo, .ref ah, .int pf, .int (nI t), .ref he, .ref wy, .ref on_, .ref pa, .ref kr, .ref kn, .ref kh, .int kt, .int kc, .int sd, .ref sr, .ref sn, .long ha])), (ro, .inl (cA, 15, .inl r))] := hD
          refine lv_aload_n hx hb dX5_ends_91 rfl (lv_at hl 1 rfl) ?_
          refine lv_iconst (v := 0) hx hb dX5_ends_92 (by decide) ?_
          refine va_put (D := D) (ci := 5) (v := .int 0) (ty := .int) (C := RX5) (T := TX5) (N := 35) hx hb hts hiX5 tyX5 tyX5_ok nmX5 hown hK hP hD hS 0 rfl rfl 9 (by decide) (hts (.fieldLink RX5 100 "HeardSecondModel" "out" "I") (by decide +kernel)) (fun _ h9 => h9) rfl (by decide +kernel) (rfl) rfl (Nat.le_of_ble_eq_true rfl) dX5_ends_93 (fun H locs hP hD hS => ?_)
          have hP : va_P D vwCl [(m0, .inr (5, [.ref pg, .int (nI n), .ref rd, .int rmy, .int rpt, .int sta, .int (nI N), .int pt, .int (nI 63), .int 0, .int si, .int (en + 1), .int (w0 + 1), .int (w1 + 0), .int br, .int cr, .ref ro, .ref fa, .ref wo, .ref ah, .int pf, .int (nI t), .ref he, .ref wy, .ref on_, .ref pa, .ref kr, .ref kn, .ref kh, .int kt, .int kc, .int sd, .ref sr, .ref sn, .long ha])), (ro, .inl (cA, 15, .inl r))] H := hP
          have hD : va_D A [(m0, .inr (5, [.ref pg, .int (nI n), .ref rd, .int rmy, .int rpt, .int sta, .int (nI N), .int pt, .int (nI 63), .int 0, .int si, .int (en + 1), .int (w0 + 1), .int (w1 + 0), .int br, .int cr, .ref ro, .ref fa, .ref wo, .ref ah, .int pf, .int (nI t), .ref he, .ref wy, .ref on_, .ref pa, .ref kr, .ref kn, .ref kh, .int kt, .int kc, .int sd, .ref sr, .ref sn, .long ha])), (ro, .inl (cA, 15, .inl r))] := hD
          refine lv_aload_n hx hb dX5_ends_96 rfl (lv_at hl 1 rfl) ?_
          refine lv_iconst (v := 0) hx hb dX5_ends_97 (by decide) ?_
          refine va_put (D := D) (ci := 5) (v := .int 0) (ty := .int) (C := RX5) (T := TX5) (N := 35) hx hb hts hiX5 tyX5 tyX5_ok nmX5 hown hK hP hD hS 0 rfl rfl 10 (by decide) (hts (.fieldLink RX5 103 "HeardSecondModel" "silence" "I") (by decide +kernel)) (fun _ h9 => h9) rfl (by decide +kernel) (rfl) rfl (Nat.le_of_ble_eq_true rfl) dX5_ends_98 (fun H locs hP hD hS => ?_)
          have hP : va_P D vwCl [(m0, .inr (5, [.ref pg, .int (nI n), .ref rd, .int rmy, .int rpt, .int sta, .int (nI N), .int pt, .int (nI 63), .int 0, .int 0, .int (en + 1), .int (w0 + 1), .int (w1 + 0), .int br, .int cr, .ref ro, .ref fa, .ref wo, .ref ah, .int pf, .int (nI t), .ref he, .ref wy, .ref on_, .ref pa, .ref kr, .ref kn, .ref kh, .int kt, .int kc, .int sd, .ref sr, .ref sn, .long ha])), (ro, .inl (cA, 15, .inl r))] H := hP
          have hD : va_D A [(m0, .inr (5, [.ref pg, .int (nI n), .ref rd, .int rmy, .int rpt, .int sta, .int (nI N), .int pt, .int (nI 63), .int 0, .int 0, .int (en + 1), .int (w0 + 1), .int (w1 + 0), .int br, .int cr, .ref ro, .ref fa, .ref wo, .ref ah, .int pf, .int (nI t), .ref he, .ref wy, .ref on_, .ref pa, .ref kr, .ref kn, .ref kh, .int kt, .int kc, .int sd, .ref sr, .ref sn, .long ha])), (ro, .inl (cA, 15, .inl r))] := hD
          -- path 8
          have hP : va_P D vwCl [(m0, .inr (5, [.ref pg, .int (nI n), .ref rd, .int rmy, .int rpt, .int sta, .int (nI N), .int pt, .int (nI 63), .int 0, .int 0, .int (en + 1), .int (mWon 0 r k w0), .int (w1 + 0), .int br, .int cr, .ref ro, .ref fa, .ref wo, .ref ah, .int pf, .int (nI t), .ref he, .ref wy, .ref on_, .ref pa, .ref kr, .ref kn, .ref kh, .int kt, .int kc, .int sd, .ref sr, .ref sn, .long ha])), (ro, .inl (cA, 15, .inl r))] H := by have e_ : w0 + 1 = mWon 0 r k w0 := (by clear hret hl hS hD hP hK hA hN hts hx hb hr hml hown hlocks hiX5; grind [mWon]); rw [← e_]; exact hP
          have hD : va_D A [(m0, .inr (5, [.ref pg, .int (nI n), .ref rd, .int rmy, .int rpt, .int sta, .int (nI N), .int pt, .int (nI 63), .int 0, .int 0, .int (en + 1), .int (mWon 0 r k w0), .int (w1 + 0), .int br, .int cr, .ref ro, .ref fa, .ref wo, .ref ah, .int pf, .int (nI t), .ref he, .ref wy, .ref on_, .ref pa, .ref kr, .ref kn, .ref kh, .int kt, .int kc, .int sd, .ref sr, .ref sn, .long ha])), (ro, .inl (cA, 15, .inl r))] := by have e_ : w0 + 1 = mWon 0 r k w0 := (by clear hret hl hS hD hP hK hA hN hts hx hb hr hml hown hlocks hiX5; grind [mWon]); rw [← e_]; exact hD
          have hP : va_P D vwCl [(m0, .inr (5, [.ref pg, .int (nI n), .ref rd, .int rmy, .int rpt, .int sta, .int (nI N), .int pt, .int (nI 63), .int 0, .int 0, .int (en + 1), .int (mWon 0 r k w0), .int (mWon 1 r k w1), .int br, .int cr, .ref ro, .ref fa, .ref wo, .ref ah, .int pf, .int (nI t), .ref he, .ref wy, .ref on_, .ref pa, .ref kr, .ref kn, .ref kh, .int kt, .int kc, .int sd, .ref sr, .ref sn, .long ha])), (ro, .inl (cA, 15, .inl r))] H := by have e_ : w1 + 0 = mWon 1 r k w1 := (by clear hret hl hS hD hP hK hA hN hts hx hb hr hml hown hlocks hiX5; grind [mWon]); rw [← e_]; exact hP
          have hD : va_D A [(m0, .inr (5, [.ref pg, .int (nI n), .ref rd, .int rmy, .int rpt, .int sta, .int (nI N), .int pt, .int (nI 63), .int 0, .int 0, .int (en + 1), .int (mWon 0 r k w0), .int (mWon 1 r k w1), .int br, .int cr, .ref ro, .ref fa, .ref wo, .ref ah, .int pf, .int (nI t), .ref he, .ref wy, .ref on_, .ref pa, .ref kr, .ref kn, .ref kh, .int kt, .int kc, .int sd, .ref sr, .ref sn, .long ha])), (ro, .inl (cA, 15, .inl r))] := by have e_ : w1 + 0 = mWon 1 r k w1 := (by clear hret hl hS hD hP hK hA hN hts hx hb hr hml hown hlocks hiX5; grind [mWon]); rw [← e_]; exact hD
          exact hret () _ _ _ _ dX5_ends_101 (by trivial) hP hD hS
        · skip
          refine lv_iconst (v := 1) hx hb dX5_ends_76 (by decide) ?_
          refine lv_goto (tgt := 81) hx hb dX5_ends_77 (by decide) ?_
          refine lv_iadd hx hb dX5_ends_81 ?_
          refine va_put (D := D) (ci := 5) (v := .int (w1 + 1)) (ty := .int) (C := RX5) (T := TX5) (N := 35) hx hb hts hiX5 tyX5 tyX5_ok nmX5 hown hK hP hD hS 0 rfl rfl 13 (by decide) (hts (.fieldLink RX5 112 "HeardSecondModel" "wonBy1" "I") (by decide +kernel)) (fun _ h9 => h9) rfl (by decide +kernel) (rfl) rfl (Nat.le_of_ble_eq_true rfl) dX5_ends_82 (fun H locs hP hD hS => ?_)
          have hP : va_P D vwCl [(m0, .inr (5, [.ref pg, .int (nI n), .ref rd, .int rmy, .int rpt, .int sta, .int (nI N), .int pt, .int (nI k), .int ou, .int si, .int (en + 1), .int (w0 + 1), .int (w1 + 1), .int br, .int cr, .ref ro, .ref fa, .ref wo, .ref ah, .int pf, .int (nI t), .ref he, .ref wy, .ref on_, .ref pa, .ref kr, .ref kn, .ref kh, .int kt, .int kc, .int sd, .ref sr, .ref sn, .long ha])), (ro, .inl (cA, 15, .inl r))] H := hP
          have hD : va_D A [(m0, .inr (5, [.ref pg, .int (nI n), .ref rd, .int rmy, .int rpt, .int sta, .int (nI N), .int pt, .int (nI k), .int ou, .int si, .int (en + 1), .int (w0 + 1), .int (w1 + 1), .int br, .int cr, .ref ro, .ref fa, .ref wo, .ref ah, .int pf, .int (nI t), .ref he, .ref wy, .ref on_, .ref pa, .ref kr, .ref kn, .ref kh, .int kt, .int kc, .int sd, .ref sr, .ref sn, .long ha])), (ro, .inl (cA, 15, .inl r))] := hD
          refine lv_aload_n hx hb dX5_ends_85 rfl (lv_at hl 1 rfl) ?_
          refine lv_bipush (v := nI 63) hx hb dX5_ends_86 (by decide) ?_
          refine va_put (D := D) (ci := 5) (v := .int (nI 63)) (ty := .int) (C := RX5) (T := TX5) (N := 35) hx hb hts hiX5 tyX5 tyX5_ok nmX5 hown hK hP hD hS 0 rfl rfl 8 (by decide) (hts (.fieldLink RX5 59 "HeardSecondModel" "now" "I") (by decide +kernel)) (fun _ h9 => h9) rfl (by decide +kernel) (rfl) rfl (Nat.le_of_ble_eq_true rfl) dX5_ends_88 (fun H locs hP hD hS => ?_)
          have hP : va_P D vwCl [(m0, .inr (5, [.ref pg, .int (nI n), .ref rd, .int rmy, .int rpt, .int sta, .int (nI N), .int pt, .int (nI 63), .int ou, .int si, .int (en + 1), .int (w0 + 1), .int (w1 + 1), .int br, .int cr, .ref ro, .ref fa, .ref wo, .ref ah, .int pf, .int (nI t), .ref he, .ref wy, .ref on_, .ref pa, .ref kr, .ref kn, .ref kh, .int kt, .int kc, .int sd, .ref sr, .ref sn, .long ha])), (ro, .inl (cA, 15, .inl r))] H := hP
          have hD : va_D A [(m0, .inr (5, [.ref pg, .int (nI n), .ref rd, .int rmy, .int rpt, .int sta, .int (nI N), .int pt, .int (nI 63), .int ou, .int si, .int (en + 1), .int (w0 + 1), .int (w1 + 1), .int br, .int cr, .ref ro, .ref fa, .ref wo, .ref ah, .int pf, .int (nI t), .ref he, .ref wy, .ref on_, .ref pa, .ref kr, .ref kn, .ref kh, .int kt, .int kc, .int sd, .ref sr, .ref sn, .long ha])), (ro, .inl (cA, 15, .inl r))] := hD
          refine lv_aload_n hx hb dX5_ends_91 rfl (lv_at hl 1 rfl) ?_
          refine lv_iconst (v := 0) hx hb dX5_ends_92 (by decide) ?_
          refine va_put (D := D) (ci := 5) (v := .int 0) (ty := .int) (C := RX5) (T := TX5) (N := 35) hx hb hts hiX5 tyX5 tyX5_ok nmX5 hown hK hP hD hS 0 rfl rfl 9 (by decide) (hts (.fieldLink RX5 100 "HeardSecondModel" "out" "I") (by decide +kernel)) (fun _ h9 => h9) rfl (by decide +kernel) (rfl) rfl (Nat.le_of_ble_eq_true rfl) dX5_ends_93 (fun H locs hP hD hS => ?_)
          have hP : va_P D vwCl [(m0, .inr (5, [.ref pg, .int (nI n), .ref rd, .int rmy, .int rpt, .int sta, .int (nI N), .int pt, .int (nI 63), .int 0, .int si, .int (en + 1), .int (w0 + 1), .int (w1 + 1), .int br, .int cr, .ref ro, .ref fa, .ref wo, .ref ah, .int pf, .int (nI t), .ref he, .ref wy, .ref on_, .ref pa, .ref kr, .ref kn, .ref kh, .int kt, .int kc, .int sd, .ref sr, .ref sn, .long ha])), (ro, .inl (cA, 15, .inl r))] H := hP
          have hD : va_D A [(m0, .inr (5, [.ref pg, .int (nI n), .ref rd, .int rmy, .int rpt, .int sta, .int (nI N), .int pt, .int (nI 63), .int 0, .int si, .int (en + 1), .int (w0 + 1), .int (w1 + 1), .int br, .int cr, .ref ro, .ref fa, .ref wo, .ref ah, .int pf, .int (nI t), .ref he, .ref wy, .ref on_, .ref pa, .ref kr, .ref kn, .ref kh, .int kt, .int kc, .int sd, .ref sr, .ref sn, .long ha])), (ro, .inl (cA, 15, .inl r))] := hD
          refine lv_aload_n hx hb dX5_ends_96 rfl (lv_at hl 1 rfl) ?_
          refine lv_iconst (v := 0) hx hb dX5_ends_97 (by decide) ?_
          refine va_put (D := D) (ci := 5) (v := .int 0) (ty := .int) (C := RX5) (T := TX5) (N := 35) hx hb hts hiX5 tyX5 tyX5_ok nmX5 hown hK hP hD hS 0 rfl rfl 10 (by decide) (hts (.fieldLink RX5 103 "HeardSecondModel" "silence" "I") (by decide +kernel)) (fun _ h9 => h9) rfl (by decide +kernel) (rfl) rfl (Nat.le_of_ble_eq_true rfl) dX5_ends_98 (fun H locs hP hD hS => ?_)
          have hP : va_P D vwCl [(m0, .inr (5, [.ref pg, .int (nI n), .ref rd, .int rmy, .int rpt, .int sta, .int (nI N), .int pt, .int (nI 63), .int 0, .int 0, .int (en + 1), .int (w0 + 1), .int (w1 + 1), .int br, .int cr, .ref ro, .ref fa, .ref wo, .ref ah, .int pf, .int (nI t), .ref he, .ref wy, .ref on_, .ref pa, .ref kr, .ref kn, .ref kh, .int kt, .int kc, .int sd, .ref sr, .ref sn, .long ha])), (ro, .inl (cA, 15, .inl r))] H := hP
          have hD : va_D A [(m0, .inr (5, [.ref pg, .int (nI n), .ref rd, .int rmy, .int rpt, .int sta, .int (nI N), .int pt, .int (nI 63), .int 0, .int 0, .int (en + 1), .int (w0 + 1), .int (w1 + 1), .int br, .int cr, .ref ro, .ref fa, .ref wo, .ref ah, .int pf, .int (nI t), .ref he, .ref wy, .ref on_, .ref pa, .ref kr, .ref kn, .ref kh, .int kt, .int kc, .int sd, .ref sr, .ref sn, .long ha])), (ro, .inl (cA, 15, .inl r))] := hD
          -- path 9
          have hP : va_P D vwCl [(m0, .inr (5, [.ref pg, .int (nI n), .ref rd, .int rmy, .int rpt, .int sta, .int (nI N), .int pt, .int (nI 63), .int 0, .int 0, .int (en + 1), .int (mWon 0 r k w0), .int (w1 + 1), .int br, .int cr, .ref ro, .ref fa, .ref wo, .ref ah, .int pf, .int (nI t), .ref he, .ref wy, .ref on_, .ref pa, .ref kr, .ref kn, .ref kh, .int kt, .int kc, .int sd, .ref sr, .ref sn, .long ha])), (ro, .inl (cA, 15, .inl r))] H := by have e_ : w0 + 1 = mWon 0 r k w0 := (by clear hret hl hS hD hP hK hA hN hts hx hb hr hml hown hlocks hiX5; grind [mWon]); rw [← e_]; exact hP
          have hD : va_D A [(m0, .inr (5, [.ref pg, .int (nI n), .ref rd, .int rmy, .int rpt, .int sta, .int (nI N), .int pt, .int (nI 63), .int 0, .int 0, .int (en + 1), .int (mWon 0 r k w0), .int (w1 + 1), .int br, .int cr, .ref ro, .ref fa, .ref wo, .ref ah, .int pf, .int (nI t), .ref he, .ref wy, .ref on_, .ref pa, .ref kr, .ref kn, .ref kh, .int kt, .int kc, .int sd, .ref sr, .ref sn, .long ha])), (ro, .inl (cA, 15, .inl r))] := by have e_ : w0 + 1 = mWon 0 r k w0 := (by clear hret hl hS hD hP hK hA hN hts hx hb hr hml hown hlocks hiX5; grind [mWon]); rw [← e_]; exact hD
          have hP : va_P D vwCl [(m0, .inr (5, [.ref pg, .int (nI n), .ref rd, .int rmy, .int rpt, .int sta, .int (nI N), .int pt, .int (nI 63), .int 0, .int 0, .int (en + 1), .int (mWon 0 r k w0), .int (mWon 1 r k w1), .int br, .int cr, .ref ro, .ref fa, .ref wo, .ref ah, .int pf, .int (nI t), .ref he, .ref wy, .ref on_, .ref pa, .ref kr, .ref kn, .ref kh, .int kt, .int kc, .int sd, .ref sr, .ref sn, .long ha])), (ro, .inl (cA, 15, .inl r))] H := by have e_ : w1 + 1 = mWon 1 r k w1 := (by clear hret hl hS hD hP hK hA hN hts hx hb hr hml hown hlocks hiX5; grind [mWon]); rw [← e_]; exact hP
          have hD : va_D A [(m0, .inr (5, [.ref pg, .int (nI n), .ref rd, .int rmy, .int rpt, .int sta, .int (nI N), .int pt, .int (nI 63), .int 0, .int 0, .int (en + 1), .int (mWon 0 r k w0), .int (mWon 1 r k w1), .int br, .int cr, .ref ro, .ref fa, .ref wo, .ref ah, .int pf, .int (nI t), .ref he, .ref wy, .ref on_, .ref pa, .ref kr, .ref kn, .ref kh, .int kt, .int kc, .int sd, .ref sr, .ref sn, .long ha])), (ro, .inl (cA, 15, .inl r))] := by have e_ : w1 + 1 = mWon 1 r k w1 := (by clear hret hl hS hD hP hK hA hN hts hx hb hr hml hown hlocks hiX5; grind [mWon]); rw [← e_]; exact hD
          exact hret () _ _ _ _ dX5_ends_101 (by trivial) hP hD hS
