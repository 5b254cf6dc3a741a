abbrev rm_c_X5_goesBy : Room := { frames := 2, cells := 0, slots := 0, locals := 48 }
set_option maxHeartbeats 2000000 in
set_option maxRecDepth 20000 in
theorem c_X5_goesBy {l : Launch} {D : va_G} {cA : ClassId} {m0 : Nat} {pg : Nat} {rd : Nat} {ro : Nat} {fa : Nat} {wo : Nat} {ah : Nat} {he : Nat} {wy : Nat} {on_ : Nat} {pa : Nat} {kr : Nat} {kn : Nat} {kh : Nat} {sr : Nat} {sn : Nat} {n : Nat} {N : Nat} {t : Nat} {rmy : Int32} {rpt : Int32} {sta : Int32} {pt : Int32} {ou : Int32} {si : Int32} {en : Int32} {w0 : Int32} {w1 : Int32} {br : Int32} {cr : Int32} {pf : Int32} {kt : Int32} {kc : Int32} {sd : Int32} {ha : Int64} {r : Nat → Int32} {who : Int32} {k : Nat} (h5 : N ≤ 5) (hkv : mV k) : zMi l yX5_goesBy wsX5_goesBy rm_c_X5_goesBy D cA [(m0, .inr (5, [.ref pg, .int (nI n), .ref rd, .int rmy, .int rpt, .int sta, .int (nI N), .int pt, .int (nI k), .int ou, .int si, .int en, .int w0, .int w1, .int br, .int cr, .ref ro, .ref fa, .ref wo, .ref ah, .int pf, .int (nI t), .ref he, .ref wy, .ref on_, .ref pa, .ref kr, .ref kn, .ref kh, .int kt, .int kc, .int sd, .ref sr, .ref sn, .long ha])), (ro, .inl (cA, 15, .inl r))] [.ref m0, .int who] (fun (ret_ : Int32) (u : Nat × Int32 × Int32 × Int32 × Int32 × Int32 × Int32 × (Nat → Int32)) => ret_ = mMany N r ou who k ∧ u = (mGoes N pt who k ou si en w0 w1 br r)) (fun (u : Nat × Int32 × Int32 × Int32 × Int32 × Int32 × Int32 × (Nat → Int32)) => [(m0, .inr (5, [.ref pg, .int (nI n), .ref rd, .int rmy, .int rpt, .int sta, .int (nI N), .int pt, .int (nI u.1), .int u.2.1, .int u.2.2.1, .int u.2.2.2.1, .int u.2.2.2.2.1, .int u.2.2.2.2.2.1, .int u.2.2.2.2.2.2.1, .int cr, .ref ro, .ref fa, .ref wo, .ref ah, .int pf, .int (nI t), .ref he, .ref wy, .ref on_, .ref pa, .ref kr, .ref kn, .ref kh, .int kt, .int kc, .int sd, .ref sr, .ref sn, .long ha])), (ro, .inl (cA, 15, .inl u.2.2.2.2.2.2.2))]) := by
  refine z_enteri (cc := cX5_goesBy) (maxL := 5) (ty := .int) (by decide) rfl (Nat.le_of_ble_eq_true rfl) (fun p e s m args below meth c ls A H0 H locs Q hi_ hA hK hP hD hS hl hret => ?_)
  obtain ⟨hx, hb, hr, hml, hown, hts, hlocks, hN⟩ := hi_
  have hl : lv_has ls 5 [(0, .ref m0), (1, .int who)] := hl
  have hiX5 : ∀ w ∈ wsX50, w ∈ wsX5_goesBy := by decide +kernel
  have hk64_ : k < 64 := hkv.1
  refine lv_aload_n hx hb dX5_goesBy_0 rfl (lv_at hl 0 rfl) ?_
  refine lv_iload_n hx hb dX5_goesBy_1 rfl (lv_at hl 1 rfl) ?_
  refine z_bri (z_runV (As := [.int who]) (rest := []) (ci := 5) ⟨hx, hb, hml, hown, hts⟩ (c_X5_counting (m0 := m0) (pg := pg) (rd := rd) (ro := ro) (fa := fa) (wo := wo) (ah := ah) (he := he) (wy := wy) (on_ := on_) (pa := pa) (kr := kr) (kn := kn) (kh := kh) (sr := sr) (sn := sn) (n := n) (N := N) (t := t) (rmy := rmy) (rpt := rpt) (sta := sta) (pt := pt) (ou := ou) (si := si) (en := en) (w0 := w0) (w1 := w1) (br := br) (cr := cr) (pf := pf) (kt := kt) (kc := kc) (sd := sd) (ha := ha) (r := r) (who := who) (k := k) (by first | assumption | omega) (by first | assumption | omega) _) (cwV 1 hts gX5_goesBy_X5_counting rfl rfl rfl (by decide +kernel) ⟨Nat.le_of_ble_eq_true rfl, Nat.le_of_ble_eq_true rfl⟩) hK hP hD hN [0, 1] rfl rfl rfl rfl rfl hl.1 rfl (Nat.le_of_ble_eq_true rfl) dX5_goesBy_2 ⟨Nat.zero_le _, Nat.zero_le _⟩) hP hD hS hA [0, 1] rfl (fun r_2 u_3 H locs hq_1 hP hS => ?_)
  obtain rfl : r_2 = mBits r ou who k N := hq_1
  refine lv_istore_n (lv' := [(2, .int (mBits r ou who k N)), (0, .ref m0), (1, .int who)]) hx hb dX5_goesBy_5 rfl hl (by decide) rfl (fun ls hl => ?_)
  refine lv_iload_n hx hb dX5_goesBy_6 rfl (lv_at hl 0 rfl) ?_
  refine z_bri (z_runS (As := [.int (mBits r ou who k N)]) (rest := []) ⟨hx, hb, hml, hown, hts⟩ (c_X5_ones (x := mBits r ou who k N) _) (va_cwS 1 hts gX5_goesBy_X5_ones rfl rfl rfl (by decide +kernel) ⟨Nat.le_of_ble_eq_true rfl, Nat.le_of_ble_eq_true rfl⟩) hK hP hD hN [] rfl rfl rfl hl.1 rfl (Nat.le_of_ble_eq_true rfl) dX5_goesBy_7 ⟨Nat.zero_le _, Nat.zero_le _⟩) hP hD hS hA [] rfl (fun r_5 u_6 H locs hq_4 hP hS => ?_)
  obtain rfl : r_5 = mOnes (mBits r ou who k N) 8 := hq_4
  refine z_top (y := mMany N r ou who k) (rfl) ?_
  refine lv_istore_n (lv' := [(3, .int (mMany N r ou who k)), (2, .int (mBits r ou who k N)), (0, .ref m0), (1, .int who)]) hx hb dX5_goesBy_10 rfl hl (by decide) rfl (fun ls hl => ?_)
  refine lv_aload_n hx hb dX5_goesBy_11 rfl (lv_at hl 2 rfl) ?_
  refine lv_dup hx hb dX5_goesBy_12 rfl ?_
  refine va_get (D := D) (ci := 5) (v := .int br) (C := RX5) (T := TX5) (N := 35) hx hb hts hiX5 hown hK hP 0 rfl rfl 14 (by decide) (hts (.fieldLink RX5 115 "HeardSecondModel" "breaths" "I") (by decide +kernel)) (fun _ h9 => h9) rfl dX5_goesBy_13 ?_
  refine lv_iconst (v := 1) hx hb dX5_goesBy_16 (by decide) ?_
  refine lv_iadd hx hb dX5_goesBy_17 ?_
  refine va_put (D := D) (ci := 5) (v := .int (br + 1)) (ty := .int) (C := RX5) (T := TX5) (N := 35) hx hb hts hiX5 tyX5 tyX5_ok nmX5 hown hK hP hD hS 0 rfl rfl 14 (by decide) (hts (.fieldLink RX5 115 "HeardSecondModel" "breaths" "I") (by decide +kernel)) (fun _ h9 => h9) rfl (by decide +kernel) (rfl) rfl (Nat.le_of_ble_eq_true rfl) dX5_goesBy_18 (fun H locs hP hD hS => ?_)
  have hP : va_P D vwCl [(m0, .inr (5, [.ref pg, .int (nI n), .ref rd, .int rmy, .int rpt, .int sta, .int (nI N), .int pt, .int (nI k), .int ou, .int si, .int en, .int w0, .int w1, .int (br + 1), .int cr, .ref ro, .ref fa, .ref wo, .ref ah, .int pf, .int (nI t), .ref he, .ref wy, .ref on_, .ref pa, .ref kr, .ref kn, .ref kh, .int kt, .int kc, .int sd, .ref sr, .ref sn, .long ha])), (ro, .inl (cA, 15, .inl r))] H := hP
  have hD : va_D A [(m0, .inr (5, [.ref pg, .int (nI n), .ref rd, .int rmy, .int rpt, .int sta, .int (nI N), .int pt, .int (nI k), .int ou, .int si, .int en, .int w0, .int w1, .int (br + 1), .int cr, .ref ro, .ref fa, .ref wo, .ref ah, .int pf, .int (nI t), .ref he, .ref wy, .ref on_, .ref pa, .ref kr, .ref kn, .ref kh, .int kt, .int kc, .int sd, .ref sr, .ref sn, .long ha])), (ro, .inl (cA, 15, .inl r))] := hD
  refine lv_aload_n hx hb dX5_goesBy_21 rfl (lv_at hl 2 rfl) ?_
  refine lv_iload_n hx hb dX5_goesBy_22 rfl (lv_at hl 0 rfl) ?_
  refine lv_if_ne (tgt := 35) hx hb dX5_goesBy_23 (by decide) (fun c23_7 => ?_) (fun c23_7 => ?_)
  · skip
    refine lv_iconst (v := 0) hx hb dX5_goesBy_35 (by decide) ?_
    refine z_top (y := if mMany N r ou who k = 0 then si + 1 else 0) (by first | (rw [if_pos (by assumption)]; done) | (rw [if_neg (by assumption)]; done)) ?_
    refine va_put (D := D) (ci := 5) (v := .int (if mMany N r ou who k = 0 then si + 1 else 0)) (ty := .int) (C := RX5) (T := TX5) (N := 35) hx hb hts hiX5 tyX5 tyX5_ok nmX5 hown hK hP hD hS 0 rfl rfl 10 (by decide) (hts (.fieldLink RX5 103 "HeardSecondModel" "silence" "I") (by decide +kernel)) (fun _ h9 => h9) rfl (by decide +kernel) (rfl) rfl (Nat.le_of_ble_eq_true rfl) dX5_goesBy_36 (fun H locs hP hD hS => ?_)
    have hP : va_P D vwCl [(m0, .inr (5, [.ref pg, .int (nI n), .ref rd, .int rmy, .int rpt, .int sta, .int (nI N), .int pt, .int (nI k), .int ou, .int (if mMany N r ou who k = 0 then si + 1 else 0), .int en, .int w0, .int w1, .int (br + 1), .int cr, .ref ro, .ref fa, .ref wo, .ref ah, .int pf, .int (nI t), .ref he, .ref wy, .ref on_, .ref pa, .ref kr, .ref kn, .ref kh, .int kt, .int kc, .int sd, .ref sr, .ref sn, .long ha])), (ro, .inl (cA, 15, .inl r))] H := hP
    have hD : va_D A [(m0, .inr (5, [.ref pg, .int (nI n), .ref rd, .int rmy, .int rpt, .int sta, .int (nI N), .int pt, .int (nI k), .int ou, .int (if mMany N r ou who k = 0 then si + 1 else 0), .int en, .int w0, .int w1, .int (br + 1), .int cr, .ref ro, .ref fa, .ref wo, .ref ah, .int pf, .int (nI t), .ref he, .ref wy, .ref on_, .ref pa, .ref kr, .ref kn, .ref kh, .int kt, .int kc, .int sd, .ref sr, .ref sn, .long ha])), (ro, .inl (cA, 15, .inl r))] := hD
    have J99 : ∀ (k2 : Nat) (r2 : Nat → Int32) (hj : (k2, r2) = if mMany N r ou who k = 1 then mStep N (mBits r ou who k N) k r N else (k, r)) (H : Heap) (locs : List Loc) (ls : Array Slot), va_P D vwCl [(m0, .inr (5, [.ref pg, .int (nI n), .ref rd, .int rmy, .int rpt, .int sta, .int (nI N), .int pt, .int (nI k2), .int ou, .int (if mMany N r ou who k = 0 then si + 1 else 0), .int en, .int w0, .int w1, .int (br + 1), .int cr, .ref ro, .ref fa, .ref wo, .ref ah, .int pf, .int (nI t), .ref he, .ref wy, .ref on_, .ref pa, .ref kr, .ref kn, .ref kh, .int kt, .int kc, .int sd, .ref sr, .ref sn, .long ha])), (ro, .inl (cA, 15, .inl r2))] H → va_D A [(m0, .inr (5, [.ref pg, .int (nI n), .ref rd, .int rmy, .int rpt, .int sta, .int (nI N), .int pt, .int (nI k2), .int ou, .int (if mMany N r ou who k = 0 then si + 1 else 0), .int en, .int w0, .int w1, .int (br + 1), .int cr, .ref ro, .ref fa, .ref wo, .ref ah, .int pf, .int (nI t), .ref he, .ref wy, .ref on_, .ref pa, .ref kr, .ref kn, .ref kh, .int kt, .int kc, .int sd, .ref sr, .ref sn, .long ha])), (ro, .inl (cA, 15, .inl r2))] → va_S A H0 H locs → lv_has ls 5 [(0, .ref m0), (1, .int who), (2, .int (mBits r ou who k N)), (3, .int (mMany N r ou who k))] → W p l e rm_c_X5_goesBy s m args below meth c H locs 0 0 Q (F0 m 99 ls []) := by
      intro k2 r2 hj H locs ls hP hD hS hl
      have hk2v : mV k2 := mJ_V hkv h5 hj
      have hk264_ : k2 < 64 := hk2v.1
      refine lv_aload_n hx hb dX5_goesBy_99 rfl (lv_at hl 0 rfl) ?_
      refine lv_dup hx hb dX5_goesBy_100 rfl ?_
      refine va_get (D := D) (ci := 5) (v := .int ou) (C := RX5) (T := TX5) (N := 35) hx hb hts hiX5 hown hK hP 0 rfl rfl 9 (by decide) (hts (.fieldLink RX5 100 "HeardSecondModel" "out" "I") (by decide +kernel)) (fun _ h9 => h9) rfl dX5_goesBy_101 ?_
      refine lv_iload_n hx hb dX5_goesBy_104 rfl (lv_at hl 3 rfl) ?_
      refine lv_iconst (v := 1) hx hb dX5_goesBy_105 (by decide) ?_
      refine lv_icmp_le (tgt := 113) hx hb dX5_goesBy_106 (by decide) (fun c106_8 => ?_) (fun c106_8 => ?_)
      · skip
        refine lv_iconst (v := 0) hx hb dX5_goesBy_113 (by decide) ?_
        refine lv_ior hx hb dX5_goesBy_114 ?_
        refine z_top (y := ou ||| (if 1 < mMany N r ou who k then mBits r ou who k N else 0)) (by first | (rw [if_pos (Int32.not_le.mp (by assumption))]; done) | (rw [if_neg (Int32.not_lt.mpr (by assumption))]; done)) ?_
        refine va_put (D := D) (ci := 5) (v := .int (ou ||| (if 1 < mMany N r ou who k then mBits r ou who k N else 0))) (ty := .int) (C := RX5) (T := TX5) (N := 35) hx hb hts hiX5 tyX5 tyX5_ok nmX5 hown hK hP hD hS 0 rfl rfl 9 (by decide) (hts (.fieldLink RX5 100 "HeardSecondModel" "out" "I") (by decide +kernel)) (fun _ h9 => h9) rfl (by decide +kernel) (rfl) rfl (Nat.le_of_ble_eq_true rfl) dX5_goesBy_115 (fun H locs hP hD hS => ?_)
        have hP : va_P D vwCl [(m0, .inr (5, [.ref pg, .int (nI n), .ref rd, .int rmy, .int rpt, .int sta, .int (nI N), .int pt, .int (nI k2), .int (ou ||| (if 1 < mMany N r ou who k then mBits r ou who k N else 0)), .int (if mMany N r ou who k = 0 then si + 1 else 0), .int en, .int w0, .int w1, .int (br + 1), .int cr, .ref ro, .ref fa, .ref wo, .ref ah, .int pf, .int (nI t), .ref he, .ref wy, .ref on_, .ref pa, .ref kr, .ref kn, .ref kh, .int kt, .int kc, .int sd, .ref sr, .ref sn, .long ha])), (ro, .inl (cA, 15, .inl r2))] H := hP
        have hD : va_D A [(m0, .inr (5, [.ref pg, .int (nI n), .ref rd, .int rmy, .int rpt, .int sta, .int (nI N), .int pt, .int (nI k2), .int (ou ||| (if 1 < mMany N r ou who k then mBits r ou who k N else 0)), .int (if mMany N r ou who k = 0 then si + 1 else 0), .int en, .int w0, .int w1, .int (br + 1), .int cr, .ref ro, .ref fa, .ref wo, .ref ah, .int pf, .int (nI t), .ref he, .ref wy, .ref on_, .ref pa, .ref kr, .ref kn, .ref kh, .int kt, .int kc, .int sd, .ref sr, .ref sn, .long ha])), (ro, .inl (cA, 15, .inl r2))] := hD
        refine lv_aload_n hx hb dX5_goesBy_118 rfl (lv_at hl 0 rfl) ?_
        refine va_get (D := D) (ci := 5) (v := .int (if mMany N r ou who k = 0 then si + 1 else 0)) (C := RX5) (T := TX5) (N := 35) hx hb hts hiX5 hown hK hP 0 rfl rfl 10 (by decide) (hts (.fieldLink RX5 103 "HeardSecondModel" "silence" "I") (by decide +kernel)) (fun _ h9 => h9) rfl dX5_goesBy_119 ?_
        refine lv_aload_n hx hb dX5_goesBy_122 rfl (lv_at hl 0 rfl) ?_
        refine va_get (D := D) (ci := 5) (v := .int pt) (C := RX5) (T := TX5) (N := 35) hx hb hts hiX5 hown hK hP 0 rfl rfl 7 (by decide) (hts (.fieldLink RX5 97 "HeardSecondModel" "patience" "I") (by decide +kernel)) (fun _ h9 => h9) rfl dX5_goesBy_123 ?_
        refine lv_icmp_ne (tgt := 133) hx hb dX5_goesBy_126 (by decide) (fun c126_9 => ?_) (fun c126_9 => ?_)
        · skip
          refine lv_iload_n hx hb dX5_goesBy_133 rfl (lv_at hl 3 rfl) ?_
          -- path 1
          exact hret (mMany N r ou who k) (k2, (ou ||| (if 1 < mMany N r ou who k then mBits r ou who k N else 0), (if mMany N r ou who k = 0 then si + 1 else 0, (en, (w0, (w1, (br + 1, r2))))))) _ _ _ _ dX5_goesBy_134 (rfl) (by clear hret hl hS hD hP hK hA hN hts hx hb hr hml hown hlocks hiX5; exact ⟨rfl, mGoes_eq hj (by first | exact Or.inl ⟨by assumption, rfl⟩ | exact Or.inr ⟨by assumption, rfl⟩)⟩) hP hD hS
        · skip
          refine lv_aload_n hx hb dX5_goesBy_129 rfl (lv_at hl 0 rfl) ?_
          refine z_bwv (wr := []) (ws' := fun (_ : Unit) => [(m0, .inr (5, [.ref pg, .int (nI n), .ref rd, .int rmy, .int rpt, .int sta, .int (nI N), .int pt, .int (nI 63), .int 0, .int 0, .int (en + 1), .int (mWon 0 r2 k2 w0), .int (mWon 1 r2 k2 w1), .int (br + 1), .int cr, .ref ro, .ref fa, .ref wo, .ref ah, .int pf, .int (nI t), .ref he, .ref wy, .ref on_, .ref pa, .ref kr, .ref kn, .ref kh, .int kt, .int kc, .int sd, .ref sr, .ref sn, .long ha])), (ro, .inl (cA, 15, .inl r2))]) (z_runV (As := []) (rest := []) (ci := 5) ⟨hx, hb, hml, hown, hts⟩ (c_X5_ends (m0 := m0) (pg := pg) (rd := rd) (ro := ro) (fa := fa) (wo := wo) (ah := ah) (he := he) (wy := wy) (on_ := on_) (pa := pa) (kr := kr) (kn := kn) (kh := kh) (sr := sr) (sn := sn) (n := n) (N := N) (t := t) (rmy := rmy) (rpt := rpt) (sta := sta) (pt := pt) (ou := ou ||| (if 1 < mMany N r ou who k then mBits r ou who k N else 0)) (si := if mMany N r ou who k = 0 then si + 1 else 0) (en := en) (w0 := w0) (w1 := w1) (br := br + 1) (cr := cr) (pf := pf) (kt := kt) (kc := kc) (sd := sd) (ha := ha) (r := r2) (k := k2) (by first | assumption | omega) _) (cwV 0 hts gX5_goesBy_X5_ends rfl rfl rfl (by decide +kernel) ⟨Nat.le_of_ble_eq_true rfl, Nat.le_of_ble_eq_true rfl⟩) hK hP hD hN [0, 1] rfl rfl rfl rfl rfl hl.1 rfl (Nat.le_of_ble_eq_true rfl) dX5_goesBy_130 ⟨Nat.zero_le _, Nat.zero_le _⟩) hP hD hS hA [0, 1] [] [0, 1] rfl rfl rfl (by decide) rfl (fun _ => rfl) (fun u_12 H locs hq_10 hP hD hS => ?_)
          have hP : va_P D vwCl [(m0, .inr (5, [.ref pg, .int (nI n), .ref rd, .int rmy, .int rpt, .int sta, .int (nI N), .int pt, .int (nI 63), .int 0, .int 0, .int (en + 1), .int (mWon 0 r2 k2 w0), .int (mWon 1 r2 k2 w1), .int (br + 1), .int cr, .ref ro, .ref fa, .ref wo, .ref ah, .int pf, .int (nI t), .ref he, .ref wy, .ref on_, .ref pa, .ref kr, .ref kn, .ref kh, .int kt, .int kc, .int sd, .ref sr, .ref sn, .long ha])), (ro, .inl (cA, 15, .inl r2))] H := hP
          have hD : va_D A [(m0, .inr (5, [.ref pg, .int (nI n), .ref rd, .int rmy, .int rpt, .int sta, .int (nI N), .int pt, .int (nI 63), .int 0, .int 0, .int (en + 1), .int (mWon 0 r2 k2 w0), .int (mWon 1 r2 k2 w1), .int (br + 1), .int cr, .ref ro, .ref fa, .ref wo, .ref ah, .int pf, .int (nI t), .ref he, .ref wy, .ref on_, .ref pa, .ref kr, .ref kn, .ref kh, .int kt, .int kc, .int sd, .ref sr, .ref sn, .long ha])), (ro, .inl (cA, 15, .inl r2))] := hD
          refine lv_iload_n hx hb dX5_goesBy_133 rfl (lv_at hl 3 rfl) ?_
          -- path 2
          exact hret (mMany N r ou who k) (63, (0, (0, (en + 1, (mWon 0 r2 k2 w0, (mWon 1 r2 k2 w1, (br + 1, r2))))))) _ _ _ _ dX5_goesBy_134 (rfl) (by clear hret hl hS hD hP hK hA hN hts hx hb hr hml hown hlocks hiX5; exact ⟨rfl, mGoes_eq hj (by first | exact Or.inl ⟨by assumption, rfl⟩ | exact Or.inr ⟨by assumption, rfl⟩)⟩) hP hD hS
      · skip
        refine lv_iload_n hx hb dX5_goesBy_109 rfl (lv_at hl 2 rfl) ?_
        refine lv_goto (tgt := 114) hx hb dX5_goesBy_110 (by decide) ?_
        refine lv_ior hx hb dX5_goesBy_114 ?_
        refine z_top (y := ou ||| (if 1 < mMany N r ou who k then mBits r ou who k N else 0)) (by first | (rw [if_pos (Int32.not_le.mp (by assumption))]; done) | (rw [if_neg (Int32.not_lt.mpr (by assumption))]; done)) ?_
        refine va_put (D := D) (ci := 5) (v := .int (ou ||| (if 1 < mMany N r ou who k then mBits r ou who k N else 0))) (ty := .int) (C := RX5) (T := TX5) (N := 35) hx hb hts hiX5 tyX5 tyX5_ok nmX5 hown hK hP hD hS 0 rfl rfl 9 (by decide) (hts (.fieldLink RX5 100 "HeardSecondModel" "out" "I") (by decide +kernel)) (fun _ h9 => h9) rfl (by decide +kernel) (rfl) rfl (Nat.le_of_ble_eq_true rfl) dX5_goesBy_115 (fun H locs hP hD hS => ?_)
        have hP : va_P D vwCl [(m0, .inr (5, [.ref pg, .int (nI n), .ref rd, .int rmy, .int rpt, .int sta, .int (nI N), .int pt, .int (nI k2), .int (ou ||| (if 1 < mMany N r ou who k then mBits r ou who k N else 0)), .int (if mMany N r ou who k = 0 then si + 1 else 0), .int en, .int w0, .int w1, .int (br + 1), .int cr, .ref ro, .ref fa, .ref wo, .ref ah, .int pf, .int (nI t), .ref he, .ref wy, .ref on_, .ref pa, .ref kr, .ref kn, .ref kh, .int kt, .int kc, .int sd, .ref sr, .ref sn, .long ha])), (ro, .inl (cA, 15, .inl r2))] H := hP
        have hD : va_D A [(m0, .inr (5, [.ref pg, .int (nI n), .ref rd, .int rmy, .int rpt, .int sta, .int (nI N), .int pt, .int (nI k2), .int (ou ||| (if 1 < mMany N r ou who k then mBits r ou who k N else 0)), .int (if mMany N r ou who k = 0 then si + 1 else 0), .int en, .int w0, .int w1, .int (br + 1), .int cr, .ref ro, .ref fa, .ref wo, .ref ah, .int pf, .int (nI t), .ref he, .ref wy, .ref on_, .ref pa, .ref kr, .ref kn, .ref kh, .int kt, .int kc, .int sd, .ref sr, .ref sn, .long ha])), (ro, .inl (cA, 15, .inl r2))] := hD
        refine lv_aload_n hx hb dX5_goesBy_118 rfl (lv_at hl 0 rfl) ?_
        refine va_get (D := D) (ci := 5) (v := .int (if mMany N r ou who k = 0 then si + 1 else 0)) (C := RX5) (T := TX5) (N := 35) hx hb hts hiX5 hown hK hP 0 rfl rfl 10 (by decide) (hts (.fieldLink RX5 103 "HeardSecondModel" "silence" "I") (by decide +kernel)) (fun _ h9 => h9) rfl dX5_goesBy_119 ?_
        refine lv_aload_n hx hb dX5_goesBy_122 rfl (lv_at hl 0 rfl) ?_
        refine va_get (D := D) (ci := 5) (v := .int pt) (C := RX5) (T := TX5) (N := 35) hx hb hts hiX5 hown hK hP 0 rfl rfl 7 (by decide) (hts (.fieldLink RX5 97 "HeardSecondModel" "patience" "I") (by decide +kernel)) (fun _ h9 => h9) rfl dX5_goesBy_123 ?_
        refine lv_icmp_ne (tgt := 133) hx hb dX5_goesBy_126 (by decide) (fun c126_13 => ?_) (fun c126_13 => ?_)
        · skip
          refine lv_iload_n hx hb dX5_goesBy_133 rfl (lv_at hl 3 rfl) ?_
          -- path 3
          exact hret (mMany N r ou who k) (k2, (ou ||| (if 1 < mMany N r ou who k then mBits r ou who k N else 0), (if mMany N r ou who k = 0 then si + 1 else 0, (en, (w0, (w1, (br + 1, r2))))))) _ _ _ _ dX5_goesBy_134 (rfl) (by clear hret hl hS hD hP hK hA hN hts hx hb hr hml hown hlocks hiX5; exact ⟨rfl, mGoes_eq hj (by first | exact Or.inl ⟨by assumption, rfl⟩ | exact Or.inr ⟨by assumption, rfl⟩)⟩) hP hD hS
        · skip
          refine lv_aload_n hx hb dX5_goesBy_129 rfl (lv_at hl 0 rfl) ?_
          refine z_bwv (wr := []) (ws' := fun (_ : Unit) => [(m0, .inr (5, [.ref pg, .int (nI n), .ref rd, .int rmy, .int rpt, .int sta, .int (nI N), .int pt, .int (nI 63), .int 0, .int 0, .int (en + 1), .int (mWon 0 r2 k2 w0), .int (mWon 1 r2 k2 w1), .int (br + 1), .int cr, .ref ro, .ref fa, .ref wo, .ref ah, .int pf, .int (nI t), .ref he, .ref wy, .ref on_, .ref pa, .ref kr, .ref kn, .ref kh, .int kt, .int kc, .int sd, .ref sr, .ref sn, .long ha])), (ro, .inl (cA, 15, .inl r2))]) (z_runV (As := []) (rest := []) (ci := 5) ⟨hx, hb, hml, hown, hts⟩ (c_X5_ends (m0 := m0) (pg := pg) (rd := rd) (ro := ro) (fa := fa) (wo := wo) (ah := ah) (he := he) (wy := wy) (on_ := on_) (pa := pa) (kr := kr) (kn := kn) (kh := kh) (sr := sr) (sn := sn) (n := n) (N := N) (t := t) (rmy := rmy) (rpt := rpt) (sta := sta) (pt := pt) (ou := ou ||| (if 1 < mMany N r ou who k then mBits r ou who k N else 0)) (si := if mMany N r ou who k = 0 then si + 1 else 0) (en := en) (w0 := w0) (w1 := w1) (br := br + 1) (cr := cr) (pf := pf) (kt := kt) (kc := kc) (sd := sd) (ha := ha) (r := r2) (k := k2) (by first | assumption | omega) _) (cwV 0 hts gX5_goesBy_X5_ends rfl rfl rfl (by decide +kernel) ⟨Nat.le_of_ble_eq_true rfl, Nat.le_of_ble_eq_true rfl⟩) hK hP hD hN [0, 1] rfl rfl rfl rfl rfl hl.1 rfl (Nat.le_of_ble_eq_true rfl) dX5_goesBy_130 ⟨Nat.zero_le _, Nat.zero_le _⟩) hP hD hS hA [0, 1] [] [0, 1] rfl rfl rfl (by decide) rfl (fun _ => rfl) (fun u_16 H locs hq_14 hP hD hS => ?_)
          have hP : va_P D vwCl [(m0, .inr (5, [.ref pg, .int (nI n), .ref rd, .int rmy, .int rpt, .int sta, .int (nI N), .int pt, .int (nI 63), .int 0, .int 0, .int (en + 1), .int (mWon 0 r2 k2 w0), .int (mWon 1 r2 k2 w1), .int (br + 1), .int cr, .ref ro, .ref fa, .ref wo, .ref ah, .int pf, .int (nI t), .ref he, .ref wy, .ref on_, .ref pa, .ref kr, .ref kn, .ref kh, .int kt, .int kc, .int sd, .ref sr, .ref sn, .long ha])), (ro, .inl (cA, 15, .inl r2))] H := hP
          have hD : va_D A [(m0, .inr (5, [.ref pg, .int (nI n), .ref rd, .int rmy, .int rpt, .int sta, .int (nI N), .int pt, .int (nI 63), .int 0, .int 0, .int (en + 1), .int (mWon 0 r2 k2 w0), .int (mWon 1 r2 k2 w1), .int (br + 1), .int cr, .ref ro, .ref fa, .ref wo, .ref ah, .int pf, .int (nI t), .ref he, .ref wy, .ref on_, .ref pa, .ref kr, .ref kn, .ref kh, .int kt, .int kc, .int sd, .ref sr, .ref sn, .long ha])), (ro, .inl (cA, 15, .inl r2))] := hD
          refine lv_iload_n hx hb dX5_goesBy_133 rfl (lv_at hl 3 rfl) ?_
          -- path 4
          exact hret (mMany N r ou who k) (63, (0, (0, (en + 1, (mWon 0 r2 k2 w0, (mWon 1 r2 k2 w1, (br + 1, r2))))))) _ _ _ _ dX5_goesBy_134 (rfl) (by clear hret hl hS hD hP hK hA hN hts hx hb hr hml hown hlocks hiX5; exact ⟨rfl, mGoes_eq hj (by first | exact Or.inl ⟨by assumption, rfl⟩ | exact Or.inr ⟨by assumption, rfl⟩)⟩) hP hD hS
    refine lv_iload_n hx hb dX5_goesBy_39 rfl (lv_at hl 0 rfl) ?_
    refine lv_iconst (v := 1) hx hb dX5_goesBy_40 (by decide) ?_
    refine lv_icmp_ne (tgt := 99) hx hb dX5_goesBy_41 (by decide) (fun c41_17 => ?_) (fun c41_17 => ?_)
    · skip
      exact J99 k r (by clear hret hl hS hD hP hK hA hN hts hx hb hr hml hown hlocks hiX5 J99; first | (rw [if_neg (by assumption)]; done) | (rw [if_pos (by assumption), hv, ht_])) _ _ _ hP hD hS (lv_sub hl [2, 3, 1, 0] rfl)
    · skip
      refine lv_iconst (v := nI 0) hx hb dX5_goesBy_44 (by decide) ?_
      refine lv_istore (lv' := [(4, .int (nI 0)), (3, .int (mMany N r ou who k)), (2, .int (mBits r ou who k N)), (0, .ref m0), (1, .int who)]) hx hb dX5_goesBy_45 hl (by decide) rfl (fun ls hl => ?_)
      have L47 : ∀ (n_ : Nat) (sx : Nat) (kw : Nat) (rw_ : Nat → Int32) (hm_ : N + 1 ≤ sx + n_) (hs : sx ≤ N) (hkw : kw < 64) (hv : (kw, rw_) = mStep N (mBits r ou who k N) k r sx) (H : Heap) (locs : List Loc) (ls : Array Slot), va_P D vwCl [(m0, .inr (5, [.ref pg, .int (nI n), .ref rd, .int rmy, .int rpt, .int sta, .int (nI N), .int pt, .int (nI kw), .int ou, .int (if mMany N r ou who k = 0 then si + 1 else 0), .int en, .int w0, .int w1, .int (br + 1), .int cr, .ref ro, .ref fa, .ref wo, .ref ah, .int pf, .int (nI t), .ref he, .ref wy, .ref on_, .ref pa, .ref kr, .ref kn, .ref kh, .int kt, .int kc, .int sd, .ref sr, .ref sn, .long ha])), (ro, .inl (cA, 15, .inl rw_))] H → va_D A [(m0, .inr (5, [.ref pg, .int (nI n), .ref rd, .int rmy, .int rpt, .int sta, .int (nI N), .int pt, .int (nI kw), .int ou, .int (if mMany N r ou who k = 0 then si + 1 else 0), .int en, .int w0, .int w1, .int (br + 1), .int cr, .ref ro, .ref fa, .ref wo, .ref ah, .int pf, .int (nI t), .ref he, .ref wy, .ref on_, .ref pa, .ref kr, .ref kn, .ref kh, .int kt, .int kc, .int sd, .ref sr, .ref sn, .long ha])), (ro, .inl (cA, 15, .inl rw_))] → va_S A H0 H locs → lv_has ls 5 [(0, .ref m0), (1, .int who), (2, .int (mBits r ou who k N)), (3, .int (mMany N r ou who k)), (4, .int (nI sx))] → W p l e rm_c_X5_goesBy s m args below meth c H locs 0 0 Q (F0 m 47 ls []) := by
        intro n_
        induction n_ with
        | zero =>
          intro sx kw rw_ hm_ hs hkw hv
          exact absurd hm_ (by omega)
        | succ n_ ih_ =>
          intro sx kw rw_ hm_ hs hkw hv H locs ls hP hD hS hl
          have ih18 := ih_
          clear ih_
          refine lv_iload hx hb dX5_goesBy_47 (lv_at hl 4 rfl) ?_
          refine lv_aload_n hx hb dX5_goesBy_49 rfl (lv_at hl 0 rfl) ?_
          refine va_get (D := D) (ci := 5) (v := .int (nI N)) (C := RX5) (T := TX5) (N := 35) hx hb hts hiX5 hown hK hP 0 rfl rfl 6 (by decide) (hts (.fieldLink RX5 94 "HeardSecondModel" "seats" "I") (by decide +kernel)) (fun _ h9 => h9) rfl dX5_goesBy_50 ?_
          refine lv_icmp_ge (tgt := 99) hx hb dX5_goesBy_53 (by decide) (fun c53_19 => ?_) (fun c53_19 => ?_)
          · skip
            have ht_ : sx = N := by have := (nI_leI (a := N) (b := sx) (by omega) (by omega)).mp c53_19; omega
            exact J99 kw rw_ (by clear hret hl hS hD hP hK hA hN hts hx hb hr hml hown hlocks hiX5 J99 ih18; first | (rw [if_neg (by assumption)]; done) | (rw [if_pos (by assumption), hv, ht_])) _ _ _ hP hD hS (lv_sub hl [0, 1, 2, 3] rfl)
          · skip
            have hltsx : sx < N := Nat.lt_of_not_le (fun q_ => c53_19 ((nI_leI (a := N) (b := sx) (by omega) (by omega)).mpr q_))
            refine lv_iload_n hx hb dX5_goesBy_56 rfl (lv_at hl 2 rfl) ?_
            refine lv_iconst (v := 1) hx hb dX5_goesBy_57 (by decide) ?_
            refine lv_iload hx hb dX5_goesBy_58 (lv_at hl 4 rfl) ?_
            refine lv_ishl hx hb dX5_goesBy_60 ?_
            refine lv_icmp_ne (tgt := 93) hx hb dX5_goesBy_61 (by decide) (fun c61_20 => ?_) (fun c61_20 => ?_)
            · skip
              refine lv_iinc (v := nI (sx + 1)) (lv' := [(4, .int (nI (sx + 1))), (0, .ref m0), (1, .int who), (2, .int (mBits r ou who k N)), (3, .int (mMany N r ou who k))]) hx hb dX5_goesBy_93 hl (k := 4) rfl (nI_1 sx) (by decide) rfl (fun ls hl => ?_)
              refine lv_goto (tgt := 47) hx hb dX5_goesBy_96 (by decide) ?_
              exact ih18 (sx + 1) kw rw_ (by omega) (by first | assumption | omega) (by clear hret hl hS hD hP hK hA hN hts hx hb hr hml hown hlocks hiX5 J99 ih18; first | assumption | exact mBeh_64 (by assumption) (by omega) (by omega)) (by clear hret hl hS hD hP hK hA hN hts hx hb hr hml hown hlocks hiX5 J99 ih18; rw [mStep, ← hv]; first | (rw [if_pos (by assumption)]; done) | (rw [if_neg (by assumption)]; done)) _ _ _ hP hD hS (lv_sub hl [1, 2, 3, 4, 0] rfl)
            · skip
              refine lv_aload_n hx hb dX5_goesBy_64 rfl (lv_at hl 0 rfl) ?_
              refine lv_aload_n hx hb dX5_goesBy_65 rfl (lv_at hl 0 rfl) ?_
              refine lv_iload hx hb dX5_goesBy_66 (lv_at hl 4 rfl) ?_
              refine lv_aload_n hx hb dX5_goesBy_68 rfl (lv_at hl 0 rfl) ?_
              refine va_get (D := D) (ci := 5) (v := .int (nI kw)) (C := RX5) (T := TX5) (N := 35) hx hb hts hiX5 hown hK hP 0 rfl rfl 8 (by decide) (hts (.fieldLink RX5 59 "HeardSecondModel" "now" "I") (by decide +kernel)) (fun _ h9 => h9) rfl dX5_goesBy_69 ?_
              refine z_bri (z_runV (As := [.int (nI sx), .int (nI kw)]) (rest := [.ref m0]) (ci := 5) ⟨hx, hb, hml, hown, hts⟩ (c_X5_behind (m0 := m0) (pg := pg) (rd := rd) (ro := ro) (fa := fa) (wo := wo) (ah := ah) (he := he) (wy := wy) (on_ := on_) (pa := pa) (kr := kr) (kn := kn) (kh := kh) (sr := sr) (sn := sn) (n := n) (N := N) (t := t) (rmy := rmy) (rpt := rpt) (sta := sta) (pt := pt) (nw := nI kw) (ou := ou) (si := if mMany N r ou who k = 0 then si + 1 else 0) (en := en) (w0 := w0) (w1 := w1) (br := br + 1) (cr := cr) (pf := pf) (kt := kt) (kc := kc) (sd := sd) (ha := ha) (r := rw_) (sx := sx) (k := kw) (by first | assumption | omega) (by first | assumption | omega) (by first | assumption | omega) _) (cwV 2 hts gX5_goesBy_X5_behind rfl rfl rfl (by decide +kernel) ⟨Nat.le_of_ble_eq_true rfl, Nat.le_of_ble_eq_true rfl⟩) hK hP hD hN [0, 1] rfl rfl rfl rfl rfl hl.1 rfl (Nat.le_of_ble_eq_true rfl) dX5_goesBy_72 ⟨Nat.zero_le _, Nat.zero_le _⟩) hP hD hS hA [0, 1] rfl (fun r_22 u_23 H locs hq_21 hP hS => ?_)
              obtain rfl : r_22 = nI (mBeh rw_ N sx kw) := hq_21
              refine va_put (D := D) (ci := 5) (v := .int (nI (mBeh rw_ N sx kw))) (ty := .int) (C := RX5) (T := TX5) (N := 35) hx hb hts hiX5 tyX5 tyX5_ok nmX5 hown hK hP hD hS 0 rfl rfl 8 (by decide) (hts (.fieldLink RX5 59 "HeardSecondModel" "now" "I") (by decide +kernel)) (fun _ h9 => h9) rfl (by decide +kernel) (rfl) rfl (Nat.le_of_ble_eq_true rfl) dX5_goesBy_75 (fun H locs hP hD hS => ?_)
              have hP : va_P D vwCl [(m0, .inr (5, [.ref pg, .int (nI n), .ref rd, .int rmy, .int rpt, .int sta, .int (nI N), .int pt, .int (nI (mBeh rw_ N sx kw)), .int ou, .int (if mMany N r ou who k = 0 then si + 1 else 0), .int en, .int w0, .int w1, .int (br + 1), .int cr, .ref ro, .ref fa, .ref wo, .ref ah, .int pf, .int (nI t), .ref he, .ref wy, .ref on_, .ref pa, .ref kr, .ref kn, .ref kh, .int kt, .int kc, .int sd, .ref sr, .ref sn, .long ha])), (ro, .inl (cA, 15, .inl rw_))] H := hP
              have hD : va_D A [(m0, .inr (5, [.ref pg, .int (nI n), .ref rd, .int rmy, .int rpt, .int sta, .int (nI N), .int pt, .int (nI (mBeh rw_ N sx kw)), .int ou, .int (if mMany N r ou who k = 0 then si + 1 else 0), .int en, .int w0, .int w1, .int (br + 1), .int cr, .ref ro, .ref fa, .ref wo, .ref ah, .int pf, .int (nI t), .ref he, .ref wy, .ref on_, .ref pa, .ref kr, .ref kn, .ref kh, .int kt, .int kc, .int sd, .ref sr, .ref sn, .long ha])), (ro, .inl (cA, 15, .inl rw_))] := hD
              refine lv_aload_n hx hb dX5_goesBy_78 rfl (lv_at hl 0 rfl) ?_
              refine va_get (D := D) (ci := 5) (v := .ref ro) (C := RX5) (T := TX5) (N := 35) hx hb hts hiX5 hown hK hP 0 rfl rfl 16 (by decide) (hts (.fieldLink RX5 16 "HeardSecondModel" "rows" "[I") (by decide +kernel)) (fun _ h9 => h9) rfl dX5_goesBy_79 ?_
              refine lv_iconst (v := 3) hx hb dX5_goesBy_82 (by decide) ?_
              refine lv_iload hx hb dX5_goesBy_83 (lv_at hl 4 rfl) ?_
              refine lv_imul hx hb dX5_goesBy_85 ?_
              refine lv_iconst (v := 2) hx hb dX5_goesBy_86 (by decide) ?_
              refine lv_iadd hx hb dX5_goesBy_87 ?_
              refine z_top (y := nI (3 * sx + 2)) (nI_32 sx) ?_
              refine lv_dup2_11 hx hb dX5_goesBy_88 rfl rfl ?_
              refine va_iald hx hb hK hP 1 0 rfl rfl (z_inN (by omega) (by decide)) dX5_goesBy_89 ?_
              refine lv_iconst (v := 1) hx hb dX5_goesBy_90 (by decide) ?_
              refine lv_iadd hx hb dX5_goesBy_91 ?_
              refine va_iast hx hb hK hP hD hS 1 0 rfl rfl (z_inN (by omega) (by decide)) dX5_goesBy_92 (fun H locs hP hD hS => ?_)
              have hP : va_P D vwCl [(m0, .inr (5, [.ref pg, .int (nI n), .ref rd, .int rmy, .int rpt, .int sta, .int (nI N), .int pt, .int (nI (mBeh rw_ N sx kw)), .int ou, .int (if mMany N r ou who k = 0 then si + 1 else 0), .int en, .int w0, .int w1, .int (br + 1), .int cr, .ref ro, .ref fa, .ref wo, .ref ah, .int pf, .int (nI t), .ref he, .ref wy, .ref on_, .ref pa, .ref kr, .ref kn, .ref kh, .int kt, .int kc, .int sd, .ref sr, .ref sn, .long ha])), (ro, .inl (cA, 15, .inl (upd rw_ (Int32.toNatClampNeg (nI (3 * sx + 2))) ((rw_ (Int32.toNatClampNeg (nI (3 * sx + 2)))) + 1))))] H := hP
              have hD : va_D A [(m0, .inr (5, [.ref pg, .int (nI n), .ref rd, .int rmy, .int rpt, .int sta, .int (nI N), .int pt, .int (nI (mBeh rw_ N sx kw)), .int ou, .int (if mMany N r ou who k = 0 then si + 1 else 0), .int en, .int w0, .int w1, .int (br + 1), .int cr, .ref ro, .ref fa, .ref wo, .ref ah, .int pf, .int (nI t), .ref he, .ref wy, .ref on_, .ref pa, .ref kr, .ref kn, .ref kh, .int kt, .int kc, .int sd, .ref sr, .ref sn, .long ha])), (ro, .inl (cA, 15, .inl (upd rw_ (Int32.toNatClampNeg (nI (3 * sx + 2))) ((rw_ (Int32.toNatClampNeg (nI (3 * sx + 2)))) + 1))))] := hD
              rw [show upd rw_ (Int32.toNatClampNeg (nI (3 * sx + 2))) ((rw_ (Int32.toNatClampNeg (nI (3 * sx + 2)))) + 1) = upd rw_ (3 * sx + 2) (rw_ (3 * sx + 2) + 1) from by rw [z_nat (by omega)]] at hP hD
              refine lv_iinc (v := nI (sx + 1)) (lv' := [(4, .int (nI (sx + 1))), (0, .ref m0), (1, .int who), (2, .int (mBits r ou who k N)), (3, .int (mMany N r ou who k))]) hx hb dX5_goesBy_93 hl (k := 4) rfl (nI_1 sx) (by decide) rfl (fun ls hl => ?_)
              refine lv_goto (tgt := 47) hx hb dX5_goesBy_96 (by decide) ?_
              exact ih18 (sx + 1) (mBeh rw_ N sx kw) (upd rw_ (3 * sx + 2) (rw_ (3 * sx + 2) + 1)) (by omega) (by first | assumption | omega) (by clear hret hl hS hD hP hK hA hN hts hx hb hr hml hown hlocks hiX5 J99 ih18; first | assumption | exact mBeh_64 (by assumption) (by omega) (by omega)) (by clear hret hl hS hD hP hK hA hN hts hx hb hr hml hown hlocks hiX5 J99 ih18; rw [mStep, ← hv]; first | (rw [if_pos (by assumption)]; done) | (rw [if_neg (by assumption)]; done)) _ _ _ hP hD hS (lv_sub hl [1, 2, 3, 4, 0] rfl)
      exact L47 (N + 1) 0 k r (by omega) (by first | assumption | omega) (by first | assumption | omega) (by rfl) _ _ _ hP hD hS (lv_sub hl [3, 4, 2, 1, 0] rfl)
  · skip
    refine lv_aload_n hx hb dX5_goesBy_26 rfl (lv_at hl 2 rfl) ?_
    refine va_get (D := D) (ci := 5) (v := .int si) (C := RX5) (T := TX5) (N := 35) hx hb hts hiX5 hown hK hP 0 rfl rfl 10 (by decide) (hts (.fieldLink RX5 103 "HeardSecondModel" "silence" "I") (by decide +kernel)) (fun _ h9 => h9) rfl dX5_goesBy_27 ?_
    refine lv_iconst (v := 1) hx hb dX5_goesBy_30 (by decide) ?_
    refine lv_iadd hx hb dX5_goesBy_31 ?_
    refine lv_goto (tgt := 36) hx hb dX5_goesBy_32 (by decide) ?_
    refine z_top (y := if mMany N r ou who k = 0 then si + 1 else 0) (by first | (rw [if_pos (by assumption)]; done) | (rw [if_neg (by assumption)]; done)) ?_
    refine va_put (D := D) (ci := 5) (v := .int (if mMany N r ou who k = 0 then si + 1 else 0)) (ty := .int) (C := RX5) (T := TX5) (N := 35) hx hb hts hiX5 tyX5 tyX5_ok nmX5 hown hK hP hD hS 0 rfl rfl 10 (by decide) (hts (.fieldLink RX5 103 "HeardSecondModel" "silence" "I") (by decide +kernel)) (fun _ h9 => h9) rfl (by decide +kernel) (rfl) rfl (Nat.le_of_ble_eq_true rfl) dX5_goesBy_36 (fun H locs hP hD hS => ?_)
    have hP : va_P D vwCl [(m0, .inr (5, [.ref pg, .int (nI n), .ref rd, .int rmy, .int rpt, .int sta, .int (nI N), .int pt, .int (nI k), .int ou, .int (if mMany N r ou who k = 0 then si + 1 else 0), .int en, .int w0, .int w1, .int (br + 1), .int cr, .ref ro, .ref fa, .ref wo, .ref ah, .int pf, .int (nI t), .ref he, .ref wy, .ref on_, .ref pa, .ref kr, .ref kn, .ref kh, .int kt, .int kc, .int sd, .ref sr, .ref sn, .long ha])), (ro, .inl (cA, 15, .inl r))] H := hP
    have hD : va_D A [(m0, .inr (5, [.ref pg, .int (nI n), .ref rd, .int rmy, .int rpt, .int sta, .int (nI N), .int pt, .int (nI k), .int ou, .int (if mMany N r ou who k = 0 then si + 1 else 0), .int en, .int w0, .int w1, .int (br + 1), .int cr, .ref ro, .ref fa, .ref wo, .ref ah, .int pf, .int (nI t), .ref he, .ref wy, .ref on_, .ref pa, .ref kr, .ref kn, .ref kh, .int kt, .int kc, .int sd, .ref sr, .ref sn, .long ha])), (ro, .inl (cA, 15, .inl r))] := hD
    have J99 : ∀ (k2 : Nat) (r2 : Nat → Int32) (hj : (k2, r2) = if mMany N r ou who k = 1 then mStep N (mBits r ou who k N) k r N else (k, r)) (H : Heap) (locs : List Loc) (ls : Array Slot), va_P D vwCl [(m0, .inr (5, [.ref pg, .int (nI n), .ref rd, .int rmy, .int rpt, .int sta, .int (nI N), .int pt, .int (nI k2), .int ou, .int (if mMany N r ou who k = 0 then si + 1 else 0), .int en, .int w0, .int w1, .int (br + 1), .int cr, .ref ro, .ref fa, .ref wo, .ref ah, .int pf, .int (nI t), .ref he, .ref wy, .ref on_, .ref pa, .ref kr, .ref kn, .ref kh, .int kt, .int kc, .int sd, .ref sr, .ref sn, .long ha])), (ro, .inl (cA, 15, .inl r2))] H → va_D A [(m0, .inr (5, [.ref pg, .int (nI n), .ref rd, .int rmy, .int rpt, .int sta, .int (nI N), .int pt, .int (nI k2), .int ou, .int (if mMany N r ou who k = 0 then si + 1 else 0), .int en, .int w0, .int w1, .int (br + 1), .int cr, .ref ro, .ref fa, .ref wo, .ref ah, .int pf, .int (nI t), .ref he, .ref wy, .ref on_, .ref pa, .ref kr, .ref kn, .ref kh, .int kt, .int kc, .int sd, .ref sr, .ref sn, .long ha])), (ro, .inl (cA, 15, .inl r2))] → va_S A H0 H locs → lv_has ls 5 [(0, .ref m0), (1, .int who), (2, .int (mBits r ou who k N)), (3, .int (mMany N r ou who k))] → W p l e rm_c_X5_goesBy s m args below meth c H locs 0 0 Q (F0 m 99 ls []) := by
      intro k2 r2 hj H locs ls hP hD hS hl
      have hk2v : mV k2 := mJ_V hkv h5 hj
      have hk264_ : k2 < 64 := hk2v.1
      refine lv_aload_n hx hb dX5_goesBy_99 rfl (lv_at hl 0 rfl) ?_
      refine lv_dup hx hb dX5_goesBy_100 rfl ?_
      refine va_get (D := D) (ci := 5) (v := .int ou) (C := RX5) (T := TX5) (N := 35) hx hb hts hiX5 hown hK hP 0 rfl rfl 9 (by decide) (hts (.fieldLink RX5 100 "HeardSecondModel" "out" "I") (by decide +kernel)) (fun _ h9 => h9) rfl dX5_goesBy_101 ?_
      refine lv_iload_n hx hb dX5_goesBy_104 rfl (lv_at hl 3 rfl) ?_
      refine lv_iconst (v := 1) hx hb dX5_goesBy_105 (by decide) ?_
      refine lv_icmp_le (tgt := 113) hx hb dX5_goesBy_106 (by decide) (fun c106_24 => ?_) (fun c106_24 => ?_)
      · skip
        refine lv_iconst (v := 0) hx hb dX5_goesBy_113 (by decide) ?_
        refine lv_ior hx hb dX5_goesBy_114 ?_
        refine z_top (y := ou ||| (if 1 < mMany N r ou who k then mBits r ou who k N else 0)) (by first | (rw [if_pos (Int32.not_le.mp (by assumption))]; done) | (rw [if_neg (Int32.not_lt.mpr (by assumption))]; done)) ?_
        refine va_put (D := D) (ci := 5) (v := .int (ou ||| (if 1 < mMany N r ou who k then mBits r ou who k N else 0))) (ty := .int) (C := RX5) (T := TX5) (N := 35) hx hb hts hiX5 tyX5 tyX5_ok nmX5 hown hK hP hD hS 0 rfl rfl 9 (by decide) (hts (.fieldLink RX5 100 "HeardSecondModel" "out" "I") (by decide +kernel)) (fun _ h9 => h9) rfl (by decide +kernel) (rfl) rfl (Nat.le_of_ble_eq_true rfl) dX5_goesBy_115 (fun H locs hP hD hS => ?_)
        have hP : va_P D vwCl [(m0, .inr (5, [.ref pg, .int (nI n), .ref rd, .int rmy, .int rpt, .int sta, .int (nI N), .int pt, .int (nI k2), .int (ou ||| (if 1 < mMany N r ou who k then mBits r ou who k N else 0)), .int (if mMany N r ou who k = 0 then si + 1 else 0), .int en, .int w0, .int w1, .int (br + 1), .int cr, .ref ro, .ref fa, .ref wo, .ref ah, .int pf, .int (nI t), .ref he, .ref wy, .ref on_, .ref pa, .ref kr, .ref kn, .ref kh, .int kt, .int kc, .int sd, .ref sr, .ref sn, .long ha])), (ro, .inl (cA, 15, .inl r2))] H := hP
        have hD : va_D A [(m0, .inr (5, [.ref pg, .int (nI n), .ref rd, .int rmy, .int rpt, .int sta, .int (nI N), .int pt, .int (nI k2), .int (ou ||| (if 1 < mMany N r ou who k then mBits r ou who k N else 0)), .int (if mMany N r ou who k = 0 then si + 1 else 0), .int en, .int w0, .int w1, .int (br + 1), .int cr, .ref ro, .ref fa, .ref wo, .ref ah, .int pf, .int (nI t), .ref he, .ref wy, .ref on_, .ref pa, .ref kr, .ref kn, .ref kh, .int kt, .int kc, .int sd, .ref sr, .ref sn, .long ha])), (ro, .inl (cA, 15, .inl r2))] := hD
        refine lv_aload_n hx hb dX5_goesBy_118 rfl (lv_at hl 0 rfl) ?_
        refine va_get (D := D) (ci := 5) (v := .int (if mMany N r ou who k = 0 then si + 1 else 0)) (C := RX5) (T := TX5) (N := 35) hx hb hts hiX5 hown hK hP 0 rfl rfl 10 (by decide) (hts (.fieldLink RX5 103 "HeardSecondModel" "silence" "I") (by decide +kernel)) (fun _ h9 => h9) rfl dX5_goesBy_119 ?_
        refine lv_aload_n hx hb dX5_goesBy_122 rfl (lv_at hl 0 rfl) ?_
        refine va_get (D := D) (ci := 5) (v := .int pt) (C := RX5) (T := TX5) (N := 35) hx hb hts hiX5 hown hK hP 0 rfl rfl 7 (by decide) (hts (.fieldLink RX5 97 "HeardSecondModel" "patience" "I") (by decide +kernel)) (fun _ h9 => h9) rfl dX5_goesBy_123 ?_
        refine lv_icmp_ne (tgt := 133) hx hb dX5_goesBy_126 (by decide) (fun c126_25 => ?_) (fun c126_25 => ?_)
        · skip
          refine lv_iload_n hx hb dX5_goesBy_133 rfl (lv_at hl 3 rfl) ?_
          -- path 5
          exact hret (mMany N r ou who k) (k2, (ou ||| (if 1 < mMany N r ou who k then mBits r ou who k N else 0), (if mMany N r ou who k = 0 then si + 1 else 0, (en, (w0, (w1, (br + 1, r2))))))) _ _ _ _ dX5_goesBy_134 (rfl) (by clear hret hl hS hD hP hK hA hN hts hx hb hr hml hown hlocks hiX5; exact ⟨rfl, mGoes_eq hj (by first | exact Or.inl ⟨by assumption, rfl⟩ | exact Or.inr ⟨by assumption, rfl⟩)⟩) hP hD hS
        · skip
          refine lv_aload_n hx hb dX5_goesBy_129 rfl (lv_at hl 0 rfl) ?_
          refine z_bwv (wr := []) (ws' := fun (_ : Unit) => [(m0, .inr (5, [.ref pg, .int (nI n), .ref rd, .int rmy, .int rpt, .int sta, .int (nI N), .int pt, .int (nI 63), .int 0, .int 0, .int (en + 1), .int (mWon 0 r2 k2 w0), .int (mWon 1 r2 k2 w1), .int (br + 1), .int cr, .ref ro, .ref fa, .ref wo, .ref ah, .int pf, .int (nI t), .ref he, .ref wy, .ref on_, .ref pa, .ref kr, .ref kn, .ref kh, .int kt, .int kc, .int sd, .ref sr, .ref sn, .long ha])), (ro, .inl (cA, 15, .inl r2))]) (z_runV (As := []) (rest := []) (ci := 5) ⟨hx, hb, hml, hown, hts⟩ (c_X5_ends (m0 := m0) (pg := pg) (rd := rd) (ro := ro) (fa := fa) (wo := wo) (ah := ah) (he := he) (wy := wy) (on_ := on_) (pa := pa) (kr := kr) (kn := kn) (kh := kh) (sr := sr) (sn := sn) (n := n) (N := N) (t := t) (rmy := rmy) (rpt := rpt) (sta := sta) (pt := pt) (ou := ou ||| (if 1 < mMany N r ou who k then mBits r ou who k N else 0)) (si := if mMany N r ou who k = 0 then si + 1 else 0) (en := en) (w0 := w0) (w1 := w1) (br := br + 1) (cr := cr) (pf := pf) (kt := kt) (kc := kc) (sd := sd) (ha := ha) (r := r2) (k := k2) (by first | assumption | omega) _) (cwV 0 hts gX5_goesBy_X5_ends rfl rfl rfl (by decide +kernel) ⟨Nat.le_of_ble_eq_true rfl, Nat.le_of_ble_eq_true rfl⟩) hK hP hD hN [0, 1] rfl rfl rfl rfl rfl hl.1 rfl (Nat.le_of_ble_eq_true rfl) dX5_goesBy_130 ⟨Nat.zero_le _, Nat.zero_le _⟩) hP hD hS hA [0, 1] [] [0, 1] rfl rfl rfl (by decide) rfl (fun _ => rfl) (fun u_28 H locs hq_26 hP hD hS => ?_)
          have hP : va_P D vwCl [(m0, .inr (5, [.ref pg, .int (nI n), .ref rd, .int rmy, .int rpt, .int sta, .int (nI N), .int pt, .int (nI 63), .int 0, .int 0, .int (en + 1), .int (mWon 0 r2 k2 w0), .int (mWon 1 r2 k2 w1), .int (br + 1), .int cr, .ref ro, .ref fa, .ref wo, .ref ah, .int pf, .int (nI t), .ref he, .ref wy, .ref on_, .ref pa, .ref kr, .ref kn, .ref kh, .int kt, .int kc, .int sd, .ref sr, .ref sn, .long ha])), (ro, .inl (cA, 15, .inl r2))] H := hP
          have hD : va_D A [(m0, .inr (5, [.ref pg, .int (nI n), .ref rd, .int rmy, .int rpt, .int sta, .int (nI N), .int pt, .int (nI 63), .int 0, .int 0, .int (en + 1), .int (mWon 0 r2 k2 w0), .int (mWon 1 r2 k2 w1), .int (br + 1), .int cr, .ref ro, .ref fa, .ref wo, .ref ah, .int pf, .int (nI t), .ref he, .ref wy, .ref on_, .ref pa, .ref kr, .ref kn, .ref kh, .int kt, .int kc, .int sd, .ref sr, .ref sn, .long ha])), (ro, .inl (cA, 15, .inl r2))] := hD
          refine lv_iload_n hx hb dX5_goesBy_133 rfl (lv_at hl 3 rfl) ?_
          -- path 6
          exact hret (mMany N r ou who k) (63, (0, (0, (en + 1, (mWon 0 r2 k2 w0, (mWon 1 r2 k2 w1, (br + 1, r2))))))) _ _ _ _ dX5_goesBy_134 (rfl) (by clear hret hl hS hD hP hK hA hN hts hx hb hr hml hown hlocks hiX5; exact ⟨rfl, mGoes_eq hj (by first | exact Or.inl ⟨by assumption, rfl⟩ | exact Or.inr ⟨by assumption, rfl⟩)⟩) hP hD hS
      · skip
        refine lv_iload_n hx hb dX5_goesBy_109 rfl (lv_at hl 2 rfl) ?_
        refine lv_goto (tgt := 114) hx hb dX5_goesBy_110 (by decide) ?_
        refine lv_ior hx hb dX5_goesBy_114 ?_
        refine z_top (y := ou ||| (if 1 < mMany N r ou who k then mBits r ou who k N else 0)) (by first | (rw [if_pos (Int32.not_le.mp (by assumption))]; done) | (rw [if_neg (Int32.not_lt.mpr (by assumption))]; done)) ?_
        refine va_put (D := D) (ci := 5) (v := .int (ou ||| (if 1 < mMany N r ou who k then mBits r ou who k N else 0))) (ty := .int) (C := RX5) (T := TX5) (N := 35) hx hb hts hiX5 tyX5 tyX5_ok nmX5 hown hK hP hD hS 0 rfl rfl 9 (by decide) (hts (.fieldLink RX5 100 "HeardSecondModel" "out" "I") (by decide +kernel)) (fun _ h9 => h9) rfl (by decide +kernel) (rfl) rfl (Nat.le_of_ble_eq_true rfl) dX5_goesBy_115 (fun H locs hP hD hS => ?_)
        have hP : va_P D vwCl [(m0, .inr (5, [.ref pg, .int (nI n), .ref rd, .int rmy, .int rpt, .int sta, .int (nI N), .int pt, .int (nI k2), .int (ou ||| (if 1 < mMany N r ou who k then mBits r ou who k N else 0)), .int (if mMany N r ou who k = 0 then si + 1 else 0), .int en, .int w0, .int w1, .int (br + 1), .int cr, .ref ro, .ref fa, .ref wo, .ref ah, .int pf, .int (nI t), .ref he, .ref wy, .ref on_, .ref pa, .ref kr, .ref kn, .ref kh, .int kt, .int kc, .int sd, .ref sr, .ref sn, .long ha])), (ro, .inl (cA, 15, .inl r2))] H := hP
        have hD : va_D A [(m0, .inr (5, [.ref pg, .int (nI n), .ref rd, .int rmy, .int rpt, .int sta, .int (nI N), .int pt, .int (nI k2), .int (ou ||| (if 1 < mMany N r ou who k then mBits r ou who k N else 0)), .int (if mMany N r ou who k = 0 then si + 1 else 0), .int en, .int w0, .int w1, .int (br + 1), .int cr, .ref ro, .ref fa, .ref wo, .ref ah, .int pf, .int (nI t), .ref he, .ref wy, .ref on_, .ref pa, .ref kr, .ref kn, .ref kh, .int kt, .int kc, .int sd, .ref sr, .ref sn, .long ha])), (ro, .inl (cA, 15, .inl r2))] := hD
        refine lv_aload_n hx hb dX5_goesBy_118 rfl (lv_at hl 0 rfl) ?_
        refine va_get (D := D) (ci := 5) (v := .int (if mMany N r ou who k = 0 then si + 1 else 0)) (C := RX5) (T := TX5) (N := 35) hx hb hts hiX5 hown hK hP 0 rfl rfl 10 (by decide) (hts (.fieldLink RX5 103 "HeardSecondModel" "silence" "I") (by decide +kernel)) (fun _ h9 => h9) rfl dX5_goesBy_119 ?_
        refine lv_aload_n hx hb dX5_goesBy_122 rfl (lv_at hl 0 rfl) ?_
        refine va_get (D := D) (ci := 5) (v := .int pt) (C := RX5) (T := TX5) (N := 35) hx hb hts hiX5 hown hK hP 0 rfl rfl 7 (by decide) (hts (.fieldLink RX5 97 "HeardSecondModel" "patience" "I") (by decide +kernel)) (fun _ h9 => h9) rfl dX5_goesBy_123 ?_
        refine lv_icmp_ne (tgt := 133) hx hb dX5_goesBy_126 (by decide) (fun c126_29 => ?_) (fun c126_29 => ?_)
        · skip
          refine lv_iload_n hx hb dX5_goesBy_133 rfl (lv_at hl 3 rfl) ?_
          -- path 7
          exact hret (mMany N r ou who k) (k2, (ou ||| (if 1 < mMany N r ou who k then mBits r ou who k N else 0), (if mMany N r ou who k = 0 then si + 1 else 0, (en, (w0, (w1, (br + 1, r2))))))) _ _ _ _ dX5_goesBy_134 (rfl) (by clear hret hl hS hD hP hK hA hN hts hx hb hr hml hown hlocks hiX5; exact ⟨rfl, mGoes_eq hj (by first | exact Or.inl ⟨by assumption, rfl⟩ | exact Or.inr ⟨by assumption, rfl⟩)⟩) hP hD hS
        · skip
          refine lv_aload_n hx hb dX5_goesBy_129 rfl (lv_at hl 0 rfl) ?_
          refine z_bwv (wr := []) (ws' := fun (_ : Unit) => [(m0, .inr (5, [.ref pg, .int (nI n), .ref rd, .int rmy, .int rpt, .int sta, .int (nI N), .int pt, .int (nI 63), .int 0, .int 0, .int (en + 1), .int (mWon 0 r2 k2 w0), .int (mWon 1 r2 k2 w1), .int (br + 1), .int cr, .ref ro, .ref fa, .ref wo, .ref ah, .int pf, .int (nI t), .ref he, .ref wy, .ref on_, .ref pa, .ref kr, .ref kn, .ref kh, .int kt, .int kc, .int sd, .ref sr, .ref sn, .long ha])), (ro, .inl (cA, 15, .inl r2))]) (z_runV (As := []) (rest := []) (ci := 5) ⟨hx, hb, hml, hown, hts⟩ (c_X5_ends (m0 := m0) (pg := pg) (rd := rd) (ro := ro) (fa := fa) (wo := wo) (ah := ah) (he := he) (wy := wy) (on_ := on_) (pa := pa) (kr := kr) (kn := kn) (kh := kh) (sr := sr) (sn := sn) (n := n) (N := N) (t := t) (rmy := rmy) (rpt := rpt) (sta := sta) (pt := pt) (ou := ou ||| (if 1 < mMany N r ou who k then mBits r ou who k N else 0)) (si := if mMany N r ou who k = 0 then si + 1 else 0) (en := en) (w0 := w0) (w1 := w1) (br := br + 1) (cr := cr) (pf := pf) (kt := kt) (kc := kc) (sd := sd) (ha := ha) (r := r2) (k := k2) (by first | assumption | omega) _) (cwV 0 hts gX5_goesBy_X5_ends rfl rfl rfl (by decide +kernel) ⟨Nat.le_of_ble_eq_true rfl, Nat.le_of_ble_eq_true rfl⟩) hK hP hD hN [0, 1] rfl rfl rfl rfl rfl hl.1 rfl (Nat.le_of_ble_eq_true rfl) dX5_goesBy_130 ⟨Nat.zero_le _, Nat.zero_le _⟩) hP hD hS hA [0, 1] [] [0, 1] rfl rfl rfl (by decide) rfl (fun _ => rfl) (fun u_32 H locs hq_30 hP hD hS => ?_)
          have hP : va_P D vwCl [(m0, .inr (5, [.ref pg, .int (nI n), .ref rd, .int rmy, .int rpt, .int sta, .int (nI N), .int pt, .int (nI 63), .int 0, .int 0, .int (en + 1), .int (mWon 0 r2 k2 w0), .int (mWon 1 r2 k2 w1), .int (br + 1), .int cr, .ref ro, .ref fa, .ref wo, .ref ah, .int pf, .int (nI t), .ref he, .ref wy, .ref on_, .ref pa, .ref kr, .ref kn, .ref kh, .int kt, .int kc, .int sd, .ref sr, .ref sn, .long ha])), (ro, .inl (cA, 15, .inl r2))] H := hP
          have hD : va_D A [(m0, .inr (5, [.ref pg, .int (nI n), .ref rd, .int rmy, .int rpt, .int sta, .int (nI N), .int pt, .int (nI 63), .int 0, .int 0, .int (en + 1), .int (mWon 0 r2 k2 w0), .int (mWon 1 r2 k2 w1), .int (br + 1), .int cr, .ref ro, .ref fa, .ref wo, .ref ah, .int pf, .int (nI t), .ref he, .ref wy, .ref on_, .ref pa, .ref kr, .ref kn, .ref kh, .int kt, .int kc, .int sd, .ref sr, .ref sn, .long ha])), (ro, .inl (cA, 15, .inl r2))] := hD
          refine lv_iload_n hx hb dX5_goesBy_133 rfl (lv_at hl 3 rfl) ?_
          -- path 8
          exact hret (mMany N r ou who k) (63, (0, (0, (en + 1, (mWon 0 r2 k2 w0, (mWon 1 r2 k2 w1, (br + 1, r2))))))) _ _ _ _ dX5_goesBy_134 (rfl) (by clear hret hl hS hD hP hK hA hN hts hx hb hr hml hown hlocks hiX5; exact ⟨rfl, mGoes_eq hj (by first | exact Or.inl ⟨by assumption, rfl⟩ | exact Or.inr ⟨by assumption, rfl⟩)⟩) hP hD hS
    refine lv_iload_n hx hb dX5_goesBy_39 rfl (lv_at hl 0 rfl) ?_
    refine lv_iconst (v := 1) hx hb dX5_goesBy_40 (by decide) ?_
    refine lv_icmp_ne (tgt := 99) hx hb dX5_goesBy_41 (by decide) (fun c41_33 => ?_) (fun c41_33 => ?_)
    · skip
      exact J99 k r (by clear hret hl hS hD hP hK hA hN hts hx hb hr hml hown hlocks hiX5 J99; first | (rw [if_neg (by assumption)]; done) | (rw [if_pos (by assumption), hv, ht_])) _ _ _ hP hD hS (lv_sub hl [2, 3, 1, 0] rfl)
    · skip
      refine lv_iconst (v := nI 0) hx hb dX5_goesBy_44 (by decide) ?_
      refine lv_istore (lv' := [(4, .int (nI 0)), (3, .int (mMany N r ou who k)), (2, .int (mBits r ou who k N)), (0, .ref m0), (1, .int who)]) hx hb dX5_goesBy_45 hl (by decide) rfl (fun ls hl => ?_)
      have L47 : ∀ (n_ : Nat) (sx : Nat) (kw : Nat) (rw_ : Nat → Int32) (hm_ : N + 1 ≤ sx + n_) (hs : sx ≤ N) (hkw : kw < 64) (hv : (kw, rw_) = mStep N (mBits r ou who k N) k r sx) (H : Heap) (locs : List Loc) (ls : Array Slot), va_P D vwCl [(m0, .inr (5, [.ref pg, .int (nI n), .ref rd, .int rmy, .int rpt, .int sta, .int (nI N), .int pt, .int (nI kw), .int ou, .int (if mMany N r ou who k = 0 then si + 1 else 0), .int en, .int w0, .int w1, .int (br + 1), .int cr, .ref ro, .ref fa, .ref wo, .ref ah, .int pf, .int (nI t), .ref he, .ref wy, .ref on_, .ref pa, .ref kr, .ref kn, .ref kh, .int kt, .int kc, .int sd, .ref sr, .ref sn, .long ha])), (ro, .inl (cA, 15, .inl rw_))] H → va_D A [(m0, .inr (5, [.ref pg, .int (nI n), .ref rd, .int rmy, .int rpt, .int sta, .int (nI N), .int pt, .int (nI kw), .int ou, .int (if mMany N r ou who k = 0 then si + 1 else 0), .int en, .int w0, .int w1, .int (br + 1), .int cr, .ref ro, .ref fa, .ref wo, .ref ah, .int pf, .int (nI t), .ref he, .ref wy, .ref on_, .ref pa, .ref kr, .ref kn, .ref kh, .int kt, .int kc, .int sd, .ref sr, .ref sn, .long ha])), (ro, .inl (cA, 15, .inl rw_))] → va_S A H0 H locs → lv_has ls 5 [(0, .ref m0), (1, .int who), (2, .int (mBits r ou who k N)), (3, .int (mMany N r ou who k)), (4, .int (nI sx))] → W p l e rm_c_X5_goesBy s m args below meth c H locs 0 0 Q (F0 m 47 ls []) := by
        intro n_
        induction n_ with
        | zero =>
          intro sx kw rw_ hm_ hs hkw hv
          exact absurd hm_ (by omega)
        | succ n_ ih_ =>
          intro sx kw rw_ hm_ hs hkw hv H locs ls hP hD hS hl
          have ih34 := ih_
          clear ih_
          refine lv_iload hx hb dX5_goesBy_47 (lv_at hl 4 rfl) ?_
          refine lv_aload_n hx hb dX5_goesBy_49 rfl (lv_at hl 0 rfl) ?_
          refine va_get (D := D) (ci := 5) (v := .int (nI N)) (C := RX5) (T := TX5) (N := 35) hx hb hts hiX5 hown hK hP 0 rfl rfl 6 (by decide) (hts (.fieldLink RX5 94 "HeardSecondModel" "seats" "I") (by decide +kernel)) (fun _ h9 => h9) rfl dX5_goesBy_50 ?_
          refine lv_icmp_ge (tgt := 99) hx hb dX5_goesBy_53 (by decide) (fun c53_35 => ?_) (fun c53_35 => ?_)
          · skip
            have ht_ : sx = N := by have := (nI_leI (a := N) (b := sx) (by omega) (by omega)).mp c53_35; omega
            exact J99 kw rw_ (by clear hret hl hS hD hP hK hA hN hts hx hb hr hml hown hlocks hiX5 J99 ih34; first | (rw [if_neg (by assumption)]; done) | (rw [if_pos (by assumption), hv, ht_])) _ _ _ hP hD hS (lv_sub hl [0, 1, 2, 3] rfl)
          · skip
            have hltsx : sx < N := Nat.lt_of_not_le (fun q_ => c53_35 ((nI_leI (a := N) (b := sx) (by omega) (by omega)).mpr q_))
            refine lv_iload_n hx hb dX5_goesBy_56 rfl (lv_at hl 2 rfl) ?_
            refine lv_iconst (v := 1) hx hb dX5_goesBy_57 (by decide) ?_
            refine lv_iload hx hb dX5_goesBy_58 (lv_at hl 4 rfl) ?_
            refine lv_ishl hx hb dX5_goesBy_60 ?_
            refine lv_icmp_ne (tgt := 93) hx hb dX5_goesBy_61 (by decide) (fun c61_36 => ?_) (fun c61_36 => ?_)
            · skip
              refine lv_iinc (v := nI (sx + 1)) (lv' := [(4, .int (nI (sx + 1))), (0, .ref m0), (1, .int who), (2, .int (mBits r ou who k N)), (3, .int (mMany N r ou who k))]) hx hb dX5_goesBy_93 hl (k := 4) rfl (nI_1 sx) (by decide) rfl (fun ls hl => ?_)
              refine lv_goto (tgt := 47) hx hb dX5_goesBy_96 (by decide) ?_
              exact ih34 (sx + 1) kw rw_ (by omega) (by first | assumption | omega) (by clear hret hl hS hD hP hK hA hN hts hx hb hr hml hown hlocks hiX5 J99 ih34; first | assumption | exact mBeh_64 (by assumption) (by omega) (by omega)) (by clear hret hl hS hD hP hK hA hN hts hx hb hr hml hown hlocks hiX5 J99 ih34; rw [mStep, ← hv]; first | (rw [if_pos (by assumption)]; done) | (rw [if_neg (by assumption)]; done)) _ _ _ hP hD hS (lv_sub hl [1, 2, 3, 4, 0] rfl)
            · skip
              refine lv_aload_n hx hb dX5_goesBy_64 rfl (lv_at hl 0 rfl) ?_
              refine lv_aload_n hx hb dX5_goesBy_65 rfl (lv_at hl 0 rfl) ?_
              refine lv_iload hx hb dX5_goesBy_66 (lv_at hl 4 rfl) ?_
              refine lv_aload_n hx hb dX5_goesBy_68 rfl (lv_at hl 0 rfl) ?_
              refine va_get (D := D) (ci := 5) (v := .int (nI kw)) (C := RX5) (T := TX5) (N := 35) hx hb hts hiX5 hown hK hP 0 rfl rfl 8 (by decide) (hts (.fieldLink RX5 59 "HeardSecondModel" "now" "I") (by decide +kernel)) (fun _ h9 => h9) rfl dX5_goesBy_69 ?_
              refine z_bri (z_runV (As := [.int (nI sx), .int (nI kw)]) (rest := [.ref m0]) (ci := 5) ⟨hx, hb, hml, hown, hts⟩ (c_X5_behind (m0 := m0) (pg := pg) (rd := rd) (ro := ro) (fa := fa) (wo := wo) (ah := ah) (he := he) (wy := wy) (on_ := on_) (pa := pa) (kr := kr) (kn := kn) (kh := kh) (sr := sr) (sn := sn) (n := n) (N := N) (t := t) (rmy := rmy) (rpt := rpt) (sta := sta) (pt := pt) (nw := nI kw) (ou := ou) (si := if mMany N r ou who k = 0 then si + 1 else 0) (en := en) (w0 := w0) (w1 := w1) (br := br + 1) (cr := cr) (pf := pf) (kt := kt) (kc := kc) (sd := sd) (ha := ha) (r := rw_) (sx := sx) (k := kw) (by first | assumption | omega) (by first | assumption | omega) (by first | assumption | omega) _) (cwV 2 hts gX5_goesBy_X5_behind rfl rfl rfl (by decide +kernel) ⟨Nat.le_of_ble_eq_true rfl, Nat.le_of_ble_eq_true rfl⟩) hK hP hD hN [0, 1] rfl rfl rfl rfl rfl hl.1 rfl (Nat.le_of_ble_eq_true rfl) dX5_goesBy_72 ⟨Nat.zero_le _, Nat.zero_le _⟩) hP hD hS hA [0, 1] rfl (fun r_38 u_39 H locs hq_37 hP hS => ?_)
              obtain rfl : r_38 = nI (mBeh rw_ N sx kw) := hq_37
              refine va_put (D := D) (ci := 5) (v := .int (nI (mBeh rw_ N sx kw))) (ty := .int) (C := RX5) (T := TX5) (N := 35) hx hb hts hiX5 tyX5 tyX5_ok nmX5 hown hK hP hD hS 0 rfl rfl 8 (by decide) (hts (.fieldLink RX5 59 "HeardSecondModel" "now" "I") (by decide +kernel)) (fun _ h9 => h9) rfl (by decide +kernel) (rfl) rfl (Nat.le_of_ble_eq_true rfl) dX5_goesBy_75 (fun H locs hP hD hS => ?_)
              have hP : va_P D vwCl [(m0, .inr (5, [.ref pg, .int (nI n), .ref rd, .int rmy, .int rpt, .int sta, .int (nI N), .int pt, .int (nI (mBeh rw_ N sx kw)), .int ou, .int (if mMany N r ou who k = 0 then si + 1 else 0), .int en, .int w0, .int w1, .int (br + 1), .int cr, .ref ro, .ref fa, .ref wo, .ref ah, .int pf, .int (nI t), .ref he, .ref wy, .ref on_, .ref pa, .ref kr, .ref kn, .ref kh, .int kt, .int kc, .int sd, .ref sr, .ref sn, .long ha])), (ro, .inl (cA, 15, .inl rw_))] H := hP
              have hD : va_D A [(m0, .inr (5, [.ref pg, .int (nI n), .ref rd, .int rmy, .int rpt, .int sta, .int (nI N), .int pt, .int (nI (mBeh rw_ N sx kw)), .int ou, .int (if mMany N r ou who k = 0 then si + 1 else 0), .int en, .int w0, .int w1, .int (br + 1), .int cr, .ref ro, .ref fa, .ref wo, .ref ah, .int pf, .int (nI t), .ref he, .ref wy, .ref on_, .ref pa, .ref kr, .ref kn, .ref kh, .int kt, .int kc, .int sd, .ref sr, .ref sn, .long ha])), (ro, .inl (cA, 15, .inl rw_))] := hD
              refine lv_aload_n hx hb dX5_goesBy_78 rfl (lv_at hl 0 rfl) ?_
              refine va_get (D := D) (ci := 5) (v := .ref ro) (C := RX5) (T := TX5) (N := 35) hx hb hts hiX5 hown hK hP 0 rfl rfl 16 (by decide) (hts (.fieldLink RX5 16 "HeardSecondModel" "rows" "[I") (by decide +kernel)) (fun _ h9 => h9) rfl dX5_goesBy_79 ?_
              refine lv_iconst (v := 3) hx hb dX5_goesBy_82 (by decide) ?_
              refine lv_iload hx hb dX5_goesBy_83 (lv_at hl 4 rfl) ?_
              refine lv_imul hx hb dX5_goesBy_85 ?_
              refine lv_iconst (v := 2) hx hb dX5_goesBy_86 (by decide) ?_
              refine lv_iadd hx hb dX5_goesBy_87 ?_
              refine z_top (y := nI (3 * sx + 2)) (nI_32 sx) ?_
              refine lv_dup2_11 hx hb dX5_goesBy_88 rfl rfl ?_
              refine va_iald hx hb hK hP 1 0 rfl rfl (z_inN (by omega) (by decide)) dX5_goesBy_89 ?_
              refine lv_iconst (v := 1) hx hb dX5_goesBy_90 (by decide) ?_
              refine lv_iadd hx hb dX5_goesBy_91 ?_
              refine va_iast hx hb hK hP hD hS 1 0 rfl rfl (z_inN (by omega) (by decide)) dX5_goesBy_92 (fun H locs hP hD hS => ?_)
              have hP : va_P D vwCl [(m0, .inr (5, [.ref pg, .int (nI n), .ref rd, .int rmy, .int rpt, .int sta, .int (nI N), .int pt, .int (nI (mBeh rw_ N sx kw)), .int ou, .int (if mMany N r ou who k = 0 then si + 1 else 0), .int en, .int w0, .int w1, .int (br + 1), .int cr, .ref ro, .ref fa, .ref wo, .ref ah, .int pf, .int (nI t), .ref he, .ref wy, .ref on_, .ref pa, .ref kr, .ref kn, .ref kh, .int kt, .int kc, .int sd, .ref sr, .ref sn, .long ha])), (ro, .inl (cA, 15, .inl (upd rw_ (Int32.toNatClampNeg (nI (3 * sx + 2))) ((rw_ (Int32.toNatClampNeg (nI (3 * sx + 2)))) + 1))))] H := hP
              have hD : va_D A [(m0, .inr (5, [.ref pg, .int (nI n), .ref rd, .int rmy, .int rpt, .int sta, .int (nI N), .int pt, .int (nI (mBeh rw_ N sx kw)), .int ou, .int (if mMany N r ou who k = 0 then si + 1 else 0), .int en, .int w0, .int w1, .int (br + 1), .int cr, .ref ro, .ref fa, .ref wo, .ref ah, .int pf, .int (nI t), .ref he, .ref wy, .ref on_, .ref pa, .ref kr, .ref kn, .ref kh, .int kt, .int kc, .int sd, .ref sr, .ref sn, .long ha])), (ro, .inl (cA, 15, .inl (upd rw_ (Int32.toNatClampNeg (nI (3 * sx + 2))) ((rw_ (Int32.toNatClampNeg (nI (3 * sx + 2)))) + 1))))] := hD
              rw [show upd rw_ (Int32.toNatClampNeg (nI (3 * sx + 2))) ((rw_ (Int32.toNatClampNeg (nI (3 * sx + 2)))) + 1) = upd rw_ (3 * sx + 2) (rw_ (3 * sx + 2) + 1) from by rw [z_nat (by omega)]] at hP hD
              refine lv_iinc (v := nI (sx + 1)) (lv' := [(4, .int (nI (sx + 1))), (0, .ref m0), (1, .int who), (2, .int (mBits r ou who k N)), (3, .int (mMany N r ou who k))]) hx hb dX5_goesBy_93 hl (k := 4) rfl (nI_1 sx) (by decide) rfl (fun ls hl => ?_)
              refine lv_goto (tgt := 47) hx hb dX5_goesBy_96 (by decide) ?_
              exact ih34 (sx + 1) (mBeh rw_ N sx kw) (upd rw_ (3 * sx + 2) (rw_ (3 * sx + 2) + 1)) (by omega) (by first | assumption | omega) (by clear hret hl hS hD hP hK hA hN hts hx hb hr hml hown hlocks hiX5 J99 ih34; first | assumption | exact mBeh_64 (by assumption) (by omega) (by omega)) (by clear hret hl hS hD hP hK hA hN hts hx hb hr hml hown hlocks hiX5 J99 ih34; rw [mStep, ← hv]; first | (rw [if_pos (by assumption)]; done) | (rw [if_neg (by assumption)]; done)) _ _ _ hP hD hS (lv_sub hl [1, 2, 3, 4, 0] rfl)
      exact L47 (N + 1) 0 k r (by omega) (by first | assumption | omega) (by first | assumption | omega) (by rfl) _ _ _ hP hD hS (lv_sub hl [3, 4, 2, 1, 0] rfl)
abbrev rm_c_X5_breath_no : Room := { frames := 1, cells := 0, slots := 0, locals := 25 }
set_option maxHeartbeats 400000 in
set_option maxRecDepth 20000 in
theorem c_X5_breath_no {l : Launch} {D : va_G} {cA : ClassId} {m0 : Nat} {pg : Nat} {rd : Nat} {ro : Nat} {fa : Nat} {wo : Nat} {ah : Nat} {he : Nat} {wy : Nat} {on_ : Nat} {pa : Nat} {kr : Nat} {kn : Nat} {kh : Nat} {sr : Nat} {sn : Nat} {n : Nat} {N : Nat} {t : Nat} {rmy : Int32} {rpt : Int32} {sta : Int32} {pt : Int32} {ou : Int32} {si : Int32} {en : Int32} {w0 : Int32} {w1 : Int32} {br : Int32} {cr : Int32} {pf : Int32} {kt : Int32} {kc : Int32} {sd : Int32} {ha : Int64} {r : Nat → Int32} {x : Int32} {k : Nat} (h5 : N ≤ 5) (hno : mIn x 0 (1 <<< (nI N &&& 31) - 1) = false ∨ N = 0) : zMi l yX5_breath wsX5_breath rm_c_X5_breath_no D cA [(m0, .inr (5, [.ref pg, .int (nI n), .ref rd, .int rmy, .int rpt, .int sta, .int (nI N), .int pt, .int (nI k), .int ou, .int si, .int en, .int w0, .int w1, .int br, .int cr, .ref ro, .ref fa, .ref wo, .ref ah, .int pf, .int (nI t), .ref he, .ref wy, .ref on_, .ref pa, .ref kr, .ref kn, .ref kh, .int kt, .int kc, .int sd, .ref sr, .ref sn, .long ha])), (ro, .inl (cA, 15, .inl r))] [.ref m0, .int x] (fun (ret_ : Int32) (_ : Unit) => ret_ = if mIn x 0 (1 <<< (nI N &&& 31) - 1) then -103 else -102) (fun (_ : Unit) => [(m0, .inr (5, [.ref pg, .int (nI n), .ref rd, .int rmy, .int rpt, .int sta, .int (nI N), .int pt, .int (nI k), .int ou, .int si, .int en, .int w0, .int w1, .int br, .int cr, .ref ro, .ref fa, .ref wo, .ref ah, .int pf, .int (nI t), .ref he, .ref wy, .ref on_, .ref pa, .ref kr, .ref kn, .ref kh, .int kt, .int kc, .int sd, .ref sr, .ref sn, .long ha])), (ro, .inl (cA, 15, .inl r))]) := by
  refine z_enteri (cc := cX5_breath) (maxL := 2) (ty := .int) (by decide) rfl (Nat.le_of_ble_eq_true rfl) (fun p e s m args below meth c ls A H0 H locs Q hi_ hA hK hP hD hS hl hret => ?_)
  obtain ⟨hx, hb, hr, hml, hown, hts, hlocks, hN⟩ := hi_
  have hl : lv_has ls 2 [(0, .ref m0), (1, .int x)] := hl
  have hiX5 : ∀ w ∈ wsX50, w ∈ wsX5_breath := by decide +kernel
  refine lv_iload_n hx hb dX5_breath_0 rfl (lv_at hl 1 rfl) ?_
  refine lv_i2l hx hb dX5_breath_1 rfl ?_
  refine lv_lconst (v := 0) hx hb dX5_breath_2 (by decide) ?_
  refine lv_iconst (v := 1) hx hb dX5_breath_3 (by decide) ?_
  refine lv_aload_n hx hb dX5_breath_4 rfl (lv_at hl 0 rfl) ?_
  refine va_get (D := D) (ci := 5) (v := .int (nI N)) (C := RX5) (T := TX5) (N := 35) hx hb hts hiX5 hown hK hP 0 rfl rfl 6 (by decide) (hts (.fieldLink RX5 94 "HeardSecondModel" "seats" "I") (by decide +kernel)) (fun _ h9 => h9) rfl dX5_breath_5 ?_
  refine lv_ishl hx hb dX5_breath_8 ?_
  refine lv_iconst (v := 1) hx hb dX5_breath_9 (by decide) ?_
  refine lv_isub hx hb dX5_breath_10 ?_
  refine lv_i2l hx hb dX5_breath_11 rfl ?_
  refine z_bri (z_runS (As := [.long (Int32.toInt64 x), .long 0, .long (Int32.toInt64 ((1 <<< ((nI N) &&& 31)) - 1))]) (rest := []) ⟨hx, hb, hml, hown, hts⟩ (c_X5_in (x := Int32.toInt64 x) (lo := 0) (hi := Int32.toInt64 ((1 <<< ((nI N) &&& 31)) - 1)) _) (va_cwS 3 hts gX5_breath_X5_in rfl rfl rfl (by decide +kernel) ⟨Nat.le_of_ble_eq_true rfl, Nat.le_of_ble_eq_true rfl⟩) hK hP hD hN [] rfl rfl rfl hl.1 rfl (Nat.le_of_ble_eq_true rfl) dX5_breath_12 ⟨Nat.zero_le _, Nat.zero_le _⟩) hP hD hS hA [] rfl (fun r_2 u_3 H locs hq_1 hP hS => ?_)
  obtain rfl : r_2 = bI (decide (0 ≤ (Int32.toInt64 x)) && decide ((Int32.toInt64 x) ≤ (Int32.toInt64 ((1 <<< ((nI N) &&& 31)) - 1)))) := hq_1
  refine z_top (y := bI (mIn x 0 (1 <<< (nI N &&& 31) - 1))) (z_in64 rfl rfl) ?_
  refine lv_if_ne (tgt := 21) hx hb dX5_breath_15 (by decide) (fun c15_4 => ?_) (fun c15_4 => ?_)
  · skip
    have c15_4 := bI_n0.mp c15_4
    refine lv_aload_n hx hb dX5_breath_21 rfl (lv_at hl 0 rfl) ?_
    refine z_bri (z_runV (As := []) (rest := []) (ci := 5) ⟨hx, hb, hml, hown, hts⟩ (c_X5_lacks (m0 := m0) (pg := pg) (rd := rd) (ro := ro) (fa := fa) (wo := wo) (ah := ah) (he := he) (wy := wy) (on_ := on_) (pa := pa) (kr := kr) (kn := kn) (kh := kh) (sr := sr) (sn := sn) (n := n) (N := N) (t := t) (rmy := rmy) (rpt := rpt) (sta := sta) (pt := pt) (nw := nI k) (ou := ou) (si := si) (en := en) (w0 := w0) (w1 := w1) (br := br) (cr := cr) (pf := pf) (kt := kt) (kc := kc) (sd := sd) (ha := ha) (by first | assumption | omega) _) (cwV 0 hts gX5_breath_X5_lacks rfl rfl rfl (by decide +kernel) ⟨Nat.le_of_ble_eq_true rfl, Nat.le_of_ble_eq_true rfl⟩) hK hP hD hN [0] rfl rfl rfl rfl rfl hl.1 rfl (Nat.le_of_ble_eq_true rfl) dX5_breath_22 ⟨Nat.zero_le _, Nat.zero_le _⟩) hP hD hS hA [0] rfl (fun r_6 u_7 H locs hq_5 hP hS => ?_)
    obtain rfl : r_6 = bI (decide (N = 0)) := hq_5
    refine lv_if_eq (tgt := 33) hx hb dX5_breath_25 (by decide) (fun c25_8 => ?_) (fun c25_8 => ?_)
    · skip
      have c25_8 := bI_0.mp c25_8
      exact hno.elim (fun h_ => absurd ((show mIn x 0 (1 <<< (nI N &&& 31) - 1) = true by assumption).symm.trans h_) (by decide)) (fun h_ => absurd h_ (of_decide_eq_false c25_8))
    · skip
      have c25_8 := bI_n0.mp c25_8
      refine lv_bipush (v := (-103)) hx hb dX5_breath_28 (by decide) ?_
      refine lv_goto (tgt := 38) hx hb dX5_breath_30 (by decide) ?_
      -- path 1
      exact hret ((-103)) () _ _ _ _ dX5_breath_38 (rfl) (by clear hret hl hS hD hP hK hA hN hts hx hb hr hml hown hlocks hiX5; simp_all) hP hD hS
  · skip
    have c15_4 := bI_0.mp c15_4
    refine lv_bipush (v := (-102)) hx hb dX5_breath_18 (by decide) ?_
    -- path 2
    exact hret ((-102)) () _ _ _ _ dX5_breath_20 (rfl) (by clear hret hl hS hD hP hK hA hN hts hx hb hr hml hown hlocks hiX5; simp_all) hP hD hS
abbrev rm_c_X5_breath_yes : Room := { frames := 3, cells := 0, slots := 0, locals := 72 }
set_option maxHeartbeats 400000 in
set_option maxRecDepth 20000 in
theorem c_X5_breath_yes {l : Launch} {D : va_G} {cA : ClassId} {m0 : Nat} {pg : Nat} {rd : Nat} {ro : Nat} {fa : Nat} {wo : Nat} {ah : Nat} {he : Nat} {wy : Nat} {on_ : Nat} {pa : Nat} {kr : Nat} {kn : Nat} {kh : Nat} {sr : Nat} {sn : Nat} {n : Nat} {N : Nat} {t : Nat} {rmy : Int32} {rpt : Int32} {sta : Int32} {pt : Int32} {ou : Int32} {si : Int32} {en : Int32} {w0 : Int32} {w1 : Int32} {br : Int32} {cr : Int32} {pf : Int32} {kt : Int32} {kc : Int32} {sd : Int32} {ha : Int64} {r : Nat → Int32} {x : Int32} {k : Nat} (h5 : N ≤ 5) (hkv : mV k) (hyes : mIn x 0 (1 <<< (nI N &&& 31) - 1) = true) (hN0 : 0 < N) : zMi l yX5_breath wsX5_breath rm_c_X5_breath_yes D cA [(m0, .inr (5, [.ref pg, .int (nI n), .ref rd, .int rmy, .int rpt, .int sta, .int (nI N), .int pt, .int (nI k), .int ou, .int si, .int en, .int w0, .int w1, .int br, .int cr, .ref ro, .ref fa, .ref wo, .ref ah, .int pf, .int (nI t), .ref he, .ref wy, .ref on_, .ref pa, .ref kr, .ref kn, .ref kh, .int kt, .int kc, .int sd, .ref sr, .ref sn, .long ha])), (ro, .inl (cA, 15, .inl r))] [.ref m0, .int x] (fun (ret_ : Int32) (u : Nat × Int32 × Int32 × Int32 × Int32 × Int32 × Int32 × (Nat → Int32)) => ret_ = mMany N r ou x k ∧ u = mGoes N pt x k ou si en w0 w1 br r) (fun (u : Nat × Int32 × Int32 × Int32 × Int32 × Int32 × Int32 × (Nat → Int32)) => [(m0, .inr (5, [.ref pg, .int (nI n), .ref rd, .int rmy, .int rpt, .int sta, .int (nI N), .int pt, .int (nI u.1), .int u.2.1, .int u.2.2.1, .int u.2.2.2.1, .int u.2.2.2.2.1, .int u.2.2.2.2.2.1, .int u.2.2.2.2.2.2.1, .int cr, .ref ro, .ref fa, .ref wo, .ref ah, .int pf, .int (nI t), .ref he, .ref wy, .ref on_, .ref pa, .ref kr, .ref kn, .ref kh, .int kt, .int kc, .int sd, .ref sr, .ref sn, .long ha])), (ro, .inl (cA, 15, .inl u.2.2.2.2.2.2.2))]) := by
  refine z_enteri (cc := cX5_breath) (maxL := 2) (ty := .int) (by decide) rfl (Nat.le_of_ble_eq_true rfl) (fun p e s m args below meth c ls A H0 H locs Q hi_ hA hK hP hD hS hl hret => ?_)
  obtain ⟨hx, hb, hr, hml, hown, hts, hlocks, hN⟩ := hi_
  have hl : lv_has ls 2 [(0, .ref m0), (1, .int x)] := hl
  have hiX5 : ∀ w ∈ wsX50, w ∈ wsX5_breath := by decide +kernel
  refine lv_iload_n hx hb dX5_breath_0 rfl (lv_at hl 1 rfl) ?_
  refine lv_i2l hx hb dX5_breath_1 rfl ?_
  refine lv_lconst (v := 0) hx hb dX5_breath_2 (by decide) ?_
  refine lv_iconst (v := 1) hx hb dX5_breath_3 (by decide) ?_
  refine lv_aload_n hx hb dX5_breath_4 rfl (lv_at hl 0 rfl) ?_
  refine va_get (D := D) (ci := 5) (v := .int (nI N)) (C := RX5) (T := TX5) (N := 35) hx hb hts hiX5 hown hK hP 0 rfl rfl 6 (by decide) (hts (.fieldLink RX5 94 "HeardSecondModel" "seats" "I") (by decide +kernel)) (fun _ h9 => h9) rfl dX5_breath_5 ?_
  refine lv_ishl hx hb dX5_breath_8 ?_
  refine lv_iconst (v := 1) hx hb dX5_breath_9 (by decide) ?_
  refine lv_isub hx hb dX5_breath_10 ?_
  refine lv_i2l hx hb dX5_breath_11 rfl ?_
  refine z_bri (z_runS (As := [.long (Int32.toInt64 x), .long 0, .long (Int32.toInt64 ((1 <<< ((nI N) &&& 31)) - 1))]) (rest := []) ⟨hx, hb, hml, hown, hts⟩ (c_X5_in (x := Int32.toInt64 x) (lo := 0) (hi := Int32.toInt64 ((1 <<< ((nI N) &&& 31)) - 1)) _) (va_cwS 3 hts gX5_breath_X5_in rfl rfl rfl (by decide +kernel) ⟨Nat.le_of_ble_eq_true rfl, Nat.le_of_ble_eq_true rfl⟩) hK hP hD hN [] rfl rfl rfl hl.1 rfl (Nat.le_of_ble_eq_true rfl) dX5_breath_12 ⟨Nat.zero_le _, Nat.zero_le _⟩) hP hD hS hA [] rfl (fun r_2 u_3 H locs hq_1 hP hS => ?_)
  obtain rfl : r_2 = bI (decide (0 ≤ (Int32.toInt64 x)) && decide ((Int32.toInt64 x) ≤ (Int32.toInt64 ((1 <<< ((nI N) &&& 31)) - 1)))) := hq_1
  refine z_top (y := bI (mIn x 0 (1 <<< (nI N &&& 31) - 1))) (z_in64 rfl rfl) ?_
  refine lv_if_ne (tgt := 21) hx hb dX5_breath_15 (by decide) (fun c15_4 => ?_) (fun c15_4 => ?_)
  · skip
    have c15_4 := bI_n0.mp c15_4
    refine lv_aload_n hx hb dX5_breath_21 rfl (lv_at hl 0 rfl) ?_
    refine z_bri (z_runV (As := []) (rest := []) (ci := 5) ⟨hx, hb, hml, hown, hts⟩ (c_X5_lacks (m0 := m0) (pg := pg) (rd := rd) (ro := ro) (fa := fa) (wo := wo) (ah := ah) (he := he) (wy := wy) (on_ := on_) (pa := pa) (kr := kr) (kn := kn) (kh := kh) (sr := sr) (sn := sn) (n := n) (N := N) (t := t) (rmy := rmy) (rpt := rpt) (sta := sta) (pt := pt) (nw := nI k) (ou := ou) (si := si) (en := en) (w0 := w0) (w1 := w1) (br := br) (cr := cr) (pf := pf) (kt := kt) (kc := kc) (sd := sd) (ha := ha) (by first | assumption | omega) _) (cwV 0 hts gX5_breath_X5_lacks rfl rfl rfl (by decide +kernel) ⟨Nat.le_of_ble_eq_true rfl, Nat.le_of_ble_eq_true rfl⟩) hK hP hD hN [0] rfl rfl rfl rfl rfl hl.1 rfl (Nat.le_of_ble_eq_true rfl) dX5_breath_22 ⟨Nat.zero_le _, Nat.zero_le _⟩) hP hD hS hA [0] rfl (fun r_6 u_7 H locs hq_5 hP hS => ?_)
    obtain rfl : r_6 = bI (decide (N = 0)) := hq_5
    refine lv_if_eq (tgt := 33) hx hb dX5_breath_25 (by decide) (fun c25_8 => ?_) (fun c25_8 => ?_)
    · skip
      have c25_8 := bI_0.mp c25_8
      refine lv_aload_n hx hb dX5_breath_33 rfl (lv_at hl 0 rfl) ?_
      refine lv_iload_n hx hb dX5_breath_34 rfl (lv_at hl 1 rfl) ?_
      refine z_bwi (wr := []) (ws' := fun u_11 => [(m0, .inr (5, [.ref pg, .int (nI n), .ref rd, .int rmy, .int rpt, .int sta, .int (nI N), .int pt, .int (nI u_11.1), .int u_11.2.1, .int u_11.2.2.1, .int u_11.2.2.2.1, .int u_11.2.2.2.2.1, .int u_11.2.2.2.2.2.1, .int u_11.2.2.2.2.2.2.1, .int cr, .ref ro, .ref fa, .ref wo, .ref ah, .int pf, .int (nI t), .ref he, .ref wy, .ref on_, .ref pa, .ref kr, .ref kn, .ref kh, .int kt, .int kc, .int sd, .ref sr, .ref sn, .long ha])), (ro, .inl (cA, 15, .inl u_11.2.2.2.2.2.2.2))]) (z_runV (As := [.int x]) (rest := []) (ci := 5) ⟨hx, hb, hml, hown, hts⟩ (c_X5_goesBy (m0 := m0) (pg := pg) (rd := rd) (ro := ro) (fa := fa) (wo := wo) (ah := ah) (he := he) (wy := wy) (on_ := on_) (pa := pa) (kr := kr) (kn := kn) (kh := kh) (sr := sr) (sn := sn) (n := n) (N := N) (t := t) (rmy := rmy) (rpt := rpt) (sta := sta) (pt := pt) (ou := ou) (si := si) (en := en) (w0 := w0) (w1 := w1) (br := br) (cr := cr) (pf := pf) (kt := kt) (kc := kc) (sd := sd) (ha := ha) (r := r) (who := x) (k := k) (by first | assumption | omega) (by first | assumption | omega) _) (cwV 1 hts gX5_breath_X5_goesBy rfl rfl rfl (by decide +kernel) ⟨Nat.le_of_ble_eq_true rfl, Nat.le_of_ble_eq_true rfl⟩) hK hP hD hN [0, 1] rfl rfl rfl rfl rfl hl.1 rfl (Nat.le_of_ble_eq_true rfl) dX5_breath_35 ⟨Nat.zero_le _, Nat.zero_le _⟩) hP hD hS hA [0, 1] [] [0, 1] rfl rfl rfl (by decide) rfl (fun _ => rfl) (fun r_10 u_11 H locs hq_9 hP hD hS => ?_)
      obtain ⟨rfl, rfl⟩ : r_10 = mMany N r ou x k ∧ u_11 = mGoes N pt x k ou si en w0 w1 br r := hq_9
      have hP : va_P D vwCl [(m0, .inr (5, [.ref pg, .int (nI n), .ref rd, .int rmy, .int rpt, .int sta, .int (nI N), .int pt, .int (nI (mGoes N pt x k ou si en w0 w1 br r).1), .int ((mGoes N pt x k ou si en w0 w1 br r).2.1), .int ((mGoes N pt x k ou si en w0 w1 br r).2.2.1), .int ((mGoes N pt x k ou si en w0 w1 br r).2.2.2.1), .int ((mGoes N pt x k ou si en w0 w1 br r).2.2.2.2.1), .int ((mGoes N pt x k ou si en w0 w1 br r).2.2.2.2.2.1), .int ((mGoes N pt x k ou si en w0 w1 br r).2.2.2.2.2.2.1), .int cr, .ref ro, .ref fa, .ref wo, .ref ah, .int pf, .int (nI t), .ref he, .ref wy, .ref on_, .ref pa, .ref kr, .ref kn, .ref kh, .int kt, .int kc, .int sd, .ref sr, .ref sn, .long ha])), (ro, .inl (cA, 15, .inl ((mGoes N pt x k ou si en w0 w1 br r).2.2.2.2.2.2.2)))] H := hP
      have hD : va_D A [(m0, .inr (5, [.ref pg, .int (nI n), .ref rd, .int rmy, .int rpt, .int sta, .int (nI N), .int pt, .int (nI (mGoes N pt x k ou si en w0 w1 br r).1), .int ((mGoes N pt x k ou si en w0 w1 br r).2.1), .int ((mGoes N pt x k ou si en w0 w1 br r).2.2.1), .int ((mGoes N pt x k ou si en w0 w1 br r).2.2.2.1), .int ((mGoes N pt x k ou si en w0 w1 br r).2.2.2.2.1), .int ((mGoes N pt x k ou si en w0 w1 br r).2.2.2.2.2.1), .int ((mGoes N pt x k ou si en w0 w1 br r).2.2.2.2.2.2.1), .int cr, .ref ro, .ref fa, .ref wo, .ref ah, .int pf, .int (nI t), .ref he, .ref wy, .ref on_, .ref pa, .ref kr, .ref kn, .ref kh, .int kt, .int kc, .int sd, .ref sr, .ref sn, .long ha])), (ro, .inl (cA, 15, .inl ((mGoes N pt x k ou si en w0 w1 br r).2.2.2.2.2.2.2)))] := hD
      -- path 1
      exact hret (mMany N r ou x k) ((mGoes N pt x k ou si en w0 w1 br r).1, ((mGoes N pt x k ou si en w0 w1 br r).2.1, ((mGoes N pt x k ou si en w0 w1 br r).2.2.1, ((mGoes N pt x k ou si en w0 w1 br r).2.2.2.1, ((mGoes N pt x k ou si en w0 w1 br r).2.2.2.2.1, ((mGoes N pt x k ou si en w0 w1 br r).2.2.2.2.2.1, ((mGoes N pt x k ou si en w0 w1 br r).2.2.2.2.2.2.1, (mGoes N pt x k ou si en w0 w1 br r).2.2.2.2.2.2.2))))))) _ _ _ _ dX5_breath_38 (rfl) (by clear hret hl hS hD hP hK hA hN hts hx hb hr hml hown hlocks hiX5; exact ⟨rfl, rfl⟩) hP hD hS
    · skip
      have c25_8 := bI_n0.mp c25_8
      exact absurd (of_decide_eq_true c25_8) (by omega)
  · skip
    have c15_4 := bI_0.mp c15_4
    exact absurd (hyes.symm.trans c15_4) (by decide)
