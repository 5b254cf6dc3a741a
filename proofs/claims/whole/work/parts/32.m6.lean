abbrev rm_c_X5_rowsOf : Room := { frames := 2, cells := 0, slots := 0, locals := 50 }
set_option maxHeartbeats 1000000 in
set_option maxRecDepth 20000 in
theorem c_X5_rowsOf {l : Launch} {D : va_G} {cA : ClassId} {m0 : Nat} {pg : Nat} {rd : Nat} {ro : Nat} {fa : Nat} {wo : Nat} {ah : Nat} {he : Nat} {wy : Nat} {on_ : Nat} {pa : Nat} {kr : Nat} {kn : Nat} {kh : Nat} {sr : Nat} {sn : Nat} {n : Nat} {N : Nat} {t : Nat} {rmy : Int32} {rpt : Int32} {sta : Int32} {pt : Int32} {ou : Int32} {si : Int32} {en : Int32} {w0 : Int32} {w1 : Int32} {br : Int32} {cr : Int32} {pf : Int32} {kt : Int32} {kc : Int32} {sd : Int32} {ha : Int64} {r : Nat → Int32} {he_ : Nat → Int32} {y : Nat → Int32} {z : Nat → Int32} {k0 : Nat} {nb : Nat} {wh : Int32} (h5 : N ≤ 5) (ht : t ≤ 8) (hk0 : k0 < 64) (hnb : nb ≤ 6) : zMi l yX5_rowsOf wsX5_rowsOf rm_c_X5_rowsOf D cA [(m0, .inr (5, [.ref pg, .int (nI n), .ref rd, .int rmy, .int rpt, .int sta, .int (nI N), .int pt, .int (nI k0), .int ou, .int si, .int en, .int w0, .int w1, .int br, .int cr, .ref ro, .ref fa, .ref wo, .ref ah, .int pf, .int (nI t), .ref he, .ref wy, .ref on_, .ref pa, .ref kr, .ref kn, .ref kh, .int kt, .int kc, .int sd, .ref sr, .ref sn, .long ha])), (ro, .inl (cA, 15, .inl r)), (he, .inl (cA, 16, .inl he_)), (wy, .inl (cA, 448, .inl y)), (on_, .inl (cA, 448, .inl z))] [.ref m0, .int (nI nb), .int wh] (fun (ret_ : Int32) (u : (Nat → Int32) × (Nat → Int32)) => ret_ = mRowsV r N ou he_ t k0 nb wh) (fun (u : (Nat → Int32) × (Nat → Int32)) => [(m0, .inr (5, [.ref pg, .int (nI n), .ref rd, .int rmy, .int rpt, .int sta, .int (nI N), .int pt, .int (nI k0), .int ou, .int si, .int en, .int w0, .int w1, .int br, .int cr, .ref ro, .ref fa, .ref wo, .ref ah, .int pf, .int (nI t), .ref he, .ref wy, .ref on_, .ref pa, .ref kr, .ref kn, .ref kh, .int kt, .int kc, .int sd, .ref sr, .ref sn, .long ha])), (ro, .inl (cA, 15, .inl r)), (he, .inl (cA, 16, .inl he_)), (wy, .inl (cA, 448, .inl u.1)), (on_, .inl (cA, 448, .inl u.2))]) := by
  refine z_enteri (cc := cX5_rowsOf) (maxL := 8) (ty := .int) (by decide) rfl (Nat.le_of_ble_eq_true rfl) (fun p e s m args below meth c ls A H0 H locs Q hi_ hA hK hP hD hS hl hret => ?_)
  obtain ⟨hx, hb, hr, hml, hown, hts, hlocks, hN⟩ := hi_
  have hl : lv_has ls 8 [(0, .ref m0), (1, .int (nI nb)), (2, .int wh)] := hl
  have hiX5 : ∀ w ∈ wsX50, w ∈ wsX5_rowsOf := by decide +kernel
  refine lv_aload_n hx hb dX5_rowsOf_0 rfl (lv_at hl 0 rfl) ?_
  refine lv_iload_n hx hb dX5_rowsOf_1 rfl (lv_at hl 1 rfl) ?_
  refine z_bwv (wr := []) (ws' := fun (_ : Unit) => [(m0, .inr (5, [.ref pg, .int (nI n), .ref rd, .int rmy, .int rpt, .int sta, .int (nI N), .int pt, .int (nI k0), .int ou, .int si, .int en, .int w0, .int w1, .int br, .int cr, .ref ro, .ref fa, .ref wo, .ref ah, .int pf, .int (nI t), .ref he, .ref wy, .ref on_, .ref pa, .ref kr, .ref kn, .ref kh, .int kt, .int kc, .int sd, .ref sr, .ref sn, .long ha])), (ro, .inl (cA, 15, .inl r)), (he, .inl (cA, 16, .inl he_)), (wy, .inl (cA, 448, .inl (mY3 r N ou he_ t k0 nb))), (on_, .inl (cA, 448, .inl (mO3 r N ou he_ t nb nb)))]) (z_runV (As := [.int (nI nb)]) (rest := []) (ci := 5) ⟨hx, hb, hml, hown, hts⟩ (c_X5_layWays (m0 := m0) (pg := pg) (rd := rd) (ro := ro) (fa := fa) (wo := wo) (ah := ah) (he := he) (wy := wy) (on_ := on_) (pa := pa) (kr := kr) (kn := kn) (kh := kh) (sr := sr) (sn := sn) (n := n) (N := N) (t := t) (rmy := rmy) (rpt := rpt) (sta := sta) (pt := pt) (ou := ou) (si := si) (en := en) (w0 := w0) (w1 := w1) (br := br) (cr := cr) (pf := pf) (kt := kt) (kc := kc) (sd := sd) (ha := ha) (r := r) (he_ := he_) (y := y) (z := z) (k0 := k0) (nb := nb) (by first | assumption | omega) (by first | assumption | omega) (by first | assumption | omega) (by first | assumption | omega) _) (cwV 1 hts gX5_rowsOf_X5_layWays rfl rfl rfl (by decide +kernel) ⟨Nat.le_of_ble_eq_true rfl, Nat.le_of_ble_eq_true rfl⟩) hK hP hD hN [0, 1, 2, 3, 4] rfl rfl rfl rfl rfl hl.1 rfl (Nat.le_of_ble_eq_true rfl) dX5_rowsOf_2 ⟨Nat.zero_le _, Nat.zero_le _⟩) hP hD hS hA [0, 1, 2, 3, 4] [] [0, 1, 2, 3, 4] rfl rfl rfl (by decide) rfl (fun _ => rfl) (fun u_3 H locs hq_1 hP hD hS => ?_)
  have hP : va_P D vwCl [(m0, .inr (5, [.ref pg, .int (nI n), .ref rd, .int rmy, .int rpt, .int sta, .int (nI N), .int pt, .int (nI k0), .int ou, .int si, .int en, .int w0, .int w1, .int br, .int cr, .ref ro, .ref fa, .ref wo, .ref ah, .int pf, .int (nI t), .ref he, .ref wy, .ref on_, .ref pa, .ref kr, .ref kn, .ref kh, .int kt, .int kc, .int sd, .ref sr, .ref sn, .long ha])), (ro, .inl (cA, 15, .inl r)), (he, .inl (cA, 16, .inl he_)), (wy, .inl (cA, 448, .inl (mY3 r N ou he_ t k0 nb))), (on_, .inl (cA, 448, .inl (mO3 r N ou he_ t nb nb)))] H := hP
  have hD : va_D A [(m0, .inr (5, [.ref pg, .int (nI n), .ref rd, .int rmy, .int rpt, .int sta, .int (nI N), .int pt, .int (nI k0), .int ou, .int si, .int en, .int w0, .int w1, .int br, .int cr, .ref ro, .ref fa, .ref wo, .ref ah, .int pf, .int (nI t), .ref he, .ref wy, .ref on_, .ref pa, .ref kr, .ref kn, .ref kh, .int kt, .int kc, .int sd, .ref sr, .ref sn, .long ha])), (ro, .inl (cA, 15, .inl r)), (he, .inl (cA, 16, .inl he_)), (wy, .inl (cA, 448, .inl (mY3 r N ou he_ t k0 nb))), (on_, .inl (cA, 448, .inl (mO3 r N ou he_ t nb nb)))] := hD
  refine lv_iconst (v := 0) hx hb dX5_rowsOf_5 (by decide) ?_
  refine lv_istore_n (lv' := [(3, .int 0), (0, .ref m0), (1, .int (nI nb)), (2, .int wh)]) hx hb dX5_rowsOf_6 rfl hl (by decide) rfl (fun ls hl => ?_)
  refine lv_iconst (v := 0) hx hb dX5_rowsOf_7 (by decide) ?_
  refine lv_istore (lv' := [(4, .int 0), (3, .int 0), (0, .ref m0), (1, .int (nI nb)), (2, .int wh)]) hx hb dX5_rowsOf_8 hl (by decide) rfl (fun ls hl => ?_)
  refine lv_iconst (v := nI 0) hx hb dX5_rowsOf_10 (by decide) ?_
  refine lv_istore (lv' := [(5, .int (nI 0)), (4, .int 0), (3, .int 0), (0, .ref m0), (1, .int (nI nb)), (2, .int wh)]) hx hb dX5_rowsOf_11 hl (by decide) rfl (fun ls hl => ?_)
  have L13 : ∀ (n_ : Nat) (q : Nat) (sm : Int32) (wo_ : Int32) (hm_ : 65 ≤ q + n_) (hq : q ≤ 64) (h1_ : sm = mSum (mY3 r N ou he_ t k0 nb) nb q) (h2_ : wo_ = mWho (mY3 r N ou he_ t k0 nb) nb q) (H : Heap) (locs : List Loc) (ls : Array Slot), va_P D vwCl [(m0, .inr (5, [.ref pg, .int (nI n), .ref rd, .int rmy, .int rpt, .int sta, .int (nI N), .int pt, .int (nI k0), .int ou, .int si, .int en, .int w0, .int w1, .int br, .int cr, .ref ro, .ref fa, .ref wo, .ref ah, .int pf, .int (nI t), .ref he, .ref wy, .ref on_, .ref pa, .ref kr, .ref kn, .ref kh, .int kt, .int kc, .int sd, .ref sr, .ref sn, .long ha])), (ro, .inl (cA, 15, .inl r)), (he, .inl (cA, 16, .inl he_)), (wy, .inl (cA, 448, .inl (mY3 r N ou he_ t k0 nb))), (on_, .inl (cA, 448, .inl (mO3 r N ou he_ t nb nb)))] H → va_D A [(m0, .inr (5, [.ref pg, .int (nI n), .ref rd, .int rmy, .int rpt, .int sta, .int (nI N), .int pt, .int (nI k0), .int ou, .int si, .int en, .int w0, .int w1, .int br, .int cr, .ref ro, .ref fa, .ref wo, .ref ah, .int pf, .int (nI t), .ref he, .ref wy, .ref on_, .ref pa, .ref kr, .ref kn, .ref kh, .int kt, .int kc, .int sd, .ref sr, .ref sn, .long ha])), (ro, .inl (cA, 15, .inl r)), (he, .inl (cA, 16, .inl he_)), (wy, .inl (cA, 448, .inl (mY3 r N ou he_ t k0 nb))), (on_, .inl (cA, 448, .inl (mO3 r N ou he_ t nb nb)))] → va_S A H0 H locs → lv_has ls 8 [(0, .ref m0), (1, .int (nI nb)), (2, .int wh), (3, .int sm), (4, .int wo_), (5, .int (nI q))] → W p l e rm_c_X5_rowsOf s m args below meth c H locs 0 0 Q (F0 m 13 ls []) := by
    intro n_
    induction n_ with
    | zero =>
      intro q sm wo_ hm_ hq h1_ h2_
      exact absurd hm_ (by omega)
    | succ n_ ih_ =>
      intro q sm wo_ hm_ hq h1_ h2_ H locs ls hP hD hS hl
      have ih4 := ih_
      clear ih_
      refine lv_iload hx hb dX5_rowsOf_13 (lv_at hl 5 rfl) ?_
      refine lv_bipush (v := 64) hx hb dX5_rowsOf_15 (by decide) ?_
      refine lv_icmp_ge (tgt := 85) hx hb dX5_rowsOf_17 (by decide) (fun c17_5 => ?_) (fun c17_5 => ?_)
      · skip
        have ht_ : q = 64 := by have := (nI_leI (a := 64) (b := q) (by omega) (by omega)).mp c17_5; omega
        refine lv_iload_n hx hb dX5_rowsOf_85 rfl (lv_at hl 2 rfl) ?_
        refine lv_if_ne (tgt := 93) hx hb dX5_rowsOf_86 (by decide) (fun c86_6 => ?_) (fun c86_6 => ?_)
        · skip
          refine lv_iload hx hb dX5_rowsOf_93 (lv_at hl 4 rfl) ?_
          -- path 1
          exact hret (wo_) (mY3 r N ou he_ t k0 nb, mO3 r N ou he_ t nb nb) _ _ _ _ dX5_rowsOf_95 (rfl) (by clear hret hl hS hD hP hK hA hN hts hx hb hr hml hown hlocks hiX5 ih4; unfold mRowsV; first | (rw [if_pos (by assumption), h1_, ht_]; done) | (rw [if_neg (by assumption), h2_, ht_]; done)) hP hD hS
        · skip
          refine lv_iload_n hx hb dX5_rowsOf_89 rfl (lv_at hl 3 rfl) ?_
          refine lv_goto (tgt := 95) hx hb dX5_rowsOf_90 (by decide) ?_
          -- path 2
          exact hret (sm) (mY3 r N ou he_ t k0 nb, mO3 r N ou he_ t nb nb) _ _ _ _ dX5_rowsOf_95 (rfl) (by clear hret hl hS hD hP hK hA hN hts hx hb hr hml hown hlocks hiX5 ih4; unfold mRowsV; first | (rw [if_pos (by assumption), h1_, ht_]; done) | (rw [if_neg (by assumption), h2_, ht_]; done)) hP hD hS
      · skip
        have hltq : q < 64 := Nat.lt_of_not_le (fun q_ => c17_5 ((nI_leI (a := 64) (b := q) (by omega) (by omega)).mpr q_))
        refine lv_aload_n hx hb dX5_rowsOf_20 rfl (lv_at hl 0 rfl) ?_
        refine va_get (D := D) (ci := 5) (v := .ref wy) (C := RX5) (T := TX5) (N := 35) hx hb hts hiX5 hown hK hP 0 rfl rfl 23 (by decide) (hts (.fieldLink RX5 31 "HeardSecondModel" "ways" "[I") (by decide +kernel)) (fun _ h9 => h9) rfl dX5_rowsOf_21 ?_
        refine lv_bipush (v := 64) hx hb dX5_rowsOf_24 (by decide) ?_
        refine lv_iload_n hx hb dX5_rowsOf_26 rfl (lv_at hl 1 rfl) ?_
        refine lv_imul hx hb dX5_rowsOf_27 ?_
        refine lv_iload hx hb dX5_rowsOf_28 (lv_at hl 5 rfl) ?_
        refine lv_iadd hx hb dX5_rowsOf_30 ?_
        refine z_top (y := nI (64 * nb + q)) (z_64 nb q) ?_
        refine va_iald hx hb hK hP 3 0 rfl rfl (z_inN (by omega) (by decide)) dX5_rowsOf_31 ?_
        refine z_top (y := mY3 r N ou he_ t k0 nb (64 * nb + q)) (by rw [z_nat (by omega)]) ?_
        refine lv_istore (lv' := [(6, .int (mY3 r N ou he_ t k0 nb (64 * nb + q))), (0, .ref m0), (1, .int (nI nb)), (2, .int wh), (3, .int sm), (4, .int wo_), (5, .int (nI q))]) hx hb dX5_rowsOf_32 hl (by decide) rfl (fun ls hl => ?_)
        refine lv_iload hx hb dX5_rowsOf_34 (lv_at hl 6 rfl) ?_
        refine lv_bipush (v := 8) hx hb dX5_rowsOf_36 (by decide) ?_
        refine lv_idiv hx hb dX5_rowsOf_38 (by decide) ?_
        refine z_top (y := nI (q / 8)) (z_d8 q (by omega)) ?_
        refine lv_bipush (v := 7) hx hb dX5_rowsOf_39 (by decide) ?_
        refine lv_icmp_ne (tgt := 49) hx hb dX5_rowsOf_41 (by decide) (fun c41_7 => ?_) (fun c41_7 => ?_)
        · skip
          have e7_ : ¬ q / 8 = 7 := fun q_ => c41_7 (by rw [q_]; try rfl)
          refine lv_iload hx hb dX5_rowsOf_49 (lv_at hl 6 rfl) ?_
          refine lv_bipush (v := 8) hx hb dX5_rowsOf_51 (by decide) ?_
          refine lv_idiv hx hb dX5_rowsOf_53 (by decide) ?_
          refine z_top (y := nI (q / 8)) (z_d8 q (by omega)) ?_
          refine lv_istore (lv' := [(7, .int (nI (q / 8))), (6, .int (mY3 r N ou he_ t k0 nb (64 * nb + q))), (0, .ref m0), (1, .int (nI nb)), (2, .int wh), (3, .int sm), (4, .int wo_), (5, .int (nI q))]) hx hb dX5_rowsOf_54 hl (by decide) rfl (fun ls hl => ?_)
          refine lv_iload_n hx hb dX5_rowsOf_56 rfl (lv_at hl 5 rfl) ?_
          refine lv_iload hx hb dX5_rowsOf_57 (lv_at hl 1 rfl) ?_
          refine lv_iadd hx hb dX5_rowsOf_59 ?_
          refine lv_istore_n (lv' := [(3, .int (sm + (mY3 r N ou he_ t k0 nb (64 * nb + q)))), (7, .int (nI (q / 8))), (6, .int (mY3 r N ou he_ t k0 nb (64 * nb + q))), (0, .ref m0), (1, .int (nI nb)), (2, .int wh), (4, .int wo_), (5, .int (nI q))]) hx hb dX5_rowsOf_60 rfl hl (by decide) rfl (fun ls hl => ?_)
          refine lv_iload hx hb dX5_rowsOf_61 (lv_at hl 6 rfl) ?_
          refine lv_iload hx hb dX5_rowsOf_63 (lv_at hl 2 rfl) ?_
          refine lv_if_le (tgt := 75) hx hb dX5_rowsOf_65 (by decide) (fun c65_8 => ?_) (fun c65_8 => ?_)
          · skip
            refine lv_iconst (v := 0) hx hb dX5_rowsOf_75 (by decide) ?_
            refine lv_ior hx hb dX5_rowsOf_76 ?_
            refine lv_istore (lv' := [(4, .int (wo_ ||| 0)), (3, .int (sm + (mY3 r N ou he_ t k0 nb (64 * nb + q)))), (7, .int (nI (q / 8))), (6, .int (mY3 r N ou he_ t k0 nb (64 * nb + q))), (0, .ref m0), (1, .int (nI nb)), (2, .int wh), (5, .int (nI q))]) hx hb dX5_rowsOf_77 hl (by decide) rfl (fun ls hl => ?_)
            refine lv_iinc (v := nI (q + 1)) (lv' := [(5, .int (nI (q + 1))), (4, .int (wo_ ||| 0)), (3, .int (sm + (mY3 r N ou he_ t k0 nb (64 * nb + q)))), (7, .int (nI (q / 8))), (6, .int (mY3 r N ou he_ t k0 nb (64 * nb + q))), (0, .ref m0), (1, .int (nI nb)), (2, .int wh)]) hx hb dX5_rowsOf_79 hl (k := 7) rfl (nI_1 q) (by decide) rfl (fun ls hl => ?_)
            refine lv_goto (tgt := 13) hx hb dX5_rowsOf_82 (by decide) ?_
            exact ih4 (q + 1) (sm + (mY3 r N ou he_ t k0 nb (64 * nb + q))) (wo_ ||| 0) (by omega) (by first | assumption | omega) (by clear hret hl hS hD hP hK hA hN hts hx hb hr hml hown hlocks hiX5 ih4; rw [mSum, ← h1_]) (by clear hret hl hS hD hP hK hA hN hts hx hb hr hml hown hlocks hiX5 ih4; rw [mWho, ← h2_]; first | (rw [if_neg (Int32.not_lt.mpr (by assumption))]; done) | (rw [if_pos (Int32.not_le.mp (by assumption)), if_pos (by assumption)]; done) | (rw [if_pos (Int32.not_le.mp (by assumption)), if_neg (by assumption)]; done)) _ _ _ hP hD hS (lv_sub hl [5, 6, 7, 2, 1, 0] rfl)
          · skip
            refine lv_iconst (v := 1) hx hb dX5_rowsOf_68 (by decide) ?_
            refine lv_iload hx hb dX5_rowsOf_69 (lv_at hl 1 rfl) ?_
            refine lv_ishl hx hb dX5_rowsOf_71 ?_
            refine lv_goto (tgt := 76) hx hb dX5_rowsOf_72 (by decide) ?_
            refine lv_ior hx hb dX5_rowsOf_76 ?_
            refine lv_istore (lv' := [(4, .int (wo_ ||| (1 <<< ((nI (q / 8)) &&& 31)))), (3, .int (sm + (mY3 r N ou he_ t k0 nb (64 * nb + q)))), (7, .int (nI (q / 8))), (6, .int (mY3 r N ou he_ t k0 nb (64 * nb + q))), (0, .ref m0), (1, .int (nI nb)), (2, .int wh), (5, .int (nI q))]) hx hb dX5_rowsOf_77 hl (by decide) rfl (fun ls hl => ?_)
            refine lv_iinc (v := nI (q + 1)) (lv' := [(5, .int (nI (q + 1))), (4, .int (wo_ ||| (1 <<< ((nI (q / 8)) &&& 31)))), (3, .int (sm + (mY3 r N ou he_ t k0 nb (64 * nb + q)))), (7, .int (nI (q / 8))), (6, .int (mY3 r N ou he_ t k0 nb (64 * nb + q))), (0, .ref m0), (1, .int (nI nb)), (2, .int wh)]) hx hb dX5_rowsOf_79 hl (k := 7) rfl (nI_1 q) (by decide) rfl (fun ls hl => ?_)
            refine lv_goto (tgt := 13) hx hb dX5_rowsOf_82 (by decide) ?_
            exact ih4 (q + 1) (sm + (mY3 r N ou he_ t k0 nb (64 * nb + q))) (wo_ ||| (1 <<< ((nI (q / 8)) &&& 31))) (by omega) (by first | assumption | omega) (by clear hret hl hS hD hP hK hA hN hts hx hb hr hml hown hlocks hiX5 ih4; rw [mSum, ← h1_]) (by clear hret hl hS hD hP hK hA hN hts hx hb hr hml hown hlocks hiX5 ih4; rw [mWho, ← h2_]; first | (rw [if_neg (Int32.not_lt.mpr (by assumption))]; done) | (rw [if_pos (Int32.not_le.mp (by assumption)), if_pos (by assumption)]; done) | (rw [if_pos (Int32.not_le.mp (by assumption)), if_neg (by assumption)]; done)) _ _ _ hP hD hS (lv_sub hl [5, 6, 7, 2, 1, 0] rfl)
        · skip
          have e7_ := (nI_eq (a := q / 8) (b := 7) (by omega) (by omega)).mp c41_7
          refine lv_bipush (v := 6) hx hb dX5_rowsOf_44 (by decide) ?_
          refine lv_goto (tgt := 54) hx hb dX5_rowsOf_46 (by decide) ?_
          refine lv_istore (lv' := [(7, .int 6), (6, .int (mY3 r N ou he_ t k0 nb (64 * nb + q))), (0, .ref m0), (1, .int (nI nb)), (2, .int wh), (3, .int sm), (4, .int wo_), (5, .int (nI q))]) hx hb dX5_rowsOf_54 hl (by decide) rfl (fun ls hl => ?_)
          refine lv_iload_n hx hb dX5_rowsOf_56 rfl (lv_at hl 5 rfl) ?_
          refine lv_iload hx hb dX5_rowsOf_57 (lv_at hl 1 rfl) ?_
          refine lv_iadd hx hb dX5_rowsOf_59 ?_
          refine lv_istore_n (lv' := [(3, .int (sm + (mY3 r N ou he_ t k0 nb (64 * nb + q)))), (7, .int 6), (6, .int (mY3 r N ou he_ t k0 nb (64 * nb + q))), (0, .ref m0), (1, .int (nI nb)), (2, .int wh), (4, .int wo_), (5, .int (nI q))]) hx hb dX5_rowsOf_60 rfl hl (by decide) rfl (fun ls hl => ?_)
          refine lv_iload hx hb dX5_rowsOf_61 (lv_at hl 6 rfl) ?_
          refine lv_iload hx hb dX5_rowsOf_63 (lv_at hl 2 rfl) ?_
          refine lv_if_le (tgt := 75) hx hb dX5_rowsOf_65 (by decide) (fun c65_9 => ?_) (fun c65_9 => ?_)
          · skip
            refine lv_iconst (v := 0) hx hb dX5_rowsOf_75 (by decide) ?_
            refine lv_ior hx hb dX5_rowsOf_76 ?_
            refine lv_istore (lv' := [(4, .int (wo_ ||| 0)), (3, .int (sm + (mY3 r N ou he_ t k0 nb (64 * nb + q)))), (7, .int 6), (6, .int (mY3 r N ou he_ t k0 nb (64 * nb + q))), (0, .ref m0), (1, .int (nI nb)), (2, .int wh), (5, .int (nI q))]) hx hb dX5_rowsOf_77 hl (by decide) rfl (fun ls hl => ?_)
            refine lv_iinc (v := nI (q + 1)) (lv' := [(5, .int (nI (q + 1))), (4, .int (wo_ ||| 0)), (3, .int (sm + (mY3 r N ou he_ t k0 nb (64 * nb + q)))), (7, .int 6), (6, .int (mY3 r N ou he_ t k0 nb (64 * nb + q))), (0, .ref m0), (1, .int (nI nb)), (2, .int wh)]) hx hb dX5_rowsOf_79 hl (k := 7) rfl (nI_1 q) (by decide) rfl (fun ls hl => ?_)
            refine lv_goto (tgt := 13) hx hb dX5_rowsOf_82 (by decide) ?_
            exact ih4 (q + 1) (sm + (mY3 r N ou he_ t k0 nb (64 * nb + q))) (wo_ ||| 0) (by omega) (by first | assumption | omega) (by clear hret hl hS hD hP hK hA hN hts hx hb hr hml hown hlocks hiX5 ih4; rw [mSum, ← h1_]) (by clear hret hl hS hD hP hK hA hN hts hx hb hr hml hown hlocks hiX5 ih4; rw [mWho, ← h2_]; first | (rw [if_neg (Int32.not_lt.mpr (by assumption))]; done) | (rw [if_pos (Int32.not_le.mp (by assumption)), if_pos (by assumption)]; done) | (rw [if_pos (Int32.not_le.mp (by assumption)), if_neg (by assumption)]; done)) _ _ _ hP hD hS (lv_sub hl [5, 6, 7, 2, 1, 0] rfl)
          · skip
            refine lv_iconst (v := 1) hx hb dX5_rowsOf_68 (by decide) ?_
            refine lv_iload hx hb dX5_rowsOf_69 (lv_at hl 1 rfl) ?_
            refine lv_ishl hx hb dX5_rowsOf_71 ?_
            refine lv_goto (tgt := 76) hx hb dX5_rowsOf_72 (by decide) ?_
            refine lv_ior hx hb dX5_rowsOf_76 ?_
            refine lv_istore (lv' := [(4, .int (wo_ ||| ((1 : Int32) <<< ((6 : Int32) &&& 31)))), (3, .int (sm + (mY3 r N ou he_ t k0 nb (64 * nb + q)))), (7, .int 6), (6, .int (mY3 r N ou he_ t k0 nb (64 * nb + q))), (0, .ref m0), (1, .int (nI nb)), (2, .int wh), (5, .int (nI q))]) hx hb dX5_rowsOf_77 hl (by decide) rfl (fun ls hl => ?_)
            refine lv_iinc (v := nI (q + 1)) (lv' := [(5, .int (nI (q + 1))), (4, .int (wo_ ||| ((1 : Int32) <<< ((6 : Int32) &&& 31)))), (3, .int (sm + (mY3 r N ou he_ t k0 nb (64 * nb + q)))), (7, .int 6), (6, .int (mY3 r N ou he_ t k0 nb (64 * nb + q))), (0, .ref m0), (1, .int (nI nb)), (2, .int wh)]) hx hb dX5_rowsOf_79 hl (k := 7) rfl (nI_1 q) (by decide) rfl (fun ls hl => ?_)
            refine lv_goto (tgt := 13) hx hb dX5_rowsOf_82 (by decide) ?_
            exact ih4 (q + 1) (sm + (mY3 r N ou he_ t k0 nb (64 * nb + q))) (wo_ ||| ((1 : Int32) <<< ((6 : Int32) &&& 31))) (by omega) (by first | assumption | omega) (by clear hret hl hS hD hP hK hA hN hts hx hb hr hml hown hlocks hiX5 ih4; rw [mSum, ← h1_]) (by clear hret hl hS hD hP hK hA hN hts hx hb hr hml hown hlocks hiX5 ih4; rw [mWho, ← h2_]; first | (rw [if_neg (Int32.not_lt.mpr (by assumption))]; done) | (rw [if_pos (Int32.not_le.mp (by assumption)), if_pos (by assumption)]; done) | (rw [if_pos (Int32.not_le.mp (by assumption)), if_neg (by assumption)]; done)) _ _ _ hP hD hS (lv_sub hl [5, 6, 7, 2, 1, 0] rfl)
  exact L13 65 0 0 0 (by omega) (by first | assumption | omega) (by rfl) (by rfl) _ _ _ hP hD hS (lv_sub hl [3, 4, 5, 2, 1, 0] rfl)
abbrev rm_c_X5_rows : Room := { frames := 3, cells := 0, slots := 0, locals := 77 }
set_option maxHeartbeats 1000000 in
set_option maxRecDepth 20000 in
theorem c_X5_rows {l : Launch} {D : va_G} {cA : ClassId} {m0 : Nat} {pg : Nat} {rd : Nat} {ro : Nat} {fa : Nat} {wo : Nat} {ah : Nat} {he : Nat} {wy : Nat} {on_ : Nat} {pa : Nat} {kr : Nat} {kn : Nat} {kh : Nat} {sr : Nat} {sn : Nat} {n : Nat} {N : Nat} {t : Nat} {rmy : Int32} {rpt : Int32} {sta : Int32} {pt : Int32} {ou : Int32} {si : Int32} {en : Int32} {w0 : Int32} {w1 : Int32} {br : Int32} {cr : Int32} {pf : Int32} {kt : Int32} {kc : Int32} {sd : Int32} {ha : Int64} {r : Nat → Int32} {he_ : Nat → Int32} {y : Nat → Int32} {z : Nat → Int32} {k0 : Nat} {b : Int32} {wh : Int32} (h5 : N ≤ 5) (ht : t ≤ 8) (hk0 : k0 < 64) : zMi l yX5_rows wsX5_rows rm_c_X5_rows D cA [(m0, .inr (5, [.ref pg, .int (nI n), .ref rd, .int rmy, .int rpt, .int sta, .int (nI N), .int pt, .int (nI k0), .int ou, .int si, .int en, .int w0, .int w1, .int br, .int cr, .ref ro, .ref fa, .ref wo, .ref ah, .int pf, .int (nI t), .ref he, .ref wy, .ref on_, .ref pa, .ref kr, .ref kn, .ref kh, .int kt, .int kc, .int sd, .ref sr, .ref sn, .long ha])), (ro, .inl (cA, 15, .inl r)), (he, .inl (cA, 16, .inl he_)), (wy, .inl (cA, 448, .inl y)), (on_, .inl (cA, 448, .inl z))] [.ref m0, .int b, .int wh] (fun (ret_ : Int32) (u : (Nat → Int32) × (Nat → Int32)) => ret_ = mRowsR r N ou he_ t k0 b wh) (fun (u : (Nat → Int32) × (Nat → Int32)) => [(m0, .inr (5, [.ref pg, .int (nI n), .ref rd, .int rmy, .int rpt, .int sta, .int (nI N), .int pt, .int (nI k0), .int ou, .int si, .int en, .int w0, .int w1, .int br, .int cr, .ref ro, .ref fa, .ref wo, .ref ah, .int pf, .int (nI t), .ref he, .ref wy, .ref on_, .ref pa, .ref kr, .ref kn, .ref kh, .int kt, .int kc, .int sd, .ref sr, .ref sn, .long ha])), (ro, .inl (cA, 15, .inl r)), (he, .inl (cA, 16, .inl he_)), (wy, .inl (cA, 448, .inl u.1)), (on_, .inl (cA, 448, .inl u.2))]) := by
  refine z_enteri (cc := cX5_rows) (maxL := 3) (ty := .int) (by decide) rfl (Nat.le_of_ble_eq_true rfl) (fun p e s m args below meth c ls A H0 H locs Q hi_ hA hK hP hD hS hl hret => ?_)
  obtain ⟨hx, hb, hr, hml, hown, hts, hlocks, hN⟩ := hi_
  have hl : lv_has ls 3 [(0, .ref m0), (1, .int b), (2, .int wh)] := hl
  refine lv_iload_n hx hb dX5_rows_0 rfl (lv_at hl 1 rfl) ?_
  refine lv_i2l hx hb dX5_rows_1 rfl ?_
  refine lv_lconst (v := 0) hx hb dX5_rows_2 (by decide) ?_
  refine lv_ldc2 (v := 6) hx hb hown (hts (.constantLong RX5 179 (6)) (by decide +kernel)) dX5_rows_3 ?_
  refine z_bri (z_runS (As := [.long (Int32.toInt64 b), .long 0, .long 6]) (rest := []) ⟨hx, hb, hml, hown, hts⟩ (c_X5_in (x := Int32.toInt64 b) (lo := 0) (hi := 6) _) (va_cwS 3 hts gX5_rows_X5_in rfl rfl rfl (by decide +kernel) ⟨Nat.le_of_ble_eq_true rfl, Nat.le_of_ble_eq_true rfl⟩) hK hP hD hN [] rfl rfl rfl hl.1 rfl (Nat.le_of_ble_eq_true rfl) dX5_rows_6 ⟨Nat.zero_le _, Nat.zero_le _⟩) hP hD hS hA [] rfl (fun r_2 u_3 H locs hq_1 hP hS => ?_)
  obtain rfl : r_2 = bI (decide (0 ≤ (Int32.toInt64 b)) && decide ((Int32.toInt64 b) ≤ 6)) := hq_1
  refine z_top (y := bI (mIn b 0 6)) (z_in64 rfl rfl) ?_
  refine lv_if_eq (tgt := 22) hx hb dX5_rows_9 (by decide) (fun c9_4 => ?_) (fun c9_4 => ?_)
  · skip
    have c9_4 := bI_0.mp c9_4
    refine lv_bipush (v := (-102)) hx hb dX5_rows_22 (by decide) ?_
    -- path 1
    exact hret ((-102)) (y, z) _ _ _ _ dX5_rows_24 (rfl) (by clear hret hl hS hD hP hK hA hN hts hx hb hr hml hown hlocks ; unfold mRowsR; first | (rw [z_nat (by omega)]; simp_all; done) | (simp_all; done)) hP hD hS
  · skip
    have c9_4 := bI_n0.mp c9_4
    refine lv_iload_n hx hb dX5_rows_12 rfl (lv_at hl 2 rfl) ?_
    refine lv_i2l hx hb dX5_rows_13 rfl ?_
    refine lv_lconst (v := 0) hx hb dX5_rows_14 (by decide) ?_
    refine lv_lconst (v := 1) hx hb dX5_rows_15 (by decide) ?_
    refine z_bri (z_runS (As := [.long (Int32.toInt64 wh), .long 0, .long 1]) (rest := []) ⟨hx, hb, hml, hown, hts⟩ (c_X5_in (x := Int32.toInt64 wh) (lo := 0) (hi := 1) _) (va_cwS 3 hts gX5_rows_X5_in rfl rfl rfl (by decide +kernel) ⟨Nat.le_of_ble_eq_true rfl, Nat.le_of_ble_eq_true rfl⟩) hK hP hD hN [] rfl rfl rfl hl.1 rfl (Nat.le_of_ble_eq_true rfl) dX5_rows_16 ⟨Nat.zero_le _, Nat.zero_le _⟩) hP hD hS hA [] rfl (fun r_6 u_7 H locs hq_5 hP hS => ?_)
    obtain rfl : r_6 = bI (decide (0 ≤ (Int32.toInt64 wh)) && decide ((Int32.toInt64 wh) ≤ 1)) := hq_5
    refine z_top (y := bI (mIn wh 0 1)) (z_in64 rfl rfl) ?_
    refine lv_if_ne (tgt := 25) hx hb dX5_rows_19 (by decide) (fun c19_8 => ?_) (fun c19_8 => ?_)
    · skip
      have c19_8 := bI_n0.mp c19_8
      refine lv_aload_n hx hb dX5_rows_25 rfl (lv_at hl 0 rfl) ?_
      refine z_bri (z_runV (As := []) (rest := []) (ci := 5) ⟨hx, hb, hml, hown, hts⟩ (c_X5_lacks (m0 := m0) (pg := pg) (rd := rd) (ro := ro) (fa := fa) (wo := wo) (ah := ah) (he := he) (wy := wy) (on_ := on_) (pa := pa) (kr := kr) (kn := kn) (kh := kh) (sr := sr) (sn := sn) (n := n) (N := N) (t := t) (rmy := rmy) (rpt := rpt) (sta := sta) (pt := pt) (nw := nI k0) (ou := ou) (si := si) (en := en) (w0 := w0) (w1 := w1) (br := br) (cr := cr) (pf := pf) (kt := kt) (kc := kc) (sd := sd) (ha := ha) (by first | assumption | omega) _) (cwV 0 hts gX5_rows_X5_lacks rfl rfl rfl (by decide +kernel) ⟨Nat.le_of_ble_eq_true rfl, Nat.le_of_ble_eq_true rfl⟩) hK hP hD hN [0] rfl rfl rfl rfl rfl hl.1 rfl (Nat.le_of_ble_eq_true rfl) dX5_rows_26 ⟨Nat.zero_le _, Nat.zero_le _⟩) hP hD hS hA [0] rfl (fun r_10 u_11 H locs hq_9 hP hS => ?_)
      obtain rfl : r_10 = bI (decide (N = 0)) := hq_9
      refine lv_if_eq (tgt := 37) hx hb dX5_rows_29 (by decide) (fun c29_12 => ?_) (fun c29_12 => ?_)
      · skip
        have c29_12 := bI_0.mp c29_12
        obtain ⟨b_, hb1_, hb6_, rfl⟩ : ∃ k : Nat, 0 ≤ k ∧ k ≤ 6 ∧ b = nI k := mIn_rng0 (by assumption)
        refine lv_aload_n hx hb dX5_rows_37 rfl (lv_at hl 0 rfl) ?_
        refine lv_iload_n hx hb dX5_rows_38 rfl (lv_at hl 1 rfl) ?_
        refine lv_iload_n hx hb dX5_rows_39 rfl (lv_at hl 2 rfl) ?_
        refine z_bwi (wr := []) (ws' := fun u_15 => [(m0, .inr (5, [.ref pg, .int (nI n), .ref rd, .int rmy, .int rpt, .int sta, .int (nI N), .int pt, .int (nI k0), .int ou, .int si, .int en, .int w0, .int w1, .int br, .int cr, .ref ro, .ref fa, .ref wo, .ref ah, .int pf, .int (nI t), .ref he, .ref wy, .ref on_, .ref pa, .ref kr, .ref kn, .ref kh, .int kt, .int kc, .int sd, .ref sr, .ref sn, .long ha])), (ro, .inl (cA, 15, .inl r)), (he, .inl (cA, 16, .inl he_)), (wy, .inl (cA, 448, .inl u_15.1)), (on_, .inl (cA, 448, .inl u_15.2))]) (z_runV (As := [.int (nI b_), .int wh]) (rest := []) (ci := 5) ⟨hx, hb, hml, hown, hts⟩ (c_X5_rowsOf (m0 := m0) (pg := pg) (rd := rd) (ro := ro) (fa := fa) (wo := wo) (ah := ah) (he := he) (wy := wy) (on_ := on_) (pa := pa) (kr := kr) (kn := kn) (kh := kh) (sr := sr) (sn := sn) (n := n) (N := N) (t := t) (rmy := rmy) (rpt := rpt) (sta := sta) (pt := pt) (ou := ou) (si := si) (en := en) (w0 := w0) (w1 := w1) (br := br) (cr := cr) (pf := pf) (kt := kt) (kc := kc) (sd := sd) (ha := ha) (r := r) (he_ := he_) (y := y) (z := z) (k0 := k0) (nb := b_) (wh := wh) (by first | assumption | omega) (by first | assumption | omega) (by first | assumption | omega) (by first | assumption | omega) _) (cwV 2 hts gX5_rows_X5_rowsOf rfl rfl rfl (by decide +kernel) ⟨Nat.le_of_ble_eq_true rfl, Nat.le_of_ble_eq_true rfl⟩) hK hP hD hN [0, 1, 2, 3, 4] rfl rfl rfl rfl rfl hl.1 rfl (Nat.le_of_ble_eq_true rfl) dX5_rows_40 ⟨Nat.zero_le _, Nat.zero_le _⟩) hP hD hS hA [0, 1, 2, 3, 4] [] [0, 1, 2, 3, 4] rfl rfl rfl (by decide) rfl (fun _ => rfl) (fun r_14 u_15 H locs hq_13 hP hD hS => ?_)
        obtain rfl : r_14 = mRowsV r N ou he_ t k0 b_ wh := hq_13
        have hP : va_P D vwCl [(m0, .inr (5, [.ref pg, .int (nI n), .ref rd, .int rmy, .int rpt, .int sta, .int (nI N), .int pt, .int (nI k0), .int ou, .int si, .int en, .int w0, .int w1, .int br, .int cr, .ref ro, .ref fa, .ref wo, .ref ah, .int pf, .int (nI t), .ref he, .ref wy, .ref on_, .ref pa, .ref kr, .ref kn, .ref kh, .int kt, .int kc, .int sd, .ref sr, .ref sn, .long ha])), (ro, .inl (cA, 15, .inl r)), (he, .inl (cA, 16, .inl he_)), (wy, .inl (cA, 448, .inl u_15.1)), (on_, .inl (cA, 448, .inl u_15.2))] H := hP
        have hD : va_D A [(m0, .inr (5, [.ref pg, .int (nI n), .ref rd, .int rmy, .int rpt, .int sta, .int (nI N), .int pt, .int (nI k0), .int ou, .int si, .int en, .int w0, .int w1, .int br, .int cr, .ref ro, .ref fa, .ref wo, .ref ah, .int pf, .int (nI t), .ref he, .ref wy, .ref on_, .ref pa, .ref kr, .ref kn, .ref kh, .int kt, .int kc, .int sd, .ref sr, .ref sn, .long ha])), (ro, .inl (cA, 15, .inl r)), (he, .inl (cA, 16, .inl he_)), (wy, .inl (cA, 448, .inl u_15.1)), (on_, .inl (cA, 448, .inl u_15.2))] := hD
        -- path 2
        exact hret (mRowsV r N ou he_ t k0 b_ wh) (u_15.1, u_15.2) _ _ _ _ dX5_rows_43 (rfl) (by clear hret hl hS hD hP hK hA hN hts hx hb hr hml hown hlocks ; unfold mRowsR; first | (rw [z_nat (by omega)]; simp_all; done) | (simp_all; done)) hP hD hS
      · skip
        have c29_12 := bI_n0.mp c29_12
        refine lv_bipush (v := (-103)) hx hb dX5_rows_32 (by decide) ?_
        refine lv_goto (tgt := 43) hx hb dX5_rows_34 (by decide) ?_
        -- path 3
        exact hret ((-103)) (y, z) _ _ _ _ dX5_rows_43 (rfl) (by clear hret hl hS hD hP hK hA hN hts hx hb hr hml hown hlocks ; unfold mRowsR; first | (rw [z_nat (by omega)]; simp_all; done) | (simp_all; done)) hP hD hS
    · skip
      have c19_8 := bI_0.mp c19_8
      refine lv_bipush (v := (-102)) hx hb dX5_rows_22 (by decide) ?_
      -- path 4
      exact hret ((-102)) (y, z) _ _ _ _ dX5_rows_24 (rfl) (by clear hret hl hS hD hP hK hA hN hts hx hb hr hml hown hlocks ; unfold mRowsR; first | (rw [z_nat (by omega)]; simp_all; done) | (simp_all; done)) hP hD hS
abbrev rm_c_X5_whenOf : Room := { frames := 2, cells := 0, slots := 0, locals := 50 }
set_option maxHeartbeats 2000000 in
set_option maxRecDepth 20000 in
theorem c_X5_whenOf {l : Launch} {D : va_G} {cA : ClassId} {m0 : Nat} {pg : Nat} {rd : Nat} {ro : Nat} {fa : Nat} {wo : Nat} {ah : Nat} {he : Nat} {wy : Nat} {on_ : Nat} {pa : Nat} {kr : Nat} {kn : Nat} {kh : Nat} {sr : Nat} {sn : Nat} {n : Nat} {N : Nat} {t : Nat} {rmy : Int32} {rpt : Int32} {sta : Int32} {pt : Int32} {ou : Int32} {si : Int32} {en : Int32} {w0 : Int32} {w1 : Int32} {br : Int32} {cr : Int32} {pf : Int32} {kt : Int32} {kc : Int32} {sd : Int32} {ha : Int64} {r : Nat → Int32} {he_ : Nat → Int32} {y : Nat → Int32} {z : Nat → Int32} {v_ : Nat → Int32} {k0 : Nat} (h5 : N ≤ 5) (ht : t ≤ 8) (hk0 : k0 < 64) : zMi l yX5_whenOf wsX5_whenOf rm_c_X5_whenOf D cA [(m0, .inr (5, [.ref pg, .int (nI n), .ref rd, .int rmy, .int rpt, .int sta, .int (nI N), .int pt, .int (nI k0), .int ou, .int si, .int en, .int w0, .int w1, .int br, .int cr, .ref ro, .ref fa, .ref wo, .ref ah, .int pf, .int (nI t), .ref he, .ref wy, .ref on_, .ref pa, .ref kr, .ref kn, .ref kh, .int kt, .int kc, .int sd, .ref sr, .ref sn, .long ha])), (ro, .inl (cA, 15, .inl r)), (he, .inl (cA, 16, .inl he_)), (wy, .inl (cA, 448, .inl y)), (on_, .inl (cA, 448, .inl z)), (pa, .inl (cA, 8, .inl v_))] [.ref m0] (fun (ret_ : Int32) (u : (Nat → Int32) × (Nat → Int32) × (Nat → Int32)) => ret_ = mWhenV r N ou he_ t k0) (fun (u : (Nat → Int32) × (Nat → Int32) × (Nat → Int32)) => [(m0, .inr (5, [.ref pg, .int (nI n), .ref rd, .int rmy, .int rpt, .int sta, .int (nI N), .int pt, .int (nI k0), .int ou, .int si, .int en, .int w0, .int w1, .int br, .int cr, .ref ro, .ref fa, .ref wo, .ref ah, .int pf, .int (nI t), .ref he, .ref wy, .ref on_, .ref pa, .ref kr, .ref kn, .ref kh, .int kt, .int kc, .int sd, .ref sr, .ref sn, .long ha])), (ro, .inl (cA, 15, .inl r)), (he, .inl (cA, 16, .inl he_)), (wy, .inl (cA, 448, .inl u.1)), (on_, .inl (cA, 448, .inl u.2.1)), (pa, .inl (cA, 8, .inl u.2.2))]) := by
  refine z_enteri (cc := cX5_whenOf) (maxL := 6) (ty := .int) (by decide) rfl (Nat.le_of_ble_eq_true rfl) (fun p e s m args below meth c ls A H0 H locs Q hi_ hA hK hP hD hS hl hret => ?_)
  obtain ⟨hx, hb, hr, hml, hown, hts, hlocks, hN⟩ := hi_
  have hl : lv_has ls 6 [(0, .ref m0)] := hl
  have hiX5 : ∀ w ∈ wsX50, w ∈ wsX5_whenOf := by decide +kernel
  refine lv_aload_n hx hb dX5_whenOf_0 rfl (lv_at hl 0 rfl) ?_
  refine lv_bipush (v := nI 6) hx hb dX5_whenOf_1 (by decide) ?_
  refine z_bwv (wr := [(pa, .inl (cA, 8, .inl v_))]) (ws' := fun (_ : Unit) => [(m0, .inr (5, [.ref pg, .int (nI n), .ref rd, .int rmy, .int rpt, .int sta, .int (nI N), .int pt, .int (nI k0), .int ou, .int si, .int en, .int w0, .int w1, .int br, .int cr, .ref ro, .ref fa, .ref wo, .ref ah, .int pf, .int (nI t), .ref he, .ref wy, .ref on_, .ref pa, .ref kr, .ref kn, .ref kh, .int kt, .int kc, .int sd, .ref sr, .ref sn, .long ha])), (ro, .inl (cA, 15, .inl r)), (he, .inl (cA, 16, .inl he_)), (wy, .inl (cA, 448, .inl (mY3 r N ou he_ t k0 6))), (on_, .inl (cA, 448, .inl (mO3 r N ou he_ t 6 6))), (pa, .inl (cA, 8, .inl v_))]) (z_runV (As := [.int (nI 6)]) (rest := []) (ci := 5) ⟨hx, hb, hml, hown, hts⟩ (c_X5_layWays (m0 := m0) (pg := pg) (rd := rd) (ro := ro) (fa := fa) (wo := wo) (ah := ah) (he := he) (wy := wy) (on_ := on_) (pa := pa) (kr := kr) (kn := kn) (kh := kh) (sr := sr) (sn := sn) (n := n) (N := N) (t := t) (rmy := rmy) (rpt := rpt) (sta := sta) (pt := pt) (ou := ou) (si := si) (en := en) (w0 := w0) (w1 := w1) (br := br) (cr := cr) (pf := pf) (kt := kt) (kc := kc) (sd := sd) (ha := ha) (r := r) (he_ := he_) (y := y) (z := z) (k0 := k0) (nb := 6) (by first | assumption | omega) (by first | assumption | omega) (by first | assumption | omega) (by first | assumption | omega) _) (cwV 1 hts gX5_whenOf_X5_layWays rfl rfl rfl (by decide +kernel) ⟨Nat.le_of_ble_eq_true rfl, Nat.le_of_ble_eq_true rfl⟩) hK hP hD hN [0, 1, 2, 3, 4] rfl rfl rfl rfl rfl hl.1 rfl (Nat.le_of_ble_eq_true rfl) dX5_whenOf_3 ⟨Nat.zero_le _, Nat.zero_le _⟩) hP hD hS hA [0, 1, 2, 3, 4] [5] [1, 2, 3, 4, 5, 0] rfl rfl rfl (by decide) rfl (fun _ => rfl) (fun u_3 H locs hq_1 hP hD hS => ?_)
  have hP : va_P D vwCl [(m0, .inr (5, [.ref pg, .int (nI n), .ref rd, .int rmy, .int rpt, .int sta, .int (nI N), .int pt, .int (nI k0), .int ou, .int si, .int en, .int w0, .int w1, .int br, .int cr, .ref ro, .ref fa, .ref wo, .ref ah, .int pf, .int (nI t), .ref he, .ref wy, .ref on_, .ref pa, .ref kr, .ref kn, .ref kh, .int kt, .int kc, .int sd, .ref sr, .ref sn, .long ha])), (ro, .inl (cA, 15, .inl r)), (he, .inl (cA, 16, .inl he_)), (wy, .inl (cA, 448, .inl (mY3 r N ou he_ t k0 6))), (on_, .inl (cA, 448, .inl (mO3 r N ou he_ t 6 6))), (pa, .inl (cA, 8, .inl v_))] H := hP
  have hD : va_D A [(m0, .inr (5, [.ref pg, .int (nI n), .ref rd, .int rmy, .int rpt, .int sta, .int (nI N), .int pt, .int (nI k0), .int ou, .int si, .int en, .int w0, .int w1, .int br, .int cr, .ref ro, .ref fa, .ref wo, .ref ah, .int pf, .int (nI t), .ref he, .ref wy, .ref on_, .ref pa, .ref kr, .ref kn, .ref kh, .int kt, .int kc, .int sd, .ref sr, .ref sn, .long ha])), (ro, .inl (cA, 15, .inl r)), (he, .inl (cA, 16, .inl he_)), (wy, .inl (cA, 448, .inl (mY3 r N ou he_ t k0 6))), (on_, .inl (cA, 448, .inl (mO3 r N ou he_ t 6 6))), (pa, .inl (cA, 8, .inl v_))] := hD
  refine lv_iconst (v := (-1)) hx hb dX5_whenOf_6 (by decide) ?_
  refine lv_istore_n (lv' := [(1, .int (-1)), (0, .ref m0)]) hx hb dX5_whenOf_7 rfl hl (by decide) rfl (fun ls hl => ?_)
  refine lv_iconst (v := (-1)) hx hb dX5_whenOf_8 (by decide) ?_
  refine lv_istore_n (lv' := [(2, .int (-1)), (1, .int (-1)), (0, .ref m0)]) hx hb dX5_whenOf_9 rfl hl (by decide) rfl (fun ls hl => ?_)
  refine lv_iconst (v := nI 1) hx hb dX5_whenOf_10 (by decide) ?_
  refine lv_istore_n (lv' := [(3, .int (nI 1)), (2, .int (-1)), (1, .int (-1)), (0, .ref m0)]) hx hb dX5_whenOf_11 rfl hl (by decide) rfl (fun ls hl => ?_)
  have L12 : ∀ (n_ : Nat) (nn : Nat) (a : Int32) (b : Int32) (v2 : Nat → Int32) (hm_ : 8 ≤ nn + n_) (hn1 : 1 ≤ nn) (hn7 : nn ≤ 7) (hv : (a, b) = mLook (fun nn => mWorst (mParts (mY3 r N ou he_ t k0 6) (mO3 r N ou he_ t 6 6) nn 64) 8) (nn - 1)) (H : Heap) (locs : List Loc) (ls : Array Slot), va_P D vwCl [(m0, .inr (5, [.ref pg, .int (nI n), .ref rd, .int rmy, .int rpt, .int sta, .int (nI N), .int pt, .int (nI k0), .int ou, .int si, .int en, .int w0, .int w1, .int br, .int cr, .ref ro, .ref fa, .ref wo, .ref ah, .int pf, .int (nI t), .ref he, .ref wy, .ref on_, .ref pa, .ref kr, .ref kn, .ref kh, .int kt, .int kc, .int sd, .ref sr, .ref sn, .long ha])), (ro, .inl (cA, 15, .inl r)), (he, .inl (cA, 16, .inl he_)), (wy, .inl (cA, 448, .inl (mY3 r N ou he_ t k0 6))), (on_, .inl (cA, 448, .inl (mO3 r N ou he_ t 6 6))), (pa, .inl (cA, 8, .inl v2))] H → va_D A [(m0, .inr (5, [.ref pg, .int (nI n), .ref rd, .int rmy, .int rpt, .int sta, .int (nI N), .int pt, .int (nI k0), .int ou, .int si, .int en, .int w0, .int w1, .int br, .int cr, .ref ro, .ref fa, .ref wo, .ref ah, .int pf, .int (nI t), .ref he, .ref wy, .ref on_, .ref pa, .ref kr, .ref kn, .ref kh, .int kt, .int kc, .int sd, .ref sr, .ref sn, .long ha])), (ro, .inl (cA, 15, .inl r)), (he, .inl (cA, 16, .inl he_)), (wy, .inl (cA, 448, .inl (mY3 r N ou he_ t k0 6))), (on_, .inl (cA, 448, .inl (mO3 r N ou he_ t 6 6))), (pa, .inl (cA, 8, .inl v2))] → va_S A H0 H locs → lv_has ls 6 [(0, .ref m0), (1, .int a), (2, .int b), (3, .int (nI nn))] → W p l e rm_c_X5_whenOf s m args below meth c H locs 0 0 Q (F0 m 12 ls []) := by
    intro n_
    induction n_ with
    | zero =>
      intro nn a b v2 hm_ hn1 hn7 hv
      exact absurd hm_ (by omega)
    | succ n_ ih_ =>
      intro nn a b v2 hm_ hn1 hn7 hv H locs ls hP hD hS hl
      have ih4 := ih_
      clear ih_
      refine lv_iload_n hx hb dX5_whenOf_12 rfl (lv_at hl 3 rfl) ?_
      refine lv_bipush (v := 7) hx hb dX5_whenOf_13 (by decide) ?_
      refine lv_icmp_ge (tgt := 193) hx hb dX5_whenOf_15 (by decide) (fun c15_5 => ?_) (fun c15_5 => ?_)
      · skip
        have ht_ : nn = 7 := by have := (nI_leI (a := 7) (b := nn) (by omega) (by omega)).mp c15_5; omega
        refine lv_iload_n hx hb dX5_whenOf_193 rfl (lv_at hl 1 rfl) ?_
        -- path 1
        exact hret (a) (mY3 r N ou he_ t k0 6, (mO3 r N ou he_ t 6 6, v2)) _ _ _ _ dX5_whenOf_194 (rfl) (by clear hret hl hS hD hP hK hA hN hts hx hb hr hml hown hlocks hiX5 ih4; exact (congrArg Prod.fst hv).trans (by rw [show nn - 1 = 6 from by omega]; rfl)) hP hD hS
      · skip
        have hltnn : nn < 7 := Nat.lt_of_not_le (fun q_ => c15_5 ((nI_leI (a := 7) (b := nn) (by omega) (by omega)).mpr q_))
        refine lv_iconst (v := nI 0) hx hb dX5_whenOf_18 (by decide) ?_
        refine lv_istore (lv' := [(4, .int (nI 0)), (0, .ref m0), (1, .int a), (2, .int b), (3, .int (nI nn))]) hx hb dX5_whenOf_19 hl (by decide) rfl (fun ls hl => ?_)
        have L21 : ∀ (n_ : Nat) (i : Nat) (g : Nat → Int32) (hm_ : 9 ≤ i + n_) (hi : i ≤ 8) (hg : ∀ j, j < i → g j = 0) (H : Heap) (locs : List Loc) (ls : Array Slot), va_P D vwCl [(m0, .inr (5, [.ref pg, .int (nI n), .ref rd, .int rmy, .int rpt, .int sta, .int (nI N), .int pt, .int (nI k0), .int ou, .int si, .int en, .int w0, .int w1, .int br, .int cr, .ref ro, .ref fa, .ref wo, .ref ah, .int pf, .int (nI t), .ref he, .ref wy, .ref on_, .ref pa, .ref kr, .ref kn, .ref kh, .int kt, .int kc, .int sd, .ref sr, .ref sn, .long ha])), (ro, .inl (cA, 15, .inl r)), (he, .inl (cA, 16, .inl he_)), (wy, .inl (cA, 448, .inl (mY3 r N ou he_ t k0 6))), (on_, .inl (cA, 448, .inl (mO3 r N ou he_ t 6 6))), (pa, .inl (cA, 8, .inl g))] H → va_D A [(m0, .inr (5, [.ref pg, .int (nI n), .ref rd, .int rmy, .int rpt, .int sta, .int (nI N), .int pt, .int (nI k0), .int ou, .int si, .int en, .int w0, .int w1, .int br, .int cr, .ref ro, .ref fa, .ref wo, .ref ah, .int pf, .int (nI t), .ref he, .ref wy, .ref on_, .ref pa, .ref kr, .ref kn, .ref kh, .int kt, .int kc, .int sd, .ref sr, .ref sn, .long ha])), (ro, .inl (cA, 15, .inl r)), (he, .inl (cA, 16, .inl he_)), (wy, .inl (cA, 448, .inl (mY3 r N ou he_ t k0 6))), (on_, .inl (cA, 448, .inl (mO3 r N ou he_ t 6 6))), (pa, .inl (cA, 8, .inl g))] → va_S A H0 H locs → lv_has ls 6 [(0, .ref m0), (1, .int a), (2, .int b), (3, .int (nI nn)), (4, .int (nI i))] → W p l e rm_c_X5_whenOf s m args below meth c H locs 0 0 Q (F0 m 21 ls []) := by
          intro n_
          induction n_ with
          | zero =>
            intro i g hm_ hi hg
            exact absurd hm_ (by omega)
          | succ n_ ih_ =>
            intro i g hm_ hi hg H locs ls hP hD hS hl
            have ih6 := ih_
            clear ih_
            refine lv_iload hx hb dX5_whenOf_21 (lv_at hl 4 rfl) ?_
            refine lv_bipush (v := 8) hx hb dX5_whenOf_23 (by decide) ?_
            refine lv_icmp_ge (tgt := 42) hx hb dX5_whenOf_25 (by decide) (fun c25_7 => ?_) (fun c25_7 => ?_)
            · skip
              have ht_ : i = 8 := by have := (nI_leI (a := 8) (b := i) (by omega) (by omega)).mp c25_7; omega
              have hP : va_P D vwCl [(m0, .inr (5, [.ref pg, .int (nI n), .ref rd, .int rmy, .int rpt, .int sta, .int (nI N), .int pt, .int (nI k0), .int ou, .int si, .int en, .int w0, .int w1, .int br, .int cr, .ref ro, .ref fa, .ref wo, .ref ah, .int pf, .int (nI t), .ref he, .ref wy, .ref on_, .ref pa, .ref kr, .ref kn, .ref kh, .int kt, .int kc, .int sd, .ref sr, .ref sn, .long ha])), (ro, .inl (cA, 15, .inl r)), (he, .inl (cA, 16, .inl he_)), (wy, .inl (cA, 448, .inl (mY3 r N ou he_ t k0 6))), (on_, .inl (cA, 448, .inl (mO3 r N ou he_ t 6 6))), (pa, .inl (cA, 8, .inl (fun _ => 0)))] H := z_arrP hP 5 (g := (fun _ => 0)) rfl (by intro j hj; exact hg j (by omega)) rfl
              have hD : va_D A [(m0, .inr (5, [.ref pg, .int (nI n), .ref rd, .int rmy, .int rpt, .int sta, .int (nI N), .int pt, .int (nI k0), .int ou, .int si, .int en, .int w0, .int w1, .int br, .int cr, .ref ro, .ref fa, .ref wo, .ref ah, .int pf, .int (nI t), .ref he, .ref wy, .ref on_, .ref pa, .ref kr, .ref kn, .ref kh, .int kt, .int kc, .int sd, .ref sr, .ref sn, .long ha])), (ro, .inl (cA, 15, .inl r)), (he, .inl (cA, 16, .inl he_)), (wy, .inl (cA, 448, .inl (mY3 r N ou he_ t k0 6))), (on_, .inl (cA, 448, .inl (mO3 r N ou he_ t 6 6))), (pa, .inl (cA, 8, .inl (fun _ => 0)))] := z_arrD hD 5 rfl rfl
              refine lv_iconst (v := nI 0) hx hb dX5_whenOf_42 (by decide) ?_
              refine lv_istore (lv' := [(4, .int (nI 0)), (0, .ref m0), (1, .int a), (2, .int b), (3, .int (nI nn))]) hx hb dX5_whenOf_43 hl (by decide) rfl (fun ls hl => ?_)
              have L45 : ∀ (n_ : Nat) (q : Nat) (p1 : Nat → Int32) (hm_ : 65 ≤ q + n_) (hq : q ≤ 64) (hp1 : p1 = mParts (mY3 r N ou he_ t k0 6) (mO3 r N ou he_ t 6 6) nn q) (H : Heap) (locs : List Loc) (ls : Array Slot), va_P D vwCl [(m0, .inr (5, [.ref pg, .int (nI n), .ref rd, .int rmy, .int rpt, .int sta, .int (nI N), .int pt, .int (nI k0), .int ou, .int si, .int en, .int w0, .int w1, .int br, .int cr, .ref ro, .ref fa, .ref wo, .ref ah, .int pf, .int (nI t), .ref he, .ref wy, .ref on_, .ref pa, .ref kr, .ref kn, .ref kh, .int kt, .int kc, .int sd, .ref sr, .ref sn, .long ha])), (ro, .inl (cA, 15, .inl r)), (he, .inl (cA, 16, .inl he_)), (wy, .inl (cA, 448, .inl (mY3 r N ou he_ t k0 6))), (on_, .inl (cA, 448, .inl (mO3 r N ou he_ t 6 6))), (pa, .inl (cA, 8, .inl p1))] H → va_D A [(m0, .inr (5, [.ref pg, .int (nI n), .ref rd, .int rmy, .int rpt, .int sta, .int (nI N), .int pt, .int (nI k0), .int ou, .int si, .int en, .int w0, .int w1, .int br, .int cr, .ref ro, .ref fa, .ref wo, .ref ah, .int pf, .int (nI t), .ref he, .ref wy, .ref on_, .ref pa, .ref kr, .ref kn, .ref kh, .int kt, .int kc, .int sd, .ref sr, .ref sn, .long ha])), (ro, .inl (cA, 15, .inl r)), (he, .inl (cA, 16, .inl he_)), (wy, .inl (cA, 448, .inl (mY3 r N ou he_ t k0 6))), (on_, .inl (cA, 448, .inl (mO3 r N ou he_ t 6 6))), (pa, .inl (cA, 8, .inl p1))] → va_S A H0 H locs → lv_has ls 6 [(0, .ref m0), (1, .int a), (2, .int b), (3, .int (nI nn)), (4, .int (nI q))] → W p l e rm_c_X5_whenOf s m args below meth c H locs 0 0 Q (F0 m 45 ls []) := by
                intro n_
                induction n_ with
                | zero =>
                  intro q p1 hm_ hq hp1
                  exact absurd hm_ (by omega)
                | succ n_ ih_ =>
                  intro q p1 hm_ hq hp1 H locs ls hP hD hS hl
                  have ih8 := ih_
                  clear ih_
                  refine lv_iload hx hb dX5_whenOf_45 (lv_at hl 4 rfl) ?_
                  refine lv_bipush (v := 64) hx hb dX5_whenOf_47 (by decide) ?_
                  refine lv_icmp_ge (tgt := 96) hx hb dX5_whenOf_49 (by decide) (fun c49_9 => ?_) (fun c49_9 => ?_)
                  · skip
                    have ht_ : q = 64 := by have := (nI_leI (a := 64) (b := q) (by omega) (by omega)).mp c49_9; omega
                    have J141 : ∀ (ws_ : Int32) (hws : ws_ = mWorst (mParts (mY3 r N ou he_ t k0 6) (mO3 r N ou he_ t 6 6) nn 64) 8) (H : Heap) (locs : List Loc) (ls : Array Slot), va_P D vwCl [(m0, .inr (5, [.ref pg, .int (nI n), .ref rd, .int rmy, .int rpt, .int sta, .int (nI N), .int pt, .int (nI k0), .int ou, .int si, .int en, .int w0, .int w1, .int br, .int cr, .ref ro, .ref fa, .ref wo, .ref ah, .int pf, .int (nI t), .ref he, .ref wy, .ref on_, .ref pa, .ref kr, .ref kn, .ref kh, .int kt, .int kc, .int sd, .ref sr, .ref sn, .long ha])), (ro, .inl (cA, 15, .inl r)), (he, .inl (cA, 16, .inl he_)), (wy, .inl (cA, 448, .inl (mY3 r N ou he_ t k0 6))), (on_, .inl (cA, 448, .inl (mO3 r N ou he_ t 6 6))), (pa, .inl (cA, 8, .inl (mParts (mY3 r N ou he_ t k0 6) (mO3 r N ou he_ t 6 6) nn 64)))] H → va_D A [(m0, .inr (5, [.ref pg, .int (nI n), .ref rd, .int rmy, .int rpt, .int sta, .int (nI N), .int pt, .int (nI k0), .int ou, .int si, .int en, .int w0, .int w1, .int br, .int cr, .ref ro, .ref fa, .ref wo, .ref ah, .int pf, .int (nI t), .ref he, .ref wy, .ref on_, .ref pa, .ref kr, .ref kn, .ref kh, .int kt, .int kc, .int sd, .ref sr, .ref sn, .long ha])), (ro, .inl (cA, 15, .inl r)), (he, .inl (cA, 16, .inl he_)), (wy, .inl (cA, 448, .inl (mY3 r N ou he_ t k0 6))), (on_, .inl (cA, 448, .inl (mO3 r N ou he_ t 6 6))), (pa, .inl (cA, 8, .inl (mParts (mY3 r N ou he_ t k0 6) (mO3 r N ou he_ t 6 6) nn 64)))] → va_S A H0 H locs → lv_has ls 6 [(0, .ref m0), (1, .int a), (2, .int b), (3, .int (nI nn)), (4, .int ws_)] → W p l e rm_c_X5_whenOf s m args below meth c H locs 0 0 Q (F0 m 141 ls []) := by
                      intro ws_ hws H locs ls hP hD hS hl
                      refine lv_iload hx hb dX5_whenOf_141 (lv_at hl 4 rfl) ?_
                      refine lv_if_le (tgt := 161) hx hb dX5_whenOf_143 (by decide) (fun c143_10 => ?_) (fun c143_10 => ?_)
                      · skip
                        refine lv_iconst (v := 0) hx hb dX5_whenOf_161 (by decide) ?_
                        refine lv_istore (lv' := [(5, .int 0), (0, .ref m0), (1, .int a), (2, .int b), (3, .int (nI nn)), (4, .int ws_)]) hx hb dX5_whenOf_162 hl (by decide) rfl (fun ls hl => ?_)
                        refine lv_iload hx hb dX5_whenOf_164 (lv_at hl 0 rfl) ?_
                        refine lv_if_eq (tgt := 173) hx hb dX5_whenOf_166 (by decide) (fun c166_11 => ?_) (fun c166_11 => ?_)
                        · skip
                          refine lv_iload_n hx hb dX5_whenOf_173 rfl (lv_at hl 2 rfl) ?_
                          refine lv_istore_n (lv' := [(1, .int a), (5, .int 0), (0, .ref m0), (2, .int b), (3, .int (nI nn)), (4, .int ws_)]) hx hb dX5_whenOf_174 rfl hl (by decide) rfl (fun ls hl => ?_)
                          refine lv_iload hx hb dX5_whenOf_175 (lv_at hl 1 rfl) ?_
                          refine lv_if_eq (tgt := 185) hx hb dX5_whenOf_177 (by decide) (fun c177_12 => ?_) (fun c177_12 => ?_)
                          · skip
                            refine lv_iload_n hx hb dX5_whenOf_185 rfl (lv_at hl 3 rfl) ?_
                            refine lv_istore_n (lv' := [(2, .int b), (1, .int a), (5, .int 0), (0, .ref m0), (3, .int (nI nn)), (4, .int ws_)]) hx hb dX5_whenOf_186 rfl hl (by decide) rfl (fun ls hl => ?_)
                            refine lv_iinc (v := nI (nn + 1)) (lv' := [(3, .int (nI (nn + 1))), (2, .int b), (1, .int a), (5, .int 0), (0, .ref m0), (4, .int ws_)]) hx hb dX5_whenOf_187 hl (k := 4) rfl (nI_1 nn) (by decide) rfl (fun ls hl => ?_)
                            refine lv_goto (tgt := 12) hx hb dX5_whenOf_190 (by decide) ?_
                            exact ih4 (nn + 1) a b (mParts (mY3 r N ou he_ t k0 6) (mO3 r N ou he_ t 6 6) nn 64) (by omega) (by first | assumption | omega) (by first | assumption | omega) (by clear hret hl hS hD hP hK hA hN hts hx hb hr hml hown hlocks hiX5 ih4 ih6 ih8; rw [show nn + 1 - 1 = (nn - 1) + 1 from by omega, mLook, show nn - 1 + 1 = nn from by omega, ← hv, ← hws]; dsimp only; first | (rw [if_pos ⟨Int32.not_le.mp (by assumption), Or.inl (by assumption)⟩]; done) | (rw [if_pos ⟨Int32.not_le.mp (by assumption), Or.inr (Int32.not_le.mp (by assumption))⟩]; done) | (rw [if_neg (fun q_ => absurd q_.1 (Int32.not_lt.mpr (by assumption)))]; done) | (rw [if_neg (fun q_ => q_.2.elim (fun z_ => absurd z_ (by assumption)) (fun z_ => absurd z_ (Int32.not_lt.mpr (by assumption))))]; done)) _ _ _ hP hD hS (lv_sub hl [4, 2, 1, 0] rfl)
                          · skip
                            exact absurd (by decide) c177_12
                        · skip
                          exact absurd (by decide) c166_11
                      · skip
                        refine lv_iload_n hx hb dX5_whenOf_146 rfl (lv_at hl 1 rfl) ?_
                        refine lv_iconst (v := (-1)) hx hb dX5_whenOf_147 (by decide) ?_
                        refine lv_icmp_eq (tgt := 157) hx hb dX5_whenOf_148 (by decide) (fun c148_13 => ?_) (fun c148_13 => ?_)
                        · skip
                          refine lv_iconst (v := 1) hx hb dX5_whenOf_157 (by decide) ?_
                          refine lv_goto (tgt := 162) hx hb dX5_whenOf_158 (by decide) ?_
                          refine lv_istore (lv' := [(5, .int 1), (0, .ref m0), (1, .int a), (2, .int b), (3, .int (nI nn)), (4, .int ws_)]) hx hb dX5_whenOf_162 hl (by decide) rfl (fun ls hl => ?_)
                          refine lv_iload hx hb dX5_whenOf_164 (lv_at hl 0 rfl) ?_
                          refine lv_if_eq (tgt := 173) hx hb dX5_whenOf_166 (by decide) (fun c166_14 => ?_) (fun c166_14 => ?_)
                          · skip
                            exact absurd c166_14 (by decide)
                          · skip
                            refine lv_iload_n hx hb dX5_whenOf_169 rfl (lv_at hl 4 rfl) ?_
                            refine lv_goto (tgt := 174) hx hb dX5_whenOf_170 (by decide) ?_
                            refine lv_istore_n (lv' := [(1, .int (nI nn)), (5, .int 1), (0, .ref m0), (2, .int b), (3, .int (nI nn)), (4, .int ws_)]) hx hb dX5_whenOf_174 rfl hl (by decide) rfl (fun ls hl => ?_)
                            refine lv_iload hx hb dX5_whenOf_175 (lv_at hl 1 rfl) ?_
                            refine lv_if_eq (tgt := 185) hx hb dX5_whenOf_177 (by decide) (fun c177_15 => ?_) (fun c177_15 => ?_)
                            · skip
                              exact absurd c177_15 (by decide)
                            · skip
                              refine lv_iload hx hb dX5_whenOf_180 (lv_at hl 5 rfl) ?_
                              refine lv_goto (tgt := 186) hx hb dX5_whenOf_182 (by decide) ?_
                              refine lv_istore_n (lv' := [(2, .int ws_), (1, .int (nI nn)), (5, .int 1), (0, .ref m0), (3, .int (nI nn)), (4, .int ws_)]) hx hb dX5_whenOf_186 rfl hl (by decide) rfl (fun ls hl => ?_)
                              refine lv_iinc (v := nI (nn + 1)) (lv' := [(3, .int (nI (nn + 1))), (2, .int ws_), (1, .int (nI nn)), (5, .int 1), (0, .ref m0), (4, .int ws_)]) hx hb dX5_whenOf_187 hl (k := 4) rfl (nI_1 nn) (by decide) rfl (fun ls hl => ?_)
                              refine lv_goto (tgt := 12) hx hb dX5_whenOf_190 (by decide) ?_
                              exact ih4 (nn + 1) (nI nn) ws_ (mParts (mY3 r N ou he_ t k0 6) (mO3 r N ou he_ t 6 6) nn 64) (by omega) (by first | assumption | omega) (by first | assumption | omega) (by clear hret hl hS hD hP hK hA hN hts hx hb hr hml hown hlocks hiX5 ih4 ih6 ih8; rw [show nn + 1 - 1 = (nn - 1) + 1 from by omega, mLook, show nn - 1 + 1 = nn from by omega, ← hv, ← hws]; dsimp only; first | (rw [if_pos ⟨Int32.not_le.mp (by assumption), Or.inl (by assumption)⟩]; done) | (rw [if_pos ⟨Int32.not_le.mp (by assumption), Or.inr (Int32.not_le.mp (by assumption))⟩]; done) | (rw [if_neg (fun q_ => absurd q_.1 (Int32.not_lt.mpr (by assumption)))]; done) | (rw [if_neg (fun q_ => q_.2.elim (fun z_ => absurd z_ (by assumption)) (fun z_ => absurd z_ (Int32.not_lt.mpr (by assumption))))]; done)) _ _ _ hP hD hS (lv_sub hl [4, 2, 1, 0] rfl)
                        · skip
                          refine lv_iload hx hb dX5_whenOf_151 (lv_at hl 4 rfl) ?_
                          refine lv_iload_n hx hb dX5_whenOf_153 rfl (lv_at hl 2 rfl) ?_
                          refine lv_icmp_ge (tgt := 161) hx hb dX5_whenOf_154 (by decide) (fun c154_16 => ?_) (fun c154_16 => ?_)
                          · skip
                            refine lv_iconst (v := 0) hx hb dX5_whenOf_161 (by decide) ?_
                            refine lv_istore (lv' := [(5, .int 0), (0, .ref m0), (1, .int a), (2, .int b), (3, .int (nI nn)), (4, .int ws_)]) hx hb dX5_whenOf_162 hl (by decide) rfl (fun ls hl => ?_)
                            refine lv_iload hx hb dX5_whenOf_164 (lv_at hl 0 rfl) ?_
                            refine lv_if_eq (tgt := 173) hx hb dX5_whenOf_166 (by decide) (fun c166_17 => ?_) (fun c166_17 => ?_)
                            · skip
                              refine lv_iload_n hx hb dX5_whenOf_173 rfl (lv_at hl 2 rfl) ?_
                              refine lv_istore_n (lv' := [(1, .int a), (5, .int 0), (0, .ref m0), (2, .int b), (3, .int (nI nn)), (4, .int ws_)]) hx hb dX5_whenOf_174 rfl hl (by decide) rfl (fun ls hl => ?_)
                              refine lv_iload hx hb dX5_whenOf_175 (lv_at hl 1 rfl) ?_
                              refine lv_if_eq (tgt := 185) hx hb dX5_whenOf_177 (by decide) (fun c177_18 => ?_) (fun c177_18 => ?_)
                              · skip
                                refine lv_iload_n hx hb dX5_whenOf_185 rfl (lv_at hl 3 rfl) ?_
                                refine lv_istore_n (lv' := [(2, .int b), (1, .int a), (5, .int 0), (0, .ref m0), (3, .int (nI nn)), (4, .int ws_)]) hx hb dX5_whenOf_186 rfl hl (by decide) rfl (fun ls hl => ?_)
                                refine lv_iinc (v := nI (nn + 1)) (lv' := [(3, .int (nI (nn + 1))), (2, .int b), (1, .int a), (5, .int 0), (0, .ref m0), (4, .int ws_)]) hx hb dX5_whenOf_187 hl (k := 4) rfl (nI_1 nn) (by decide) rfl (fun ls hl => ?_)
                                refine lv_goto (tgt := 12) hx hb dX5_whenOf_190 (by decide) ?_
                                exact ih4 (nn + 1) a b (mParts (mY3 r N ou he_ t k0 6) (mO3 r N ou he_ t 6 6) nn 64) (by omega) (by first | assumption | omega) (by first | assumption | omega) (by clear hret hl hS hD hP hK hA hN hts hx hb hr hml hown hlocks hiX5 ih4 ih6 ih8; rw [show nn + 1 - 1 = (nn - 1) + 1 from by omega, mLook, show nn - 1 + 1 = nn from by omega, ← hv, ← hws]; dsimp only; first | (rw [if_pos ⟨Int32.not_le.mp (by assumption), Or.inl (by assumption)⟩]; done) | (rw [if_pos ⟨Int32.not_le.mp (by assumption), Or.inr (Int32.not_le.mp (by assumption))⟩]; done) | (rw [if_neg (fun q_ => absurd q_.1 (Int32.not_lt.mpr (by assumption)))]; done) | (rw [if_neg (fun q_ => q_.2.elim (fun z_ => absurd z_ (by assumption)) (fun z_ => absurd z_ (Int32.not_lt.mpr (by assumption))))]; done)) _ _ _ hP hD hS (lv_sub hl [4, 2, 1, 0] rfl)
                              · skip
                                exact absurd (by decide) c177_18
                            · skip
                              exact absurd (by decide) c166_17
                          · skip
                            refine lv_iconst (v := 1) hx hb dX5_whenOf_157 (by decide) ?_
                            refine lv_goto (tgt := 162) hx hb dX5_whenOf_158 (by decide) ?_
                            refine lv_istore (lv' := [(5, .int 1), (0, .ref m0), (1, .int a), (2, .int b), (3, .int (nI nn)), (4, .int ws_)]) hx hb dX5_whenOf_162 hl (by decide) rfl (fun ls hl => ?_)
                            refine lv_iload hx hb dX5_whenOf_164 (lv_at hl 0 rfl) ?_
                            refine lv_if_eq (tgt := 173) hx hb dX5_whenOf_166 (by decide) (fun c166_19 => ?_) (fun c166_19 => ?_)
                            · skip
                              exact absurd c166_19 (by decide)
                            · skip
                              refine lv_iload_n hx hb dX5_whenOf_169 rfl (lv_at hl 4 rfl) ?_
                              refine lv_goto (tgt := 174) hx hb dX5_whenOf_170 (by decide) ?_
                              refine lv_istore_n (lv' := [(1, .int (nI nn)), (5, .int 1), (0, .ref m0), (2, .int b), (3, .int (nI nn)), (4, .int ws_)]) hx hb dX5_whenOf_174 rfl hl (by decide) rfl (fun ls hl => ?_)
                              refine lv_iload hx hb dX5_whenOf_175 (lv_at hl 1 rfl) ?_
                              refine lv_if_eq (tgt := 185) hx hb dX5_whenOf_177 (by decide) (fun c177_20 => ?_) (fun c177_20 => ?_)
                              · skip
                                exact absurd c177_20 (by decide)
                              · skip
                                refine lv_iload hx hb dX5_whenOf_180 (lv_at hl 5 rfl) ?_
                                refine lv_goto (tgt := 186) hx hb dX5_whenOf_182 (by decide) ?_
                                refine lv_istore_n (lv' := [(2, .int ws_), (1, .int (nI nn)), (5, .int 1), (0, .ref m0), (3, .int (nI nn)), (4, .int ws_)]) hx hb dX5_whenOf_186 rfl hl (by decide) rfl (fun ls hl => ?_)
                                refine lv_iinc (v := nI (nn + 1)) (lv' := [(3, .int (nI (nn + 1))), (2, .int ws_), (1, .int (nI nn)), (5, .int 1), (0, .ref m0), (4, .int ws_)]) hx hb dX5_whenOf_187 hl (k := 4) rfl (nI_1 nn) (by decide) rfl (fun ls hl => ?_)
                                refine lv_goto (tgt := 12) hx hb dX5_whenOf_190 (by decide) ?_
                                exact ih4 (nn + 1) (nI nn) ws_ (mParts (mY3 r N ou he_ t k0 6) (mO3 r N ou he_ t 6 6) nn 64) (by omega) (by first | assumption | omega) (by first | assumption | omega) (by clear hret hl hS hD hP hK hA hN hts hx hb hr hml hown hlocks hiX5 ih4 ih6 ih8; rw [show nn + 1 - 1 = (nn - 1) + 1 from by omega, mLook, show nn - 1 + 1 = nn from by omega, ← hv, ← hws]; dsimp only; first | (rw [if_pos ⟨Int32.not_le.mp (by assumption), Or.inl (by assumption)⟩]; done) | (rw [if_pos ⟨Int32.not_le.mp (by assumption), Or.inr (Int32.not_le.mp (by assumption))⟩]; done) | (rw [if_neg (fun q_ => absurd q_.1 (Int32.not_lt.mpr (by assumption)))]; done) | (rw [if_neg (fun q_ => q_.2.elim (fun z_ => absurd z_ (by assumption)) (fun z_ => absurd z_ (Int32.not_lt.mpr (by assumption))))]; done)) _ _ _ hP hD hS (lv_sub hl [4, 2, 1, 0] rfl)
                    have hP : va_P D vwCl [(m0, .inr (5, [.ref pg, .int (nI n), .ref rd, .int rmy, .int rpt, .int sta, .int (nI N), .int pt, .int (nI k0), .int ou, .int si, .int en, .int w0, .int w1, .int br, .int cr, .ref ro, .ref fa, .ref wo, .ref ah, .int pf, .int (nI t), .ref he, .ref wy, .ref on_, .ref pa, .ref kr, .ref kn, .ref kh, .int kt, .int kc, .int sd, .ref sr, .ref sn, .long ha])), (ro, .inl (cA, 15, .inl r)), (he, .inl (cA, 16, .inl he_)), (wy, .inl (cA, 448, .inl (mY3 r N ou he_ t k0 6))), (on_, .inl (cA, 448, .inl (mO3 r N ou he_ t 6 6))), (pa, .inl (cA, 8, .inl (mParts (mY3 r N ou he_ t k0 6) (mO3 r N ou he_ t 6 6) nn 64)))] H := z_arrP hP 5 (g := (mParts (mY3 r N ou he_ t k0 6) (mO3 r N ou he_ t 6 6) nn 64)) rfl (by intro j hj; rw [hp1, ht_]) rfl
                    have hD : va_D A [(m0, .inr (5, [.ref pg, .int (nI n), .ref rd, .int rmy, .int rpt, .int sta, .int (nI N), .int pt, .int (nI k0), .int ou, .int si, .int en, .int w0, .int w1, .int br, .int cr, .ref ro, .ref fa, .ref wo, .ref ah, .int pf, .int (nI t), .ref he, .ref wy, .ref on_, .ref pa, .ref kr, .ref kn, .ref kh, .int kt, .int kc, .int sd, .ref sr, .ref sn, .long ha])), (ro, .inl (cA, 15, .inl r)), (he, .inl (cA, 16, .inl he_)), (wy, .inl (cA, 448, .inl (mY3 r N ou he_ t k0 6))), (on_, .inl (cA, 448, .inl (mO3 r N ou he_ t 6 6))), (pa, .inl (cA, 8, .inl (mParts (mY3 r N ou he_ t k0 6) (mO3 r N ou he_ t 6 6) nn 64)))] := z_arrD hD 5 rfl rfl
                    refine lv_iconst (v := 0) hx hb dX5_whenOf_96 (by decide) ?_
                    refine lv_istore (lv' := [(4, .int 0), (0, .ref m0), (1, .int a), (2, .int b), (3, .int (nI nn))]) hx hb dX5_whenOf_97 hl (by decide) rfl (fun ls hl => ?_)
                    refine lv_iconst (v := nI 0) hx hb dX5_whenOf_99 (by decide) ?_
                    refine lv_istore (lv' := [(5, .int (nI 0)), (4, .int 0), (0, .ref m0), (1, .int a), (2, .int b), (3, .int (nI nn))]) hx hb dX5_whenOf_100 hl (by decide) rfl (fun ls hl => ?_)
                    have L102 : ∀ (n_ : Nat) (i : Nat) (ww : Int32) (hm_ : 9 ≤ i + n_) (hi : i ≤ 8) (hww : ww = mWorst (mParts (mY3 r N ou he_ t k0 6) (mO3 r N ou he_ t 6 6) nn 64) i) (H : Heap) (locs : List Loc) (ls : Array Slot), va_P D vwCl [(m0, .inr (5, [.ref pg, .int (nI n), .ref rd, .int rmy, .int rpt, .int sta, .int (nI N), .int pt, .int (nI k0), .int ou, .int si, .int en, .int w0, .int w1, .int br, .int cr, .ref ro, .ref fa, .ref wo, .ref ah, .int pf, .int (nI t), .ref he, .ref wy, .ref on_, .ref pa, .ref kr, .ref kn, .ref kh, .int kt, .int kc, .int sd, .ref sr, .ref sn, .long ha])), (ro, .inl (cA, 15, .inl r)), (he, .inl (cA, 16, .inl he_)), (wy, .inl (cA, 448, .inl (mY3 r N ou he_ t k0 6))), (on_, .inl (cA, 448, .inl (mO3 r N ou he_ t 6 6))), (pa, .inl (cA, 8, .inl (mParts (mY3 r N ou he_ t k0 6) (mO3 r N ou he_ t 6 6) nn 64)))] H → va_D A [(m0, .inr (5, [.ref pg, .int (nI n), .ref rd, .int rmy, .int rpt, .int sta, .int (nI N), .int pt, .int (nI k0), .int ou, .int si, .int en, .int w0, .int w1, .int br, .int cr, .ref ro, .ref fa, .ref wo, .ref ah, .int pf, .int (nI t), .ref he, .ref wy, .ref on_, .ref pa, .ref kr, .ref kn, .ref kh, .int kt, .int kc, .int sd, .ref sr, .ref sn, .long ha])), (ro, .inl (cA, 15, .inl r)), (he, .inl (cA, 16, .inl he_)), (wy, .inl (cA, 448, .inl (mY3 r N ou he_ t k0 6))), (on_, .inl (cA, 448, .inl (mO3 r N ou he_ t 6 6))), (pa, .inl (cA, 8, .inl (mParts (mY3 r N ou he_ t k0 6) (mO3 r N ou he_ t 6 6) nn 64)))] → va_S A H0 H locs → lv_has ls 6 [(0, .ref m0), (1, .int a), (2, .int b), (3, .int (nI nn)), (4, .int ww), (5, .int (nI i))] → W p l e rm_c_X5_whenOf s m args below meth c H locs 0 0 Q (F0 m 102 ls []) := by
                      intro n_
                      induction n_ with
                      | zero =>
                        intro i ww hm_ hi hww
                        exact absurd hm_ (by omega)
                      | succ n_ ih_ =>
                        intro i ww hm_ hi hww H locs ls hP hD hS hl
                        have ih21 := ih_
                        clear ih_
                        refine lv_iload hx hb dX5_whenOf_102 (lv_at hl 5 rfl) ?_
                        refine lv_bipush (v := 8) hx hb dX5_whenOf_104 (by decide) ?_
                        refine lv_icmp_ge (tgt := 141) hx hb dX5_whenOf_106 (by decide) (fun c106_22 => ?_) (fun c106_22 => ?_)
                        · skip
                          have ht_ : i = 8 := by have := (nI_leI (a := 8) (b := i) (by omega) (by omega)).mp c106_22; omega
                          exact J141 ww (by clear hret hl hS hD hP hK hA hN hts hx hb hr hml hown hlocks hiX5 ih4 ih6 ih8 J141 ih21; rw [hww, ht_]) _ _ _ hP hD hS (lv_sub hl [0, 1, 2, 3, 4] rfl)
                        · skip
                          have hlti : i < 8 := Nat.lt_of_not_le (fun q_ => c106_22 ((nI_leI (a := 8) (b := i) (by omega) (by omega)).mpr q_))
                          refine lv_aload_n hx hb dX5_whenOf_109 rfl (lv_at hl 0 rfl) ?_
                          refine va_get (D := D) (ci := 5) (v := .ref pa) (C := RX5) (T := TX5) (N := 35) hx hb hts hiX5 hown hK hP 0 rfl rfl 25 (by decide) (hts (.fieldLink RX5 37 "HeardSecondModel" "parts" "[I") (by decide +kernel)) (fun _ h9 => h9) rfl dX5_whenOf_110 ?_
                          refine lv_iload hx hb dX5_whenOf_113 (lv_at hl 5 rfl) ?_
                          refine va_iald hx hb hK hP 5 0 rfl rfl (z_inN (by omega) (by decide)) dX5_whenOf_115 ?_
                          refine z_top (y := mParts (mY3 r N ou he_ t k0 6) (mO3 r N ou he_ t 6 6) nn 64 i) (by rw [z_nat (by omega)]) ?_
                          refine lv_iload hx hb dX5_whenOf_116 (lv_at hl 4 rfl) ?_
                          refine lv_icmp_le (tgt := 131) hx hb dX5_whenOf_118 (by decide) (fun c118_23 => ?_) (fun c118_23 => ?_)
                          · skip
                            refine lv_iload hx hb dX5_whenOf_131 (lv_at hl 4 rfl) ?_
                            refine lv_istore (lv' := [(4, .int ww), (0, .ref m0), (1, .int a), (2, .int b), (3, .int (nI nn)), (5, .int (nI i))]) hx hb dX5_whenOf_133 hl (by decide) rfl (fun ls hl => ?_)
                            refine lv_iinc (v := nI (i + 1)) (lv' := [(5, .int (nI (i + 1))), (4, .int ww), (0, .ref m0), (1, .int a), (2, .int b), (3, .int (nI nn))]) hx hb dX5_whenOf_135 hl (k := 5) rfl (nI_1 i) (by decide) rfl (fun ls hl => ?_)
                            refine lv_goto (tgt := 102) hx hb dX5_whenOf_138 (by decide) ?_
                            exact ih21 (i + 1) ww (by omega) (by first | assumption | omega) (by clear hret hl hS hD hP hK hA hN hts hx hb hr hml hown hlocks hiX5 ih4 ih6 ih8 J141 ih21; rw [mWorst, ← hww]; first | (rw [if_pos (Int32.not_le.mp (by assumption))]; done) | (rw [if_neg (Int32.not_lt.mpr (by assumption))]; done)) _ _ _ hP hD hS (lv_sub hl [2, 3, 4, 5, 1, 0] rfl)
                          · skip
                            refine lv_aload_n hx hb dX5_whenOf_121 rfl (lv_at hl 0 rfl) ?_
                            refine va_get (D := D) (ci := 5) (v := .ref pa) (C := RX5) (T := TX5) (N := 35) hx hb hts hiX5 hown hK hP 0 rfl rfl 25 (by decide) (hts (.fieldLink RX5 37 "HeardSecondModel" "parts" "[I") (by decide +kernel)) (fun _ h9 => h9) rfl dX5_whenOf_122 ?_
                            refine lv_iload hx hb dX5_whenOf_125 (lv_at hl 5 rfl) ?_
                            refine va_iald hx hb hK hP 5 0 rfl rfl (z_inN (by omega) (by decide)) dX5_whenOf_127 ?_
                            refine z_top (y := mParts (mY3 r N ou he_ t k0 6) (mO3 r N ou he_ t 6 6) nn 64 i) (by rw [z_nat (by omega)]) ?_
                            refine lv_goto (tgt := 133) hx hb dX5_whenOf_128 (by decide) ?_
                            refine lv_istore (lv' := [(4, .int (mParts (mY3 r N ou he_ t k0 6) (mO3 r N ou he_ t 6 6) nn 64 i)), (0, .ref m0), (1, .int a), (2, .int b), (3, .int (nI nn)), (5, .int (nI i))]) hx hb dX5_whenOf_133 hl (by decide) rfl (fun ls hl => ?_)
                            refine lv_iinc (v := nI (i + 1)) (lv' := [(5, .int (nI (i + 1))), (4, .int (mParts (mY3 r N ou he_ t k0 6) (mO3 r N ou he_ t 6 6) nn 64 i)), (0, .ref m0), (1, .int a), (2, .int b), (3, .int (nI nn))]) hx hb dX5_whenOf_135 hl (k := 5) rfl (nI_1 i) (by decide) rfl (fun ls hl => ?_)
                            refine lv_goto (tgt := 102) hx hb dX5_whenOf_138 (by decide) ?_
                            exact ih21 (i + 1) (mParts (mY3 r N ou he_ t k0 6) (mO3 r N ou he_ t 6 6) nn 64 i) (by omega) (by first | assumption | omega) (by clear hret hl hS hD hP hK hA hN hts hx hb hr hml hown hlocks hiX5 ih4 ih6 ih8 J141 ih21; rw [mWorst, ← hww]; first | (rw [if_pos (Int32.not_le.mp (by assumption))]; done) | (rw [if_neg (Int32.not_lt.mpr (by assumption))]; done)) _ _ _ hP hD hS (lv_sub hl [2, 3, 4, 5, 1, 0] rfl)
                    exact L102 9 0 0 (by omega) (by first | assumption | omega) (by rfl) _ _ _ hP hD hS (lv_sub hl [2, 3, 4, 5, 1, 0] rfl)
                  · skip
                    have hltq : q < 64 := Nat.lt_of_not_le (fun q_ => c49_9 ((nI_leI (a := 64) (b := q) (by omega) (by omega)).mpr q_))
                    refine lv_aload_n hx hb dX5_whenOf_52 rfl (lv_at hl 0 rfl) ?_
                    refine va_get (D := D) (ci := 5) (v := .ref pa) (C := RX5) (T := TX5) (N := 35) hx hb hts hiX5 hown hK hP 0 rfl rfl 25 (by decide) (hts (.fieldLink RX5 37 "HeardSecondModel" "parts" "[I") (by decide +kernel)) (fun _ h9 => h9) rfl dX5_whenOf_53 ?_
                    refine lv_iload hx hb dX5_whenOf_56 (lv_at hl 4 rfl) ?_
                    refine lv_bipush (v := 8) hx hb dX5_whenOf_58 (by decide) ?_
                    refine lv_irem hx hb dX5_whenOf_60 (by decide) ?_
                    refine z_top (y := nI (q % 8)) (z_m8 q (by omega)) ?_
                    refine lv_dup2_11 hx hb dX5_whenOf_61 rfl rfl ?_
                    refine va_iald hx hb hK hP 5 0 rfl rfl (z_inN (by omega) (by decide)) dX5_whenOf_62 ?_
                    refine z_top (y := p1 (q % 8)) (by rw [z_nat (by omega)]) ?_
                    refine lv_aload_n hx hb dX5_whenOf_63 rfl (lv_at hl 0 rfl) ?_
                    refine va_get (D := D) (ci := 5) (v := .ref wy) (C := RX5) (T := TX5) (N := 35) hx hb hts hiX5 hown hK hP 0 rfl rfl 23 (by decide) (hts (.fieldLink RX5 31 "HeardSecondModel" "ways" "[I") (by decide +kernel)) (fun _ h9 => h9) rfl dX5_whenOf_64 ?_
                    refine lv_bipush (v := 64) hx hb dX5_whenOf_67 (by decide) ?_
                    refine lv_iload_n hx hb dX5_whenOf_69 rfl (lv_at hl 3 rfl) ?_
                    refine lv_imul hx hb dX5_whenOf_70 ?_
                    refine lv_iload hx hb dX5_whenOf_71 (lv_at hl 4 rfl) ?_
                    refine lv_iadd hx hb dX5_whenOf_73 ?_
                    refine z_top (y := nI (64 * nn + q)) (z_64 nn q) ?_
                    refine va_iald hx hb hK hP 3 0 rfl rfl (z_inN (by omega) (by decide)) dX5_whenOf_74 ?_
                    refine z_top (y := mY3 r N ou he_ t k0 6 (64 * nn + q)) (by rw [z_nat (by omega)]) ?_
                    refine lv_aload_n hx hb dX5_whenOf_75 rfl (lv_at hl 0 rfl) ?_
                    refine va_get (D := D) (ci := 5) (v := .ref on_) (C := RX5) (T := TX5) (N := 35) hx hb hts hiX5 hown hK hP 0 rfl rfl 24 (by decide) (hts (.fieldLink RX5 34 "HeardSecondModel" "onward" "[I") (by decide +kernel)) (fun _ h9 => h9) rfl dX5_whenOf_76 ?_
                    refine lv_bipush (v := 64) hx hb dX5_whenOf_79 (by decide) ?_
                    refine lv_iload_n hx hb dX5_whenOf_81 rfl (lv_at hl 3 rfl) ?_
                    refine lv_imul hx hb dX5_whenOf_82 ?_
                    refine lv_iload hx hb dX5_whenOf_83 (lv_at hl 4 rfl) ?_
                    refine lv_iadd hx hb dX5_whenOf_85 ?_
                    refine z_top (y := nI (64 * nn + q)) (z_64 nn q) ?_
                    refine va_iald hx hb hK hP 4 0 rfl rfl (z_inN (by omega) (by decide)) dX5_whenOf_86 ?_
                    refine z_top (y := mO3 r N ou he_ t 6 6 (64 * nn + q)) (by rw [z_nat (by omega)]) ?_
                    refine lv_imul hx hb dX5_whenOf_87 ?_
                    refine lv_iadd hx hb dX5_whenOf_88 ?_
                    refine va_iast hx hb hK hP hD hS 5 0 rfl rfl (z_inN (by omega) (by decide)) dX5_whenOf_89 (fun H locs hP hD hS => ?_)
                    have hP : va_P D vwCl [(m0, .inr (5, [.ref pg, .int (nI n), .ref rd, .int rmy, .int rpt, .int sta, .int (nI N), .int pt, .int (nI k0), .int ou, .int si, .int en, .int w0, .int w1, .int br, .int cr, .ref ro, .ref fa, .ref wo, .ref ah, .int pf, .int (nI t), .ref he, .ref wy, .ref on_, .ref pa, .ref kr, .ref kn, .ref kh, .int kt, .int kc, .int sd, .ref sr, .ref sn, .long ha])), (ro, .inl (cA, 15, .inl r)), (he, .inl (cA, 16, .inl he_)), (wy, .inl (cA, 448, .inl (mY3 r N ou he_ t k0 6))), (on_, .inl (cA, 448, .inl (mO3 r N ou he_ t 6 6))), (pa, .inl (cA, 8, .inl (upd p1 (Int32.toNatClampNeg (nI (q % 8))) ((p1 (q % 8)) + ((mY3 r N ou he_ t k0 6 (64 * nn + q)) * (mO3 r N ou he_ t 6 6 (64 * nn + q)))))))] H := hP
                    have hD : va_D A [(m0, .inr (5, [.ref pg, .int (nI n), .ref rd, .int rmy, .int rpt, .int sta, .int (nI N), .int pt, .int (nI k0), .int ou, .int si, .int en, .int w0, .int w1, .int br, .int cr, .ref ro, .ref fa, .ref wo, .ref ah, .int pf, .int (nI t), .ref he, .ref wy, .ref on_, .ref pa, .ref kr, .ref kn, .ref kh, .int kt, .int kc, .int sd, .ref sr, .ref sn, .long ha])), (ro, .inl (cA, 15, .inl r)), (he, .inl (cA, 16, .inl he_)), (wy, .inl (cA, 448, .inl (mY3 r N ou he_ t k0 6))), (on_, .inl (cA, 448, .inl (mO3 r N ou he_ t 6 6))), (pa, .inl (cA, 8, .inl (upd p1 (Int32.toNatClampNeg (nI (q % 8))) ((p1 (q % 8)) + ((mY3 r N ou he_ t k0 6 (64 * nn + q)) * (mO3 r N ou he_ t 6 6 (64 * nn + q)))))))] := hD
                    rw [show upd p1 (Int32.toNatClampNeg (nI (q % 8))) ((p1 (q % 8)) + ((mY3 r N ou he_ t k0 6 (64 * nn + q)) * (mO3 r N ou he_ t 6 6 (64 * nn + q)))) = upd p1 (q % 8) ((p1 (q % 8)) + ((mY3 r N ou he_ t k0 6 (64 * nn + q)) * (mO3 r N ou he_ t 6 6 (64 * nn + q)))) from by rw [z_nat (by omega)]] at hP hD
                    refine lv_iinc (v := nI (q + 1)) (lv' := [(4, .int (nI (q + 1))), (0, .ref m0), (1, .int a), (2, .int b), (3, .int (nI nn))]) hx hb dX5_whenOf_90 hl (k := 4) rfl (nI_1 q) (by decide) rfl (fun ls hl => ?_)
                    refine lv_goto (tgt := 45) hx hb dX5_whenOf_93 (by decide) ?_
                    exact ih8 (q + 1) (upd p1 (q % 8) ((p1 (q % 8)) + ((mY3 r N ou he_ t k0 6 (64 * nn + q)) * (mO3 r N ou he_ t 6 6 (64 * nn + q))))) (by omega) (by first | assumption | omega) (by clear hret hl hS hD hP hK hA hN hts hx hb hr hml hown hlocks hiX5 ih4 ih6 ih8; rw [mParts, ← hp1]) _ _ _ hP hD hS (lv_sub hl [1, 2, 3, 4, 0] rfl)
              exact L45 65 0 (fun _ => 0) (by omega) (by first | assumption | omega) (by rfl) _ _ _ hP hD hS (lv_sub hl [1, 2, 3, 4, 0] rfl)
            · skip
              have hlti : i < 8 := Nat.lt_of_not_le (fun q_ => c25_7 ((nI_leI (a := 8) (b := i) (by omega) (by omega)).mpr q_))
              refine lv_aload_n hx hb dX5_whenOf_28 rfl (lv_at hl 0 rfl) ?_
              refine va_get (D := D) (ci := 5) (v := .ref pa) (C := RX5) (T := TX5) (N := 35) hx hb hts hiX5 hown hK hP 0 rfl rfl 25 (by decide) (hts (.fieldLink RX5 37 "HeardSecondModel" "parts" "[I") (by decide +kernel)) (fun _ h9 => h9) rfl dX5_whenOf_29 ?_
              refine lv_iload hx hb dX5_whenOf_32 (lv_at hl 4 rfl) ?_
              refine lv_iconst (v := 0) hx hb dX5_whenOf_34 (by decide) ?_
              refine va_iast hx hb hK hP hD hS 5 0 rfl rfl (z_inN (by omega) (by decide)) dX5_whenOf_35 (fun H locs hP hD hS => ?_)
              have hP : va_P D vwCl [(m0, .inr (5, [.ref pg, .int (nI n), .ref rd, .int rmy, .int rpt, .int sta, .int (nI N), .int pt, .int (nI k0), .int ou, .int si, .int en, .int w0, .int w1, .int br, .int cr, .ref ro, .ref fa, .ref wo, .ref ah, .int pf, .int (nI t), .ref he, .ref wy, .ref on_, .ref pa, .ref kr, .ref kn, .ref kh, .int kt, .int kc, .int sd, .ref sr, .ref sn, .long ha])), (ro, .inl (cA, 15, .inl r)), (he, .inl (cA, 16, .inl he_)), (wy, .inl (cA, 448, .inl (mY3 r N ou he_ t k0 6))), (on_, .inl (cA, 448, .inl (mO3 r N ou he_ t 6 6))), (pa, .inl (cA, 8, .inl (upd g (Int32.toNatClampNeg (nI i)) 0)))] H := hP
              have hD : va_D A [(m0, .inr (5, [.ref pg, .int (nI n), .ref rd, .int rmy, .int rpt, .int sta, .int (nI N), .int pt, .int (nI k0), .int ou, .int si, .int en, .int w0, .int w1, .int br, .int cr, .ref ro, .ref fa, .ref wo, .ref ah, .int pf, .int (nI t), .ref he, .ref wy, .ref on_, .ref pa, .ref kr, .ref kn, .ref kh, .int kt, .int kc, .int sd, .ref sr, .ref sn, .long ha])), (ro, .inl (cA, 15, .inl r)), (he, .inl (cA, 16, .inl he_)), (wy, .inl (cA, 448, .inl (mY3 r N ou he_ t k0 6))), (on_, .inl (cA, 448, .inl (mO3 r N ou he_ t 6 6))), (pa, .inl (cA, 8, .inl (upd g (Int32.toNatClampNeg (nI i)) 0)))] := hD
              rw [show upd g (Int32.toNatClampNeg (nI i)) 0 = upd g i 0 from by rw [z_nat (by omega)]] at hP hD
              refine lv_iinc (v := nI (i + 1)) (lv' := [(4, .int (nI (i + 1))), (0, .ref m0), (1, .int a), (2, .int b), (3, .int (nI nn))]) hx hb dX5_whenOf_36 hl (k := 4) rfl (nI_1 i) (by decide) rfl (fun ls hl => ?_)
              refine lv_goto (tgt := 21) hx hb dX5_whenOf_39 (by decide) ?_
              exact ih6 (i + 1) (upd g i 0) (by omega) (by first | assumption | omega) (by clear hret hl hS hD hP hK hA hN hts hx hb hr hml hown hlocks hiX5 ih4 ih6; intro j hj; unfold upd; split <;> first | rfl | exact hg j (by omega)) _ _ _ hP hD hS (lv_sub hl [1, 2, 3, 4, 0] rfl)
        exact L21 9 0 v2 (by omega) (by first | assumption | omega) (by clear hret hl hS hD hP hK hA hN hts hx hb hr hml hown hlocks hiX5 ih4 L21; intro j hj; omega) _ _ _ hP hD hS (lv_sub hl [1, 2, 3, 4, 0] rfl)
  exact L12 8 1 (-1) (-1) v_ (by omega) (by first | assumption | omega) (by first | assumption | omega) (by rfl) _ _ _ hP hD hS (lv_sub hl [3, 2, 1, 0] rfl)
abbrev rm_c_X5_when : Room := { frames := 3, cells := 0, slots := 0, locals := 75 }
set_option maxHeartbeats 400000 in
set_option maxRecDepth 20000 in
theorem c_X5_when {l : Launch} {D : va_G} {cA : ClassId} {m0 : Nat} {pg : Nat} {rd : Nat} {ro : Nat} {fa : Nat} {wo : Nat} {ah : Nat} {he : Nat} {wy : Nat} {on_ : Nat} {pa : Nat} {kr : Nat} {kn : Nat} {kh : Nat} {sr : Nat} {sn : Nat} {n : Nat} {N : Nat} {t : Nat} {rmy : Int32} {rpt : Int32} {sta : Int32} {pt : Int32} {ou : Int32} {si : Int32} {en : Int32} {w0 : Int32} {w1 : Int32} {br : Int32} {cr : Int32} {pf : Int32} {kt : Int32} {kc : Int32} {sd : Int32} {ha : Int64} {r : Nat → Int32} {he_ : Nat → Int32} {y : Nat → Int32} {z : Nat → Int32} {v_ : Nat → Int32} {k0 : Nat} (h5 : N ≤ 5) (ht : t ≤ 8) (hk0 : k0 < 64) : zMi l yX5_when wsX5_when rm_c_X5_when D cA [(m0, .inr (5, [.ref pg, .int (nI n), .ref rd, .int rmy, .int rpt, .int sta, .int (nI N), .int pt, .int (nI k0), .int ou, .int si, .int en, .int w0, .int w1, .int br, .int cr, .ref ro, .ref fa, .ref wo, .ref ah, .int pf, .int (nI t), .ref he, .ref wy, .ref on_, .ref pa, .ref kr, .ref kn, .ref kh, .int kt, .int kc, .int sd, .ref sr, .ref sn, .long ha])), (ro, .inl (cA, 15, .inl r)), (he, .inl (cA, 16, .inl he_)), (wy, .inl (cA, 448, .inl y)), (on_, .inl (cA, 448, .inl z)), (pa, .inl (cA, 8, .inl v_))] [.ref m0] (fun (ret_ : Int32) (u : (Nat → Int32) × (Nat → Int32) × (Nat → Int32)) => ret_ = mWhen r N ou he_ t k0) (fun (u : (Nat → Int32) × (Nat → Int32) × (Nat → Int32)) => [(m0, .inr (5, [.ref pg, .int (nI n), .ref rd, .int rmy, .int rpt, .int sta, .int (nI N), .int pt, .int (nI k0), .int ou, .int si, .int en, .int w0, .int w1, .int br, .int cr, .ref ro, .ref fa, .ref wo, .ref ah, .int pf, .int (nI t), .ref he, .ref wy, .ref on_, .ref pa, .ref kr, .ref kn, .ref kh, .int kt, .int kc, .int sd, .ref sr, .ref sn, .long ha])), (ro, .inl (cA, 15, .inl r)), (he, .inl (cA, 16, .inl he_)), (wy, .inl (cA, 448, .inl u.1)), (on_, .inl (cA, 448, .inl u.2.1)), (pa, .inl (cA, 8, .inl u.2.2))]) := by
  refine z_enteri (cc := cX5_when) (maxL := 1) (ty := .int) (by decide) rfl (Nat.le_of_ble_eq_true rfl) (fun p e s m args below meth c ls A H0 H locs Q hi_ hA hK hP hD hS hl hret => ?_)
  obtain ⟨hx, hb, hr, hml, hown, hts, hlocks, hN⟩ := hi_
  have hl : lv_has ls 1 [(0, .ref m0)] := hl
  refine lv_aload_n hx hb dX5_when_0 rfl (lv_at hl 0 rfl) ?_
  refine z_bri (z_runV (As := []) (rest := []) (ci := 5) ⟨hx, hb, hml, hown, hts⟩ (c_X5_lacks (m0 := m0) (pg := pg) (rd := rd) (ro := ro) (fa := fa) (wo := wo) (ah := ah) (he := he) (wy := wy) (on_ := on_) (pa := pa) (kr := kr) (kn := kn) (kh := kh) (sr := sr) (sn := sn) (n := n) (N := N) (t := t) (rmy := rmy) (rpt := rpt) (sta := sta) (pt := pt) (nw := nI k0) (ou := ou) (si := si) (en := en) (w0 := w0) (w1 := w1) (br := br) (cr := cr) (pf := pf) (kt := kt) (kc := kc) (sd := sd) (ha := ha) (by first | assumption | omega) _) (cwV 0 hts gX5_when_X5_lacks rfl rfl rfl (by decide +kernel) ⟨Nat.le_of_ble_eq_true rfl, Nat.le_of_ble_eq_true rfl⟩) hK hP hD hN [0] rfl rfl rfl rfl rfl hl.1 rfl (Nat.le_of_ble_eq_true rfl) dX5_when_1 ⟨Nat.zero_le _, Nat.zero_le _⟩) hP hD hS hA [0] rfl (fun r_2 u_3 H locs hq_1 hP hS => ?_)
  obtain rfl : r_2 = bI (decide (N = 0)) := hq_1
  refine lv_if_eq (tgt := 12) hx hb dX5_when_4 (by decide) (fun c4_4 => ?_) (fun c4_4 => ?_)
  · skip
    have c4_4 := bI_0.mp c4_4
    refine lv_aload_n hx hb dX5_when_12 rfl (lv_at hl 0 rfl) ?_
    refine z_bwi (wr := []) (ws' := fun u_7 => [(m0, .inr (5, [.ref pg, .int (nI n), .ref rd, .int rmy, .int rpt, .int sta, .int (nI N), .int pt, .int (nI k0), .int ou, .int si, .int en, .int w0, .int w1, .int br, .int cr, .ref ro, .ref fa, .ref wo, .ref ah, .int pf, .int (nI t), .ref he, .ref wy, .ref on_, .ref pa, .ref kr, .ref kn, .ref kh, .int kt, .int kc, .int sd, .ref sr, .ref sn, .long ha])), (ro, .inl (cA, 15, .inl r)), (he, .inl (cA, 16, .inl he_)), (wy, .inl (cA, 448, .inl u_7.1)), (on_, .inl (cA, 448, .inl u_7.2.1)), (pa, .inl (cA, 8, .inl u_7.2.2))]) (z_runV (As := []) (rest := []) (ci := 5) ⟨hx, hb, hml, hown, hts⟩ (c_X5_whenOf (m0 := m0) (pg := pg) (rd := rd) (ro := ro) (fa := fa) (wo := wo) (ah := ah) (he := he) (wy := wy) (on_ := on_) (pa := pa) (kr := kr) (kn := kn) (kh := kh) (sr := sr) (sn := sn) (n := n) (N := N) (t := t) (rmy := rmy) (rpt := rpt) (sta := sta) (pt := pt) (ou := ou) (si := si) (en := en) (w0 := w0) (w1 := w1) (br := br) (cr := cr) (pf := pf) (kt := kt) (kc := kc) (sd := sd) (ha := ha) (r := r) (he_ := he_) (y := y) (z := z) (v_ := v_) (k0 := k0) (by first | assumption | omega) (by first | assumption | omega) (by first | assumption | omega) _) (cwV 0 hts gX5_when_X5_whenOf rfl rfl rfl (by decide +kernel) ⟨Nat.le_of_ble_eq_true rfl, Nat.le_of_ble_eq_true rfl⟩) hK hP hD hN [0, 1, 2, 3, 4, 5] rfl rfl rfl rfl rfl hl.1 rfl (Nat.le_of_ble_eq_true rfl) dX5_when_13 ⟨Nat.zero_le _, Nat.zero_le _⟩) hP hD hS hA [0, 1, 2, 3, 4, 5] [] [0, 1, 2, 3, 4, 5] rfl rfl rfl (by decide) rfl (fun _ => rfl) (fun r_6 u_7 H locs hq_5 hP hD hS => ?_)
    obtain rfl : r_6 = mWhenV r N ou he_ t k0 := hq_5
    have hP : va_P D vwCl [(m0, .inr (5, [.ref pg, .int (nI n), .ref rd, .int rmy, .int rpt, .int sta, .int (nI N), .int pt, .int (nI k0), .int ou, .int si, .int en, .int w0, .int w1, .int br, .int cr, .ref ro, .ref fa, .ref wo, .ref ah, .int pf, .int (nI t), .ref he, .ref wy, .ref on_, .ref pa, .ref kr, .ref kn, .ref kh, .int kt, .int kc, .int sd, .ref sr, .ref sn, .long ha])), (ro, .inl (cA, 15, .inl r)), (he, .inl (cA, 16, .inl he_)), (wy, .inl (cA, 448, .inl u_7.1)), (on_, .inl (cA, 448, .inl u_7.2.1)), (pa, .inl (cA, 8, .inl u_7.2.2))] H := hP
    have hD : va_D A [(m0, .inr (5, [.ref pg, .int (nI n), .ref rd, .int rmy, .int rpt, .int sta, .int (nI N), .int pt, .int (nI k0), .int ou, .int si, .int en, .int w0, .int w1, .int br, .int cr, .ref ro, .ref fa, .ref wo, .ref ah, .int pf, .int (nI t), .ref he, .ref wy, .ref on_, .ref pa, .ref kr, .ref kn, .ref kh, .int kt, .int kc, .int sd, .ref sr, .ref sn, .long ha])), (ro, .inl (cA, 15, .inl r)), (he, .inl (cA, 16, .inl he_)), (wy, .inl (cA, 448, .inl u_7.1)), (on_, .inl (cA, 448, .inl u_7.2.1)), (pa, .inl (cA, 8, .inl u_7.2.2))] := hD
    -- path 1
    exact hret (mWhenV r N ou he_ t k0) (u_7.1, (u_7.2.1, u_7.2.2)) _ _ _ _ dX5_when_16 (rfl) (by clear hret hl hS hD hP hK hA hN hts hx hb hr hml hown hlocks ; simp_all [mWhen]) hP hD hS
  · skip
    have c4_4 := bI_n0.mp c4_4
    refine lv_bipush (v := (-103)) hx hb dX5_when_7 (by decide) ?_
    refine lv_goto (tgt := 16) hx hb dX5_when_9 (by decide) ?_
    -- path 2
    exact hret ((-103)) (y, (z, v_)) _ _ _ _ dX5_when_16 (rfl) (by clear hret hl hS hD hP hK hA hN hts hx hb hr hml hown hlocks ; simp_all [mWhen]) hP hD hS
