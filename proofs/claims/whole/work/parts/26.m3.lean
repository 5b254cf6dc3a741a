abbrev rm_c_X5_layFar : Room := { frames := 1, cells := 0, slots := 0, locals := 26 }
set_option maxHeartbeats 2000000 in
set_option maxRecDepth 20000 in
theorem c_X5_layFar {l : Launch} {D : va_G} {cA : ClassId} {m0 : Nat} {pg : Nat} {rd : Nat} {ro : Nat} {fa : Nat} {wo : Nat} {ah : Nat} {he : Nat} {wy : Nat} {on_ : Nat} {pa : Nat} {kr : Nat} {kn : Nat} {kh : Nat} {sr : Nat} {sn : Nat} {n : Nat} {N : Nat} {t : Nat} {rmy : Int32} {rpt : Int32} {sta : Int32} {pt : Int32} {nw : Int32} {ou : Int32} {si : Int32} {en : Int32} {w0 : Int32} {w1 : Int32} {br : Int32} {cr : Int32} {pf : Int32} {kt : Int32} {kc : Int32} {sd : Int32} {ha : Int64} {r : Nat → Int32} {fa_ : Nat → Int32} {k0 : Nat} (h5 : N ≤ 5) (hk0 : k0 < 64) : zMv l yX5_layFar wsX5_layFar rm_c_X5_layFar D cA [(m0, .inr (5, [.ref pg, .int (nI n), .ref rd, .int rmy, .int rpt, .int sta, .int (nI N), .int pt, .int nw, .int ou, .int si, .int en, .int w0, .int w1, .int br, .int cr, .ref ro, .ref fa, .ref wo, .ref ah, .int pf, .int (nI t), .ref he, .ref wy, .ref on_, .ref pa, .ref kr, .ref kn, .ref kh, .int kt, .int kc, .int sd, .ref sr, .ref sn, .long ha])), (ro, .inl (cA, 15, .inl r)), (fa, .inl (cA, 64, .inl fa_))] [.ref m0, .int (nI k0)] (fun (_ : Unit) => True) (fun (_ : Unit) => [(m0, .inr (5, [.ref pg, .int (nI n), .ref rd, .int rmy, .int rpt, .int sta, .int (nI N), .int pt, .int nw, .int ou, .int si, .int en, .int w0, .int w1, .int br, .int cr, .ref ro, .ref fa, .ref wo, .ref ah, .int pf, .int (nI t), .ref he, .ref wy, .ref on_, .ref pa, .ref kr, .ref kn, .ref kh, .int kt, .int kc, .int sd, .ref sr, .ref sn, .long ha])), (ro, .inl (cA, 15, .inl r)), (fa, .inl (cA, 64, .inl (mF3 r N ou k0 64)))]) := by
  refine z_enterv (cc := cX5_layFar) (maxL := 6) (by decide) rfl (Nat.le_of_ble_eq_true rfl) (fun p e s m args below meth c ls A H0 H locs Q hi_ hA hK hP hD hS hl hret => ?_)
  obtain ⟨hx, hb, hr, hml, hown, hts, hlocks, hN⟩ := hi_
  have hl : lv_has ls 6 [(0, .ref m0), (1, .int (nI k0))] := hl
  have hiX5 : ∀ w ∈ wsX50, w ∈ wsX5_layFar := by decide +kernel
  refine lv_iconst (v := nI 0) hx hb dX5_layFar_0 (by decide) ?_
  refine lv_istore_n (lv' := [(2, .int (nI 0)), (0, .ref m0), (1, .int (nI k0))]) hx hb dX5_layFar_1 rfl hl (by decide) rfl (fun ls hl => ?_)
  have L2 : ∀ (n_ : Nat) (i : Nat) (g : Nat → Int32) (hm_ : 65 ≤ i + n_) (hi : i ≤ 64) (hg : ∀ j, j < i → g j = -1) (H : Heap) (locs : List Loc) (ls : Array Slot), va_P D vwCl [(m0, .inr (5, [.ref pg, .int (nI n), .ref rd, .int rmy, .int rpt, .int sta, .int (nI N), .int pt, .int nw, .int ou, .int si, .int en, .int w0, .int w1, .int br, .int cr, .ref ro, .ref fa, .ref wo, .ref ah, .int pf, .int (nI t), .ref he, .ref wy, .ref on_, .ref pa, .ref kr, .ref kn, .ref kh, .int kt, .int kc, .int sd, .ref sr, .ref sn, .long ha])), (ro, .inl (cA, 15, .inl r)), (fa, .inl (cA, 64, .inl g))] H → va_D A [(m0, .inr (5, [.ref pg, .int (nI n), .ref rd, .int rmy, .int rpt, .int sta, .int (nI N), .int pt, .int nw, .int ou, .int si, .int en, .int w0, .int w1, .int br, .int cr, .ref ro, .ref fa, .ref wo, .ref ah, .int pf, .int (nI t), .ref he, .ref wy, .ref on_, .ref pa, .ref kr, .ref kn, .ref kh, .int kt, .int kc, .int sd, .ref sr, .ref sn, .long ha])), (ro, .inl (cA, 15, .inl r)), (fa, .inl (cA, 64, .inl g))] → va_S A H0 H locs → lv_has ls 6 [(0, .ref m0), (1, .int (nI k0)), (2, .int (nI i))] → W p l e rm_c_X5_layFar s m args below meth c H locs 0 0 Q (F0 m 2 ls []) := by
    intro n_
    induction n_ with
    | zero =>
      intro i g hm_ hi hg
      exact absurd hm_ (by omega)
    | succ n_ ih_ =>
      intro i g hm_ hi hg H locs ls hP hD hS hl
      have ih1 := ih_
      clear ih_
      refine lv_iload_n hx hb dX5_layFar_2 rfl (lv_at hl 2 rfl) ?_
      refine lv_bipush (v := 64) hx hb dX5_layFar_3 (by decide) ?_
      refine lv_icmp_ge (tgt := 21) hx hb dX5_layFar_5 (by decide) (fun c5_2 => ?_) (fun c5_2 => ?_)
      · skip
        have ht_ : i = 64 := by have := (nI_leI (a := 64) (b := i) (by omega) (by omega)).mp c5_2; omega
        refine lv_aload_n hx hb dX5_layFar_21 rfl (lv_at hl 0 rfl) ?_
        refine va_get (D := D) (ci := 5) (v := .ref fa) (C := RX5) (T := TX5) (N := 35) hx hb hts hiX5 hown hK hP 0 rfl rfl 17 (by decide) (hts (.fieldLink RX5 19 "HeardSecondModel" "far" "[I") (by decide +kernel)) (fun _ h9 => h9) rfl dX5_layFar_22 ?_
        refine lv_iload_n hx hb dX5_layFar_25 rfl (lv_at hl 1 rfl) ?_
        refine lv_iconst (v := 0) hx hb dX5_layFar_26 (by decide) ?_
        refine va_iast hx hb hK hP hD hS 2 0 rfl rfl (z_inN (by omega) (by decide)) dX5_layFar_27 (fun H locs hP hD hS => ?_)
        have hP : va_P D vwCl [(m0, .inr (5, [.ref pg, .int (nI n), .ref rd, .int rmy, .int rpt, .int sta, .int (nI N), .int pt, .int nw, .int ou, .int si, .int en, .int w0, .int w1, .int br, .int cr, .ref ro, .ref fa, .ref wo, .ref ah, .int pf, .int (nI t), .ref he, .ref wy, .ref on_, .ref pa, .ref kr, .ref kn, .ref kh, .int kt, .int kc, .int sd, .ref sr, .ref sn, .long ha])), (ro, .inl (cA, 15, .inl r)), (fa, .inl (cA, 64, .inl (upd g (Int32.toNatClampNeg (nI k0)) 0)))] H := hP
        have hD : va_D A [(m0, .inr (5, [.ref pg, .int (nI n), .ref rd, .int rmy, .int rpt, .int sta, .int (nI N), .int pt, .int nw, .int ou, .int si, .int en, .int w0, .int w1, .int br, .int cr, .ref ro, .ref fa, .ref wo, .ref ah, .int pf, .int (nI t), .ref he, .ref wy, .ref on_, .ref pa, .ref kr, .ref kn, .ref kh, .int kt, .int kc, .int sd, .ref sr, .ref sn, .long ha])), (ro, .inl (cA, 15, .inl r)), (fa, .inl (cA, 64, .inl (upd g (Int32.toNatClampNeg (nI k0)) 0)))] := hD
        rw [show upd g (Int32.toNatClampNeg (nI k0)) 0 = upd g k0 0 from by rw [z_nat (by omega)]] at hP hD
        refine lv_iconst (v := nI 0) hx hb dX5_layFar_28 (by decide) ?_
        refine lv_istore_n (lv' := [(2, .int (nI 0)), (0, .ref m0), (1, .int (nI k0))]) hx hb dX5_layFar_29 rfl hl (by decide) rfl (fun ls hl => ?_)
        have L30 : ∀ (n_ : Nat) (st_ : Nat) (g1 : Nat → Int32) (hm_ : 65 ≤ st_ + n_) (hst : st_ ≤ 64) (h1_ : ∀ j, j < 64 → g1 j = mF3 r N ou k0 st_ j) (H : Heap) (locs : List Loc) (ls : Array Slot), va_P D vwCl [(m0, .inr (5, [.ref pg, .int (nI n), .ref rd, .int rmy, .int rpt, .int sta, .int (nI N), .int pt, .int nw, .int ou, .int si, .int en, .int w0, .int w1, .int br, .int cr, .ref ro, .ref fa, .ref wo, .ref ah, .int pf, .int (nI t), .ref he, .ref wy, .ref on_, .ref pa, .ref kr, .ref kn, .ref kh, .int kt, .int kc, .int sd, .ref sr, .ref sn, .long ha])), (ro, .inl (cA, 15, .inl r)), (fa, .inl (cA, 64, .inl g1))] H → va_D A [(m0, .inr (5, [.ref pg, .int (nI n), .ref rd, .int rmy, .int rpt, .int sta, .int (nI N), .int pt, .int nw, .int ou, .int si, .int en, .int w0, .int w1, .int br, .int cr, .ref ro, .ref fa, .ref wo, .ref ah, .int pf, .int (nI t), .ref he, .ref wy, .ref on_, .ref pa, .ref kr, .ref kn, .ref kh, .int kt, .int kc, .int sd, .ref sr, .ref sn, .long ha])), (ro, .inl (cA, 15, .inl r)), (fa, .inl (cA, 64, .inl g1))] → va_S A H0 H locs → lv_has ls 6 [(0, .ref m0), (1, .int (nI k0)), (2, .int (nI st_))] → W p l e rm_c_X5_layFar s m args below meth c H locs 0 0 Q (F0 m 30 ls []) := by
          intro n_
          induction n_ with
          | zero =>
            intro st_ g1 hm_ hst h1_
            exact absurd hm_ (by omega)
          | succ n_ ih_ =>
            intro st_ g1 hm_ hst h1_ H locs ls hP hD hS hl
            have ih3 := ih_
            clear ih_
            refine lv_iload_n hx hb dX5_layFar_30 rfl (lv_at hl 2 rfl) ?_
            refine lv_bipush (v := 64) hx hb dX5_layFar_31 (by decide) ?_
            refine lv_icmp_ge (tgt := 138) hx hb dX5_layFar_33 (by decide) (fun c33_4 => ?_) (fun c33_4 => ?_)
            · skip
              have ht_ : st_ = 64 := by have := (nI_leI (a := 64) (b := st_) (by omega) (by omega)).mp c33_4; omega
              -- path 1
              have hP : va_P D vwCl [(m0, .inr (5, [.ref pg, .int (nI n), .ref rd, .int rmy, .int rpt, .int sta, .int (nI N), .int pt, .int nw, .int ou, .int si, .int en, .int w0, .int w1, .int br, .int cr, .ref ro, .ref fa, .ref wo, .ref ah, .int pf, .int (nI t), .ref he, .ref wy, .ref on_, .ref pa, .ref kr, .ref kn, .ref kh, .int kt, .int kc, .int sd, .ref sr, .ref sn, .long ha])), (ro, .inl (cA, 15, .inl r)), (fa, .inl (cA, 64, .inl (mF3 r N ou k0 64)))] H := z_arrP hP 2 (g := (mF3 r N ou k0 64)) rfl (by clear hret hl hS hD hP hK hA hN hts hx hb hr hml hown hlocks hiX5 ih1 ih3; intro j hj; rw [h1_ j hj, ht_]) rfl
              have hD : va_D A [(m0, .inr (5, [.ref pg, .int (nI n), .ref rd, .int rmy, .int rpt, .int sta, .int (nI N), .int pt, .int nw, .int ou, .int si, .int en, .int w0, .int w1, .int br, .int cr, .ref ro, .ref fa, .ref wo, .ref ah, .int pf, .int (nI t), .ref he, .ref wy, .ref on_, .ref pa, .ref kr, .ref kn, .ref kh, .int kt, .int kc, .int sd, .ref sr, .ref sn, .long ha])), (ro, .inl (cA, 15, .inl r)), (fa, .inl (cA, 64, .inl (mF3 r N ou k0 64)))] := z_arrD hD 2 rfl rfl
              exact hret () _ _ _ _ dX5_layFar_138 (by trivial) hP hD hS
            · skip
              have hltst_ : st_ < 64 := Nat.lt_of_not_le (fun q_ => c33_4 ((nI_leI (a := 64) (b := st_) (by omega) (by omega)).mpr q_))
              refine lv_iconst (v := nI 0) hx hb dX5_layFar_36 (by decide) ?_
              refine lv_istore_n (lv' := [(3, .int (nI 0)), (0, .ref m0), (1, .int (nI k0)), (2, .int (nI st_))]) hx hb dX5_layFar_37 rfl hl (by decide) rfl (fun ls hl => ?_)
              have L38 : ∀ (n_ : Nat) (k : Nat) (g2 : Nat → Int32) (hm_ : 65 ≤ k + n_) (hk : k ≤ 64) (h2_ : g2 = mF2 r N ou st_ g1 k) (H : Heap) (locs : List Loc) (ls : Array Slot), va_P D vwCl [(m0, .inr (5, [.ref pg, .int (nI n), .ref rd, .int rmy, .int rpt, .int sta, .int (nI N), .int pt, .int nw, .int ou, .int si, .int en, .int w0, .int w1, .int br, .int cr, .ref ro, .ref fa, .ref wo, .ref ah, .int pf, .int (nI t), .ref he, .ref wy, .ref on_, .ref pa, .ref kr, .ref kn, .ref kh, .int kt, .int kc, .int sd, .ref sr, .ref sn, .long ha])), (ro, .inl (cA, 15, .inl r)), (fa, .inl (cA, 64, .inl g2))] H → va_D A [(m0, .inr (5, [.ref pg, .int (nI n), .ref rd, .int rmy, .int rpt, .int sta, .int (nI N), .int pt, .int nw, .int ou, .int si, .int en, .int w0, .int w1, .int br, .int cr, .ref ro, .ref fa, .ref wo, .ref ah, .int pf, .int (nI t), .ref he, .ref wy, .ref on_, .ref pa, .ref kr, .ref kn, .ref kh, .int kt, .int kc, .int sd, .ref sr, .ref sn, .long ha])), (ro, .inl (cA, 15, .inl r)), (fa, .inl (cA, 64, .inl g2))] → va_S A H0 H locs → lv_has ls 6 [(0, .ref m0), (1, .int (nI k0)), (2, .int (nI st_)), (3, .int (nI k))] → W p l e rm_c_X5_layFar s m args below meth c H locs 0 0 Q (F0 m 38 ls []) := by
                intro n_
                induction n_ with
                | zero =>
                  intro k g2 hm_ hk h2_
                  exact absurd hm_ (by omega)
                | succ n_ ih_ =>
                  intro k g2 hm_ hk h2_ H locs ls hP hD hS hl
                  have ih5 := ih_
                  clear ih_
                  refine lv_iload_n hx hb dX5_layFar_38 rfl (lv_at hl 3 rfl) ?_
                  refine lv_bipush (v := 64) hx hb dX5_layFar_39 (by decide) ?_
                  refine lv_icmp_ge (tgt := 132) hx hb dX5_layFar_41 (by decide) (fun c41_6 => ?_) (fun c41_6 => ?_)
                  · skip
                    have ht_ : k = 64 := by have := (nI_leI (a := 64) (b := k) (by omega) (by omega)).mp c41_6; omega
                    refine lv_iinc (v := nI (st_ + 1)) (lv' := [(2, .int (nI (st_ + 1))), (0, .ref m0), (1, .int (nI k0)), (3, .int (nI k))]) hx hb dX5_layFar_132 hl (k := 2) rfl (nI_1 st_) (by decide) rfl (fun ls hl => ?_)
                    refine lv_goto (tgt := 30) hx hb dX5_layFar_135 (by decide) ?_
                    exact ih3 (st_ + 1) g2 (by omega) (by first | assumption | omega) (by clear hret hl hS hD hP hK hA hN hts hx hb hr hml hown hlocks hiX5 ih1 ih3 ih5; intro j hj; rw [mF3, h2_, ht_]; exact mF2_congr h5 h1_ 64 (by omega) j hj) _ _ _ hP hD hS (lv_sub hl [1, 2, 0] rfl)
                  · skip
                    have hltk : k < 64 := Nat.lt_of_not_le (fun q_ => c41_6 ((nI_leI (a := 64) (b := k) (by omega) (by omega)).mpr q_))
                    refine lv_iconst (v := nI 0) hx hb dX5_layFar_44 (by decide) ?_
                    refine lv_istore (lv' := [(4, .int (nI 0)), (0, .ref m0), (1, .int (nI k0)), (2, .int (nI st_)), (3, .int (nI k))]) hx hb dX5_layFar_45 hl (by decide) rfl (fun ls hl => ?_)
                    have L47 : ∀ (n_ : Nat) (sx : Nat) (g3 : Nat → Int32) (hm_ : N + 1 ≤ sx + n_) (hs : sx ≤ N) (h3_ : g3 = mF1 r N ou st_ k g2 sx) (H : Heap) (locs : List Loc) (ls : Array Slot), va_P D vwCl [(m0, .inr (5, [.ref pg, .int (nI n), .ref rd, .int rmy, .int rpt, .int sta, .int (nI N), .int pt, .int nw, .int ou, .int si, .int en, .int w0, .int w1, .int br, .int cr, .ref ro, .ref fa, .ref wo, .ref ah, .int pf, .int (nI t), .ref he, .ref wy, .ref on_, .ref pa, .ref kr, .ref kn, .ref kh, .int kt, .int kc, .int sd, .ref sr, .ref sn, .long ha])), (ro, .inl (cA, 15, .inl r)), (fa, .inl (cA, 64, .inl g3))] H → va_D A [(m0, .inr (5, [.ref pg, .int (nI n), .ref rd, .int rmy, .int rpt, .int sta, .int (nI N), .int pt, .int nw, .int ou, .int si, .int en, .int w0, .int w1, .int br, .int cr, .ref ro, .ref fa, .ref wo, .ref ah, .int pf, .int (nI t), .ref he, .ref wy, .ref on_, .ref pa, .ref kr, .ref kn, .ref kh, .int kt, .int kc, .int sd, .ref sr, .ref sn, .long ha])), (ro, .inl (cA, 15, .inl r)), (fa, .inl (cA, 64, .inl g3))] → va_S A H0 H locs → lv_has ls 6 [(0, .ref m0), (1, .int (nI k0)), (2, .int (nI st_)), (3, .int (nI k)), (4, .int (nI sx))] → W p l e rm_c_X5_layFar s m args below meth c H locs 0 0 Q (F0 m 47 ls []) := by
                      intro n_
                      induction n_ with
                      | zero =>
                        intro sx g3 hm_ hs h3_
                        exact absurd hm_ (by omega)
                      | succ n_ ih_ =>
                        intro sx g3 hm_ hs h3_ H locs ls hP hD hS hl
                        have ih7 := ih_
                        clear ih_
                        refine lv_iload hx hb dX5_layFar_47 (lv_at hl 4 rfl) ?_
                        refine lv_aload_n hx hb dX5_layFar_49 rfl (lv_at hl 0 rfl) ?_
                        refine va_get (D := D) (ci := 5) (v := .int (nI N)) (C := RX5) (T := TX5) (N := 35) hx hb hts hiX5 hown hK hP 0 rfl rfl 6 (by decide) (hts (.fieldLink RX5 94 "HeardSecondModel" "seats" "I") (by decide +kernel)) (fun _ h9 => h9) rfl dX5_layFar_50 ?_
                        refine lv_icmp_ge (tgt := 126) hx hb dX5_layFar_53 (by decide) (fun c53_8 => ?_) (fun c53_8 => ?_)
                        · skip
                          have ht_ : sx = N := by have := (nI_leI (a := N) (b := sx) (by omega) (by omega)).mp c53_8; omega
                          refine lv_iinc (v := nI (k + 1)) (lv' := [(3, .int (nI (k + 1))), (0, .ref m0), (1, .int (nI k0)), (2, .int (nI st_)), (4, .int (nI sx))]) hx hb dX5_layFar_126 hl (k := 3) rfl (nI_1 k) (by decide) rfl (fun ls hl => ?_)
                          refine lv_goto (tgt := 38) hx hb dX5_layFar_129 (by decide) ?_
                          exact ih5 (k + 1) g3 (by omega) (by first | assumption | omega) (by clear hret hl hS hD hP hK hA hN hts hx hb hr hml hown hlocks hiX5 ih1 ih3 ih5 ih7; rw [mF2, ← h2_]; first | exact h3_.trans (congrArg (mF1 r N ou st_ k g2) ht_) | (subst h3_; exact mF1_end hne_ hs)) _ _ _ hP hD hS (lv_sub hl [1, 2, 3, 0] rfl)
                        · skip
                          have hltsx : sx < N := Nat.lt_of_not_le (fun q_ => c53_8 ((nI_leI (a := N) (b := sx) (by omega) (by omega)).mpr q_))
                          refine lv_aload_n hx hb dX5_layFar_56 rfl (lv_at hl 0 rfl) ?_
                          refine va_get (D := D) (ci := 5) (v := .ref fa) (C := RX5) (T := TX5) (N := 35) hx hb hts hiX5 hown hK hP 0 rfl rfl 17 (by decide) (hts (.fieldLink RX5 19 "HeardSecondModel" "far" "[I") (by decide +kernel)) (fun _ h9 => h9) rfl dX5_layFar_57 ?_
                          refine lv_iload_n hx hb dX5_layFar_60 rfl (lv_at hl 3 rfl) ?_
                          refine va_iald hx hb hK hP 2 0 rfl rfl (z_inN (by omega) (by decide)) dX5_layFar_61 ?_
                          refine z_top (y := g3 k) (by rw [z_nat (by omega)]) ?_
                          refine lv_iload_n hx hb dX5_layFar_62 rfl (lv_at hl 2 rfl) ?_
                          refine lv_icmp_ne (tgt := 126) hx hb dX5_layFar_63 (by decide) (fun c63_9 => ?_) (fun c63_9 => ?_)
                          · skip
                            have hne_ : ¬ g3 k = nI st_ := c63_9
                            refine lv_iinc (v := nI (k + 1)) (lv' := [(3, .int (nI (k + 1))), (0, .ref m0), (1, .int (nI k0)), (2, .int (nI st_)), (4, .int (nI sx))]) hx hb dX5_layFar_126 hl (k := 3) rfl (nI_1 k) (by decide) rfl (fun ls hl => ?_)
                            refine lv_goto (tgt := 38) hx hb dX5_layFar_129 (by decide) ?_
                            exact ih5 (k + 1) g3 (by omega) (by first | assumption | omega) (by clear hret hl hS hD hP hK hA hN hts hx hb hr hml hown hlocks hiX5 ih1 ih3 ih5 ih7; rw [mF2, ← h2_]; first | exact h3_.trans (congrArg (mF1 r N ou st_ k g2) ht_) | (subst h3_; exact mF1_end hne_ hs)) _ _ _ hP hD hS (lv_sub hl [1, 2, 3, 0] rfl)
                          · skip
                            have heq_ : g3 k = nI st_ := c63_9
                            refine lv_aload_n hx hb dX5_layFar_66 rfl (lv_at hl 0 rfl) ?_
                            refine lv_iload hx hb dX5_layFar_67 (lv_at hl 4 rfl) ?_
                            refine lv_iload_n hx hb dX5_layFar_69 rfl (lv_at hl 3 rfl) ?_
                            refine z_bri (z_runV (As := [.int (nI sx), .int (nI k)]) (rest := []) (ci := 5) ⟨hx, hb, hml, hown, hts⟩ (c_X5_counts (m0 := m0) (pg := pg) (rd := rd) (ro := ro) (fa := fa) (wo := wo) (ah := ah) (he := he) (wy := wy) (on_ := on_) (pa := pa) (kr := kr) (kn := kn) (kh := kh) (sr := sr) (sn := sn) (n := n) (N := N) (t := t) (rmy := rmy) (rpt := rpt) (sta := sta) (pt := pt) (nw := nw) (ou := ou) (si := si) (en := en) (w0 := w0) (w1 := w1) (br := br) (cr := cr) (pf := pf) (kt := kt) (kc := kc) (sd := sd) (ha := ha) (r := r) (sx := sx) (k := k) (by first | assumption | omega) (by first | assumption | omega) _) (cwV 2 hts gX5_layFar_X5_counts rfl rfl rfl (by decide +kernel) ⟨Nat.le_of_ble_eq_true rfl, Nat.le_of_ble_eq_true rfl⟩) hK hP hD hN [0, 1] rfl rfl rfl rfl rfl hl.1 rfl (Nat.le_of_ble_eq_true rfl) dX5_layFar_70 ⟨Nat.zero_le _, Nat.zero_le _⟩) hP hD hS hA [0, 1] rfl (fun r_11 u_12 H locs hq_10 hP hS => ?_)
                            obtain rfl : r_11 = bI (mCounts r ou sx k) := hq_10
                            refine lv_if_eq (tgt := 86) hx hb dX5_layFar_73 (by decide) (fun c73_13 => ?_) (fun c73_13 => ?_)
                            · skip
                              have c73_13 := bI_0.mp c73_13
                              refine lv_iload_n hx hb dX5_layFar_86 rfl (lv_at hl 3 rfl) ?_
                              refine lv_istore (lv' := [(5, .int (nI k)), (0, .ref m0), (1, .int (nI k0)), (2, .int (nI st_)), (3, .int (nI k)), (4, .int (nI sx))]) hx hb dX5_layFar_87 hl (by decide) rfl (fun ls hl => ?_)
                              have hto_ : k < 64 := by omega
                              refine lv_aload_n hx hb dX5_layFar_89 rfl (lv_at hl 1 rfl) ?_
                              refine va_get (D := D) (ci := 5) (v := .ref fa) (C := RX5) (T := TX5) (N := 35) hx hb hts hiX5 hown hK hP 0 rfl rfl 17 (by decide) (hts (.fieldLink RX5 19 "HeardSecondModel" "far" "[I") (by decide +kernel)) (fun _ h9 => h9) rfl dX5_layFar_90 ?_
                              refine lv_iload hx hb dX5_layFar_93 (lv_at hl 0 rfl) ?_
                              refine lv_aload_n hx hb dX5_layFar_95 rfl (lv_at hl 1 rfl) ?_
                              refine va_get (D := D) (ci := 5) (v := .ref fa) (C := RX5) (T := TX5) (N := 35) hx hb hts hiX5 hown hK hP 0 rfl rfl 17 (by decide) (hts (.fieldLink RX5 19 "HeardSecondModel" "far" "[I") (by decide +kernel)) (fun _ h9 => h9) rfl dX5_layFar_96 ?_
                              refine lv_iload hx hb dX5_layFar_99 (lv_at hl 0 rfl) ?_
                              refine va_iald hx hb hK hP 2 0 rfl rfl (z_inN (by assumption) (by decide)) dX5_layFar_101 ?_
                              refine z_top (y := g3 k) (by rw [z_nat (by omega)]) ?_
                              refine lv_iconst (v := (-1)) hx hb dX5_layFar_102 (by decide) ?_
                              refine lv_icmp_ne (tgt := 112) hx hb dX5_layFar_103 (by decide) (fun c103_14 => ?_) (fun c103_14 => ?_)
                              · skip
                                refine lv_aload_n hx hb dX5_layFar_112 rfl (lv_at hl 1 rfl) ?_
                                refine va_get (D := D) (ci := 5) (v := .ref fa) (C := RX5) (T := TX5) (N := 35) hx hb hts hiX5 hown hK hP 0 rfl rfl 17 (by decide) (hts (.fieldLink RX5 19 "HeardSecondModel" "far" "[I") (by decide +kernel)) (fun _ h9 => h9) rfl dX5_layFar_113 ?_
                                refine lv_iload hx hb dX5_layFar_116 (lv_at hl 0 rfl) ?_
                                refine va_iald hx hb hK hP 2 0 rfl rfl (z_inN (by assumption) (by decide)) dX5_layFar_118 ?_
                                refine z_top (y := g3 k) (by rw [z_nat (by omega)]) ?_
                                refine va_iast hx hb hK hP hD hS 2 0 rfl rfl (z_inN (by assumption) (by decide)) dX5_layFar_119 (fun H locs hP hD hS => ?_)
                                have hP : va_P D vwCl [(m0, .inr (5, [.ref pg, .int (nI n), .ref rd, .int rmy, .int rpt, .int sta, .int (nI N), .int pt, .int nw, .int ou, .int si, .int en, .int w0, .int w1, .int br, .int cr, .ref ro, .ref fa, .ref wo, .ref ah, .int pf, .int (nI t), .ref he, .ref wy, .ref on_, .ref pa, .ref kr, .ref kn, .ref kh, .int kt, .int kc, .int sd, .ref sr, .ref sn, .long ha])), (ro, .inl (cA, 15, .inl r)), (fa, .inl (cA, 64, .inl (upd g3 (Int32.toNatClampNeg (nI k)) (g3 k))))] H := hP
                                have hD : va_D A [(m0, .inr (5, [.ref pg, .int (nI n), .ref rd, .int rmy, .int rpt, .int sta, .int (nI N), .int pt, .int nw, .int ou, .int si, .int en, .int w0, .int w1, .int br, .int cr, .ref ro, .ref fa, .ref wo, .ref ah, .int pf, .int (nI t), .ref he, .ref wy, .ref on_, .ref pa, .ref kr, .ref kn, .ref kh, .int kt, .int kc, .int sd, .ref sr, .ref sn, .long ha])), (ro, .inl (cA, 15, .inl r)), (fa, .inl (cA, 64, .inl (upd g3 (Int32.toNatClampNeg (nI k)) (g3 k))))] := hD
                                rw [show upd g3 (Int32.toNatClampNeg (nI k)) (g3 k) = upd g3 k (g3 k) from by rw [z_nat (by omega)]] at hP hD
                                refine lv_iinc (v := nI (sx + 1)) (lv' := [(4, .int (nI (sx + 1))), (5, .int (nI k)), (0, .ref m0), (1, .int (nI k0)), (2, .int (nI st_)), (3, .int (nI k))]) hx hb dX5_layFar_120 hl (k := 5) rfl (nI_1 sx) (by decide) rfl (fun ls hl => ?_)
                                refine lv_goto (tgt := 47) hx hb dX5_layFar_123 (by decide) ?_
                                exact ih7 (sx + 1) (upd g3 k (g3 k)) (by omega) (by first | assumption | omega) (by clear hret hl hS hD hP hK hA hN hts hx hb hr hml hown hlocks hiX5 ih1 ih3 ih5 ih7; rw [mF1, ← h3_, if_pos (by assumption)]; simp_all) _ _ _ hP hD hS (lv_sub hl [2, 3, 4, 5, 0] rfl)
                              · skip
                                refine lv_iload_n hx hb dX5_layFar_106 rfl (lv_at hl 3 rfl) ?_
                                refine lv_iconst (v := 1) hx hb dX5_layFar_107 (by decide) ?_
                                refine lv_iadd hx hb dX5_layFar_108 ?_
                                refine z_top (y := nI (st_ + 1)) (nI_1 st_) ?_
                                refine lv_goto (tgt := 119) hx hb dX5_layFar_109 (by decide) ?_
                                refine va_iast hx hb hK hP hD hS 2 0 rfl rfl (z_inN (by assumption) (by decide)) dX5_layFar_119 (fun H locs hP hD hS => ?_)
                                have hP : va_P D vwCl [(m0, .inr (5, [.ref pg, .int (nI n), .ref rd, .int rmy, .int rpt, .int sta, .int (nI N), .int pt, .int nw, .int ou, .int si, .int en, .int w0, .int w1, .int br, .int cr, .ref ro, .ref fa, .ref wo, .ref ah, .int pf, .int (nI t), .ref he, .ref wy, .ref on_, .ref pa, .ref kr, .ref kn, .ref kh, .int kt, .int kc, .int sd, .ref sr, .ref sn, .long ha])), (ro, .inl (cA, 15, .inl r)), (fa, .inl (cA, 64, .inl (upd g3 (Int32.toNatClampNeg (nI k)) (nI (st_ + 1)))))] H := hP
                                have hD : va_D A [(m0, .inr (5, [.ref pg, .int (nI n), .ref rd, .int rmy, .int rpt, .int sta, .int (nI N), .int pt, .int nw, .int ou, .int si, .int en, .int w0, .int w1, .int br, .int cr, .ref ro, .ref fa, .ref wo, .ref ah, .int pf, .int (nI t), .ref he, .ref wy, .ref on_, .ref pa, .ref kr, .ref kn, .ref kh, .int kt, .int kc, .int sd, .ref sr, .ref sn, .long ha])), (ro, .inl (cA, 15, .inl r)), (fa, .inl (cA, 64, .inl (upd g3 (Int32.toNatClampNeg (nI k)) (nI (st_ + 1)))))] := hD
                                rw [show upd g3 (Int32.toNatClampNeg (nI k)) (nI (st_ + 1)) = upd g3 k (nI (st_ + 1)) from by rw [z_nat (by omega)]] at hP hD
                                refine lv_iinc (v := nI (sx + 1)) (lv' := [(4, .int (nI (sx + 1))), (5, .int (nI k)), (0, .ref m0), (1, .int (nI k0)), (2, .int (nI st_)), (3, .int (nI k))]) hx hb dX5_layFar_120 hl (k := 5) rfl (nI_1 sx) (by decide) rfl (fun ls hl => ?_)
                                refine lv_goto (tgt := 47) hx hb dX5_layFar_123 (by decide) ?_
                                exact ih7 (sx + 1) (upd g3 k (nI (st_ + 1))) (by omega) (by first | assumption | omega) (by clear hret hl hS hD hP hK hA hN hts hx hb hr hml hown hlocks hiX5 ih1 ih3 ih5 ih7; rw [mF1, ← h3_, if_pos (by assumption)]; simp_all) _ _ _ hP hD hS (lv_sub hl [2, 3, 4, 5, 0] rfl)
                            · skip
                              have c73_13 := bI_n0.mp c73_13
                              refine lv_aload_n hx hb dX5_layFar_76 rfl (lv_at hl 0 rfl) ?_
                              refine lv_iload hx hb dX5_layFar_77 (lv_at hl 4 rfl) ?_
                              refine lv_iload_n hx hb dX5_layFar_79 rfl (lv_at hl 3 rfl) ?_
                              refine z_bri (z_runV (As := [.int (nI sx), .int (nI k)]) (rest := []) (ci := 5) ⟨hx, hb, hml, hown, hts⟩ (c_X5_behind (m0 := m0) (pg := pg) (rd := rd) (ro := ro) (fa := fa) (wo := wo) (ah := ah) (he := he) (wy := wy) (on_ := on_) (pa := pa) (kr := kr) (kn := kn) (kh := kh) (sr := sr) (sn := sn) (n := n) (N := N) (t := t) (rmy := rmy) (rpt := rpt) (sta := sta) (pt := pt) (nw := nw) (ou := ou) (si := si) (en := en) (w0 := w0) (w1 := w1) (br := br) (cr := cr) (pf := pf) (kt := kt) (kc := kc) (sd := sd) (ha := ha) (r := r) (sx := sx) (k := k) (by first | assumption | omega) (by first | assumption | omega) (by first | assumption | omega) _) (cwV 2 hts gX5_layFar_X5_behind rfl rfl rfl (by decide +kernel) ⟨Nat.le_of_ble_eq_true rfl, Nat.le_of_ble_eq_true rfl⟩) hK hP hD hN [0, 1] rfl rfl rfl rfl rfl hl.1 rfl (Nat.le_of_ble_eq_true rfl) dX5_layFar_80 ⟨Nat.zero_le _, Nat.zero_le _⟩) hP hD hS hA [0, 1] rfl (fun r_16 u_17 H locs hq_15 hP hS => ?_)
                              obtain rfl : r_16 = nI (mBeh r N sx k) := hq_15
                              refine lv_goto (tgt := 87) hx hb dX5_layFar_83 (by decide) ?_
                              refine lv_istore (lv' := [(5, .int (nI (mBeh r N sx k))), (0, .ref m0), (1, .int (nI k0)), (2, .int (nI st_)), (3, .int (nI k)), (4, .int (nI sx))]) hx hb dX5_layFar_87 hl (by decide) rfl (fun ls hl => ?_)
                              have hto_ : mBeh r N sx k < 64 := mBeh_64 (by omega) (by omega) h5
                              refine lv_aload_n hx hb dX5_layFar_89 rfl (lv_at hl 1 rfl) ?_
                              refine va_get (D := D) (ci := 5) (v := .ref fa) (C := RX5) (T := TX5) (N := 35) hx hb hts hiX5 hown hK hP 0 rfl rfl 17 (by decide) (hts (.fieldLink RX5 19 "HeardSecondModel" "far" "[I") (by decide +kernel)) (fun _ h9 => h9) rfl dX5_layFar_90 ?_
                              refine lv_iload hx hb dX5_layFar_93 (lv_at hl 0 rfl) ?_
                              refine lv_aload_n hx hb dX5_layFar_95 rfl (lv_at hl 1 rfl) ?_
                              refine va_get (D := D) (ci := 5) (v := .ref fa) (C := RX5) (T := TX5) (N := 35) hx hb hts hiX5 hown hK hP 0 rfl rfl 17 (by decide) (hts (.fieldLink RX5 19 "HeardSecondModel" "far" "[I") (by decide +kernel)) (fun _ h9 => h9) rfl dX5_layFar_96 ?_
                              refine lv_iload hx hb dX5_layFar_99 (lv_at hl 0 rfl) ?_
                              refine va_iald hx hb hK hP 2 0 rfl rfl (z_inN (by assumption) (by decide)) dX5_layFar_101 ?_
                              refine z_top (y := g3 (mBeh r N sx k)) (by rw [z_nat (by omega)]) ?_
                              refine lv_iconst (v := (-1)) hx hb dX5_layFar_102 (by decide) ?_
                              refine lv_icmp_ne (tgt := 112) hx hb dX5_layFar_103 (by decide) (fun c103_18 => ?_) (fun c103_18 => ?_)
                              · skip
                                refine lv_aload_n hx hb dX5_layFar_112 rfl (lv_at hl 1 rfl) ?_
                                refine va_get (D := D) (ci := 5) (v := .ref fa) (C := RX5) (T := TX5) (N := 35) hx hb hts hiX5 hown hK hP 0 rfl rfl 17 (by decide) (hts (.fieldLink RX5 19 "HeardSecondModel" "far" "[I") (by decide +kernel)) (fun _ h9 => h9) rfl dX5_layFar_113 ?_
                                refine lv_iload hx hb dX5_layFar_116 (lv_at hl 0 rfl) ?_
                                refine va_iald hx hb hK hP 2 0 rfl rfl (z_inN (by assumption) (by decide)) dX5_layFar_118 ?_
                                refine z_top (y := g3 (mBeh r N sx k)) (by rw [z_nat (by omega)]) ?_
                                refine va_iast hx hb hK hP hD hS 2 0 rfl rfl (z_inN (by assumption) (by decide)) dX5_layFar_119 (fun H locs hP hD hS => ?_)
                                have hP : va_P D vwCl [(m0, .inr (5, [.ref pg, .int (nI n), .ref rd, .int rmy, .int rpt, .int sta, .int (nI N), .int pt, .int nw, .int ou, .int si, .int en, .int w0, .int w1, .int br, .int cr, .ref ro, .ref fa, .ref wo, .ref ah, .int pf, .int (nI t), .ref he, .ref wy, .ref on_, .ref pa, .ref kr, .ref kn, .ref kh, .int kt, .int kc, .int sd, .ref sr, .ref sn, .long ha])), (ro, .inl (cA, 15, .inl r)), (fa, .inl (cA, 64, .inl (upd g3 (Int32.toNatClampNeg (nI (mBeh r N sx k))) (g3 (mBeh r N sx k)))))] H := hP
                                have hD : va_D A [(m0, .inr (5, [.ref pg, .int (nI n), .ref rd, .int rmy, .int rpt, .int sta, .int (nI N), .int pt, .int nw, .int ou, .int si, .int en, .int w0, .int w1, .int br, .int cr, .ref ro, .ref fa, .ref wo, .ref ah, .int pf, .int (nI t), .ref he, .ref wy, .ref on_, .ref pa, .ref kr, .ref kn, .ref kh, .int kt, .int kc, .int sd, .ref sr, .ref sn, .long ha])), (ro, .inl (cA, 15, .inl r)), (fa, .inl (cA, 64, .inl (upd g3 (Int32.toNatClampNeg (nI (mBeh r N sx k))) (g3 (mBeh r N sx k)))))] := hD
                                rw [show upd g3 (Int32.toNatClampNeg (nI (mBeh r N sx k))) (g3 (mBeh r N sx k)) = upd g3 (mBeh r N sx k) (g3 (mBeh r N sx k)) from by rw [z_nat (by omega)]] at hP hD
                                refine lv_iinc (v := nI (sx + 1)) (lv' := [(4, .int (nI (sx + 1))), (5, .int (nI (mBeh r N sx k))), (0, .ref m0), (1, .int (nI k0)), (2, .int (nI st_)), (3, .int (nI k))]) hx hb dX5_layFar_120 hl (k := 5) rfl (nI_1 sx) (by decide) rfl (fun ls hl => ?_)
                                refine lv_goto (tgt := 47) hx hb dX5_layFar_123 (by decide) ?_
                                exact ih7 (sx + 1) (upd g3 (mBeh r N sx k) (g3 (mBeh r N sx k))) (by omega) (by first | assumption | omega) (by clear hret hl hS hD hP hK hA hN hts hx hb hr hml hown hlocks hiX5 ih1 ih3 ih5 ih7; rw [mF1, ← h3_, if_pos (by assumption)]; simp_all) _ _ _ hP hD hS (lv_sub hl [2, 3, 4, 5, 0] rfl)
                              · skip
                                refine lv_iload_n hx hb dX5_layFar_106 rfl (lv_at hl 3 rfl) ?_
                                refine lv_iconst (v := 1) hx hb dX5_layFar_107 (by decide) ?_
                                refine lv_iadd hx hb dX5_layFar_108 ?_
                                refine z_top (y := nI (st_ + 1)) (nI_1 st_) ?_
                                refine lv_goto (tgt := 119) hx hb dX5_layFar_109 (by decide) ?_
                                refine va_iast hx hb hK hP hD hS 2 0 rfl rfl (z_inN (by assumption) (by decide)) dX5_layFar_119 (fun H locs hP hD hS => ?_)
                                have hP : va_P D vwCl [(m0, .inr (5, [.ref pg, .int (nI n), .ref rd, .int rmy, .int rpt, .int sta, .int (nI N), .int pt, .int nw, .int ou, .int si, .int en, .int w0, .int w1, .int br, .int cr, .ref ro, .ref fa, .ref wo, .ref ah, .int pf, .int (nI t), .ref he, .ref wy, .ref on_, .ref pa, .ref kr, .ref kn, .ref kh, .int kt, .int kc, .int sd, .ref sr, .ref sn, .long ha])), (ro, .inl (cA, 15, .inl r)), (fa, .inl (cA, 64, .inl (upd g3 (Int32.toNatClampNeg (nI (mBeh r N sx k))) (nI (st_ + 1)))))] H := hP
                                have hD : va_D A [(m0, .inr (5, [.ref pg, .int (nI n), .ref rd, .int rmy, .int rpt, .int sta, .int (nI N), .int pt, .int nw, .int ou, .int si, .int en, .int w0, .int w1, .int br, .int cr, .ref ro, .ref fa, .ref wo, .ref ah, .int pf, .int (nI t), .ref he, .ref wy, .ref on_, .ref pa, .ref kr, .ref kn, .ref kh, .int kt, .int kc, .int sd, .ref sr, .ref sn, .long ha])), (ro, .inl (cA, 15, .inl r)), (fa, .inl (cA, 64, .inl (upd g3 (Int32.toNatClampNeg (nI (mBeh r N sx k))) (nI (st_ + 1)))))] := hD
                                rw [show upd g3 (Int32.toNatClampNeg (nI (mBeh r N sx k))) (nI (st_ + 1)) = upd g3 (mBeh r N sx k) (nI (st_ + 1)) from by rw [z_nat (by omega)]] at hP hD
                                refine lv_iinc (v := nI (sx + 1)) (lv' := [(4, .int (nI (sx + 1))), (5, .int (nI (mBeh r N sx k))), (0, .ref m0), (1, .int (nI k0)), (2, .int (nI st_)), (3, .int (nI k))]) hx hb dX5_layFar_120 hl (k := 5) rfl (nI_1 sx) (by decide) rfl (fun ls hl => ?_)
                                refine lv_goto (tgt := 47) hx hb dX5_layFar_123 (by decide) ?_
                                exact ih7 (sx + 1) (upd g3 (mBeh r N sx k) (nI (st_ + 1))) (by omega) (by first | assumption | omega) (by clear hret hl hS hD hP hK hA hN hts hx hb hr hml hown hlocks hiX5 ih1 ih3 ih5 ih7; rw [mF1, ← h3_, if_pos (by assumption)]; simp_all) _ _ _ hP hD hS (lv_sub hl [2, 3, 4, 5, 0] rfl)
                    exact L47 (N + 1) 0 g2 (by omega) (by first | assumption | omega) (by rfl) _ _ _ hP hD hS (lv_sub hl [1, 2, 3, 4, 0] rfl)
              exact L38 65 0 g1 (by omega) (by first | assumption | omega) (by rfl) _ _ _ hP hD hS (lv_sub hl [1, 2, 3, 0] rfl)
        exact L30 65 0 (upd g k0 0) (by omega) (by first | assumption | omega) (by clear hret hl hS hD hP hK hA hN hts hx hb hr hml hown hlocks hiX5 ih1 L30; intro j hj; show _ = upd (fun _ => -1) k0 0 j; unfold upd; split <;> first | rfl | exact hg j (by omega)) _ _ _ hP hD hS (lv_sub hl [1, 2, 0] rfl)
      · skip
        have hlti : i < 64 := Nat.lt_of_not_le (fun q_ => c5_2 ((nI_leI (a := 64) (b := i) (by omega) (by omega)).mpr q_))
        refine lv_aload_n hx hb dX5_layFar_8 rfl (lv_at hl 0 rfl) ?_
        refine va_get (D := D) (ci := 5) (v := .ref fa) (C := RX5) (T := TX5) (N := 35) hx hb hts hiX5 hown hK hP 0 rfl rfl 17 (by decide) (hts (.fieldLink RX5 19 "HeardSecondModel" "far" "[I") (by decide +kernel)) (fun _ h9 => h9) rfl dX5_layFar_9 ?_
        refine lv_iload_n hx hb dX5_layFar_12 rfl (lv_at hl 2 rfl) ?_
        refine lv_iconst (v := (-1)) hx hb dX5_layFar_13 (by decide) ?_
        refine va_iast hx hb hK hP hD hS 2 0 rfl rfl (z_inN (by omega) (by decide)) dX5_layFar_14 (fun H locs hP hD hS => ?_)
        have hP : va_P D vwCl [(m0, .inr (5, [.ref pg, .int (nI n), .ref rd, .int rmy, .int rpt, .int sta, .int (nI N), .int pt, .int nw, .int ou, .int si, .int en, .int w0, .int w1, .int br, .int cr, .ref ro, .ref fa, .ref wo, .ref ah, .int pf, .int (nI t), .ref he, .ref wy, .ref on_, .ref pa, .ref kr, .ref kn, .ref kh, .int kt, .int kc, .int sd, .ref sr, .ref sn, .long ha])), (ro, .inl (cA, 15, .inl r)), (fa, .inl (cA, 64, .inl (upd g (Int32.toNatClampNeg (nI i)) (-1))))] H := hP
        have hD : va_D A [(m0, .inr (5, [.ref pg, .int (nI n), .ref rd, .int rmy, .int rpt, .int sta, .int (nI N), .int pt, .int nw, .int ou, .int si, .int en, .int w0, .int w1, .int br, .int cr, .ref ro, .ref fa, .ref wo, .ref ah, .int pf, .int (nI t), .ref he, .ref wy, .ref on_, .ref pa, .ref kr, .ref kn, .ref kh, .int kt, .int kc, .int sd, .ref sr, .ref sn, .long ha])), (ro, .inl (cA, 15, .inl r)), (fa, .inl (cA, 64, .inl (upd g (Int32.toNatClampNeg (nI i)) (-1))))] := hD
        rw [show upd g (Int32.toNatClampNeg (nI i)) (-1) = upd g i (-1) from by rw [z_nat (by omega)]] at hP hD
        refine lv_iinc (v := nI (i + 1)) (lv' := [(2, .int (nI (i + 1))), (0, .ref m0), (1, .int (nI k0))]) hx hb dX5_layFar_15 hl (k := 2) rfl (nI_1 i) (by decide) rfl (fun ls hl => ?_)
        refine lv_goto (tgt := 2) hx hb dX5_layFar_18 (by decide) ?_
        exact ih1 (i + 1) (upd g i (-1)) (by omega) (by first | assumption | omega) (by clear hret hl hS hD hP hK hA hN hts hx hb hr hml hown hlocks hiX5 ih1; intro j hj; unfold upd; split <;> first | rfl | exact hg j (by omega)) _ _ _ hP hD hS (lv_sub hl [1, 2, 0] rfl)
  exact L2 65 0 fa_ (by omega) (by first | assumption | omega) (by clear hret hl hS hD hP hK hA hN hts hx hb hr hml hown hlocks hiX5 L2; intro j hj; omega) _ _ _ hP hD hS (lv_sub hl [1, 2, 0] rfl)
abbrev rm_c_X5_fewFrom : Room := { frames := 2, cells := 0, slots := 0, locals := 51 }
set_option maxHeartbeats 1000000 in
set_option maxRecDepth 20000 in
theorem c_X5_fewFrom {l : Launch} {D : va_G} {cA : ClassId} {m0 : Nat} {pg : Nat} {rd : Nat} {ro : Nat} {fa : Nat} {wo : Nat} {ah : Nat} {he : Nat} {wy : Nat} {on_ : Nat} {pa : Nat} {kr : Nat} {kn : Nat} {kh : Nat} {sr : Nat} {sn : Nat} {n : Nat} {N : Nat} {t : Nat} {rmy : Int32} {rpt : Int32} {sta : Int32} {pt : Int32} {nw : Int32} {ou : Int32} {si : Int32} {en : Int32} {w0 : Int32} {w1 : Int32} {br : Int32} {cr : Int32} {pf : Int32} {kt : Int32} {kc : Int32} {sd : Int32} {ha : Int64} {r : Nat → Int32} {fa_ : Nat → Int32} {k0 : Nat} {x : Int32} (h5 : N ≤ 5) (hk0 : k0 < 64) : zMi l yX5_fewFrom wsX5_fewFrom rm_c_X5_fewFrom D cA [(m0, .inr (5, [.ref pg, .int (nI n), .ref rd, .int rmy, .int rpt, .int sta, .int (nI N), .int pt, .int nw, .int ou, .int si, .int en, .int w0, .int w1, .int br, .int cr, .ref ro, .ref fa, .ref wo, .ref ah, .int pf, .int (nI t), .ref he, .ref wy, .ref on_, .ref pa, .ref kr, .ref kn, .ref kh, .int kt, .int kc, .int sd, .ref sr, .ref sn, .long ha])), (ro, .inl (cA, 15, .inl r)), (fa, .inl (cA, 64, .inl fa_))] [.ref m0, .int (nI k0), .int x] (fun (ret_ : Int32) (_ : Unit) => ret_ = mFewest r N ou k0 x) (fun (_ : Unit) => [(m0, .inr (5, [.ref pg, .int (nI n), .ref rd, .int rmy, .int rpt, .int sta, .int (nI N), .int pt, .int nw, .int ou, .int si, .int en, .int w0, .int w1, .int br, .int cr, .ref ro, .ref fa, .ref wo, .ref ah, .int pf, .int (nI t), .ref he, .ref wy, .ref on_, .ref pa, .ref kr, .ref kn, .ref kh, .int kt, .int kc, .int sd, .ref sr, .ref sn, .long ha])), (ro, .inl (cA, 15, .inl r)), (fa, .inl (cA, 64, .inl (mF3 r N ou k0 64)))]) := by
  refine z_enteri (cc := cX5_fewFrom) (maxL := 5) (ty := .int) (by decide) rfl (Nat.le_of_ble_eq_true rfl) (fun p e s m args below meth c ls A H0 H locs Q hi_ hA hK hP hD hS hl hret => ?_)
  obtain ⟨hx, hb, hr, hml, hown, hts, hlocks, hN⟩ := hi_
  have hl : lv_has ls 5 [(0, .ref m0), (1, .int (nI k0)), (2, .int x)] := hl
  have hiX5 : ∀ w ∈ wsX50, w ∈ wsX5_fewFrom := by decide +kernel
  refine lv_aload_n hx hb dX5_fewFrom_0 rfl (lv_at hl 0 rfl) ?_
  refine lv_iload_n hx hb dX5_fewFrom_1 rfl (lv_at hl 1 rfl) ?_
  refine z_bwv (wr := []) (ws' := fun (_ : Unit) => [(m0, .inr (5, [.ref pg, .int (nI n), .ref rd, .int rmy, .int rpt, .int sta, .int (nI N), .int pt, .int nw, .int ou, .int si, .int en, .int w0, .int w1, .int br, .int cr, .ref ro, .ref fa, .ref wo, .ref ah, .int pf, .int (nI t), .ref he, .ref wy, .ref on_, .ref pa, .ref kr, .ref kn, .ref kh, .int kt, .int kc, .int sd, .ref sr, .ref sn, .long ha])), (ro, .inl (cA, 15, .inl r)), (fa, .inl (cA, 64, .inl (mF3 r N ou k0 64)))]) (z_runV (As := [.int (nI k0)]) (rest := []) (ci := 5) ⟨hx, hb, hml, hown, hts⟩ (c_X5_layFar (m0 := m0) (pg := pg) (rd := rd) (ro := ro) (fa := fa) (wo := wo) (ah := ah) (he := he) (wy := wy) (on_ := on_) (pa := pa) (kr := kr) (kn := kn) (kh := kh) (sr := sr) (sn := sn) (n := n) (N := N) (t := t) (rmy := rmy) (rpt := rpt) (sta := sta) (pt := pt) (nw := nw) (ou := ou) (si := si) (en := en) (w0 := w0) (w1 := w1) (br := br) (cr := cr) (pf := pf) (kt := kt) (kc := kc) (sd := sd) (ha := ha) (r := r) (fa_ := fa_) (k0 := k0) (by first | assumption | omega) (by first | assumption | omega) _) (cwV 1 hts gX5_fewFrom_X5_layFar rfl rfl rfl (by decide +kernel) ⟨Nat.le_of_ble_eq_true rfl, Nat.le_of_ble_eq_true rfl⟩) hK hP hD hN [0, 1, 2] rfl rfl rfl rfl rfl hl.1 rfl (Nat.le_of_ble_eq_true rfl) dX5_fewFrom_2 ⟨Nat.zero_le _, Nat.zero_le _⟩) hP hD hS hA [0, 1, 2] [] [0, 1, 2] rfl rfl rfl (by decide) rfl (fun _ => rfl) (fun u_3 H locs hq_1 hP hD hS => ?_)
  have hP : va_P D vwCl [(m0, .inr (5, [.ref pg, .int (nI n), .ref rd, .int rmy, .int rpt, .int sta, .int (nI N), .int pt, .int nw, .int ou, .int si, .int en, .int w0, .int w1, .int br, .int cr, .ref ro, .ref fa, .ref wo, .ref ah, .int pf, .int (nI t), .ref he, .ref wy, .ref on_, .ref pa, .ref kr, .ref kn, .ref kh, .int kt, .int kc, .int sd, .ref sr, .ref sn, .long ha])), (ro, .inl (cA, 15, .inl r)), (fa, .inl (cA, 64, .inl (mF3 r N ou k0 64)))] H := hP
  have hD : va_D A [(m0, .inr (5, [.ref pg, .int (nI n), .ref rd, .int rmy, .int rpt, .int sta, .int (nI N), .int pt, .int nw, .int ou, .int si, .int en, .int w0, .int w1, .int br, .int cr, .ref ro, .ref fa, .ref wo, .ref ah, .int pf, .int (nI t), .ref he, .ref wy, .ref on_, .ref pa, .ref kr, .ref kn, .ref kh, .int kt, .int kc, .int sd, .ref sr, .ref sn, .long ha])), (ro, .inl (cA, 15, .inl r)), (fa, .inl (cA, 64, .inl (mF3 r N ou k0 64)))] := hD
  refine lv_iconst (v := (-1)) hx hb dX5_fewFrom_5 (by decide) ?_
  refine lv_istore_n (lv' := [(3, .int (-1)), (0, .ref m0), (1, .int (nI k0)), (2, .int x)]) hx hb dX5_fewFrom_6 rfl hl (by decide) rfl (fun ls hl => ?_)
  refine lv_iconst (v := nI 0) hx hb dX5_fewFrom_7 (by decide) ?_
  refine lv_istore (lv' := [(4, .int (nI 0)), (3, .int (-1)), (0, .ref m0), (1, .int (nI k0)), (2, .int x)]) hx hb dX5_fewFrom_8 hl (by decide) rfl (fun ls hl => ?_)
  have L10 : ∀ (n_ : Nat) (k : Nat) (v : Int32) (hm_ : 65 ≤ k + n_) (hk : k ≤ 64) (hv : v = mFew (mF3 r N ou k0 64) x k) (H : Heap) (locs : List Loc) (ls : Array Slot), va_P D vwCl [(m0, .inr (5, [.ref pg, .int (nI n), .ref rd, .int rmy, .int rpt, .int sta, .int (nI N), .int pt, .int nw, .int ou, .int si, .int en, .int w0, .int w1, .int br, .int cr, .ref ro, .ref fa, .ref wo, .ref ah, .int pf, .int (nI t), .ref he, .ref wy, .ref on_, .ref pa, .ref kr, .ref kn, .ref kh, .int kt, .int kc, .int sd, .ref sr, .ref sn, .long ha])), (ro, .inl (cA, 15, .inl r)), (fa, .inl (cA, 64, .inl (mF3 r N ou k0 64)))] H → va_D A [(m0, .inr (5, [.ref pg, .int (nI n), .ref rd, .int rmy, .int rpt, .int sta, .int (nI N), .int pt, .int nw, .int ou, .int si, .int en, .int w0, .int w1, .int br, .int cr, .ref ro, .ref fa, .ref wo, .ref ah, .int pf, .int (nI t), .ref he, .ref wy, .ref on_, .ref pa, .ref kr, .ref kn, .ref kh, .int kt, .int kc, .int sd, .ref sr, .ref sn, .long ha])), (ro, .inl (cA, 15, .inl r)), (fa, .inl (cA, 64, .inl (mF3 r N ou k0 64)))] → va_S A H0 H locs → lv_has ls 5 [(0, .ref m0), (1, .int (nI k0)), (2, .int x), (3, .int v), (4, .int (nI k))] → W p l e rm_c_X5_fewFrom s m args below meth c H locs 0 0 Q (F0 m 10 ls []) := by
    intro n_
    induction n_ with
    | zero =>
      intro k v hm_ hk hv
      exact absurd hm_ (by omega)
    | succ n_ ih_ =>
      intro k v hm_ hk hv H locs ls hP hD hS hl
      have ih4 := ih_
      clear ih_
      refine lv_iload hx hb dX5_fewFrom_10 (lv_at hl 4 rfl) ?_
      refine lv_bipush (v := 64) hx hb dX5_fewFrom_12 (by decide) ?_
      refine lv_icmp_ge (tgt := 71) hx hb dX5_fewFrom_14 (by decide) (fun c14_5 => ?_) (fun c14_5 => ?_)
      · skip
        have ht_ : k = 64 := by have := (nI_leI (a := 64) (b := k) (by omega) (by omega)).mp c14_5; omega
        refine lv_iload_n hx hb dX5_fewFrom_71 rfl (lv_at hl 3 rfl) ?_
        -- path 1
        exact hret (v) () _ _ _ _ dX5_fewFrom_72 (rfl) (by clear hret hl hS hD hP hK hA hN hts hx hb hr hml hown hlocks hiX5 ih4; rw [hv, ht_]; rfl) hP hD hS
      · skip
        have hltk : k < 64 := Nat.lt_of_not_le (fun q_ => c14_5 ((nI_leI (a := 64) (b := k) (by omega) (by omega)).mpr q_))
        refine lv_iload hx hb dX5_fewFrom_17 (lv_at hl 4 rfl) ?_
        refine lv_bipush (v := 8) hx hb dX5_fewFrom_19 (by decide) ?_
        refine lv_irem hx hb dX5_fewFrom_21 (by decide) ?_
        refine z_top (y := nI (k % 8)) (z_m8 k (by omega)) ?_
        refine lv_iload_n hx hb dX5_fewFrom_22 rfl (lv_at hl 2 rfl) ?_
        refine lv_icmp_ne (tgt := 63) hx hb dX5_fewFrom_23 (by decide) (fun c23_6 => ?_) (fun c23_6 => ?_)
        · skip
          refine lv_iload_n hx hb dX5_fewFrom_63 rfl (lv_at hl 3 rfl) ?_
          refine lv_istore_n (lv' := [(3, .int v), (0, .ref m0), (1, .int (nI k0)), (2, .int x), (4, .int (nI k))]) hx hb dX5_fewFrom_64 rfl hl (by decide) rfl (fun ls hl => ?_)
          refine lv_iinc (v := nI (k + 1)) (lv' := [(4, .int (nI (k + 1))), (3, .int v), (0, .ref m0), (1, .int (nI k0)), (2, .int x)]) hx hb dX5_fewFrom_65 hl (k := 4) rfl (nI_1 k) (by decide) rfl (fun ls hl => ?_)
          refine lv_goto (tgt := 10) hx hb dX5_fewFrom_68 (by decide) ?_
          exact ih4 (k + 1) v (by omega) (by first | assumption | omega) (by clear hret hl hS hD hP hK hA hN hts hx hb hr hml hown hlocks hiX5 ih4; rw [mFew, ← hv]; first | (rw [if_pos (by first | exact ⟨by assumption, by assumption, Or.inl (by assumption)⟩ | exact ⟨by assumption, by assumption, Or.inr (Int32.not_le.mp (by assumption))⟩)]; done) | (rw [if_neg (by rintro ⟨q1, q2, q3⟩; first | exact absurd q1 (by assumption) | exact absurd (by assumption) q2 | (rcases q3 with q3 | q3 <;> first | exact absurd q3 (by assumption) | exact absurd q3 (Int32.not_lt.mpr (by assumption))))])) _ _ _ hP hD hS (lv_sub hl [2, 3, 4, 1, 0] rfl)
        · skip
          refine lv_aload_n hx hb dX5_fewFrom_26 rfl (lv_at hl 0 rfl) ?_
          refine va_get (D := D) (ci := 5) (v := .ref fa) (C := RX5) (T := TX5) (N := 35) hx hb hts hiX5 hown hK hP 0 rfl rfl 17 (by decide) (hts (.fieldLink RX5 19 "HeardSecondModel" "far" "[I") (by decide +kernel)) (fun _ h9 => h9) rfl dX5_fewFrom_27 ?_
          refine lv_iload hx hb dX5_fewFrom_30 (lv_at hl 4 rfl) ?_
          refine va_iald hx hb hK hP 2 0 rfl rfl (z_inN (by omega) (by decide)) dX5_fewFrom_32 ?_
          refine z_top (y := mF3 r N ou k0 64 k) (by rw [z_nat (by omega)]) ?_
          refine lv_iconst (v := (-1)) hx hb dX5_fewFrom_33 (by decide) ?_
          refine lv_icmp_eq (tgt := 63) hx hb dX5_fewFrom_34 (by decide) (fun c34_7 => ?_) (fun c34_7 => ?_)
          · skip
            refine lv_iload_n hx hb dX5_fewFrom_63 rfl (lv_at hl 3 rfl) ?_
            refine lv_istore_n (lv' := [(3, .int v), (0, .ref m0), (1, .int (nI k0)), (2, .int x), (4, .int (nI k))]) hx hb dX5_fewFrom_64 rfl hl (by decide) rfl (fun ls hl => ?_)
            refine lv_iinc (v := nI (k + 1)) (lv' := [(4, .int (nI (k + 1))), (3, .int v), (0, .ref m0), (1, .int (nI k0)), (2, .int x)]) hx hb dX5_fewFrom_65 hl (k := 4) rfl (nI_1 k) (by decide) rfl (fun ls hl => ?_)
            refine lv_goto (tgt := 10) hx hb dX5_fewFrom_68 (by decide) ?_
            exact ih4 (k + 1) v (by omega) (by first | assumption | omega) (by clear hret hl hS hD hP hK hA hN hts hx hb hr hml hown hlocks hiX5 ih4; rw [mFew, ← hv]; first | (rw [if_pos (by first | exact ⟨by assumption, by assumption, Or.inl (by assumption)⟩ | exact ⟨by assumption, by assumption, Or.inr (Int32.not_le.mp (by assumption))⟩)]; done) | (rw [if_neg (by rintro ⟨q1, q2, q3⟩; first | exact absurd q1 (by assumption) | exact absurd (by assumption) q2 | (rcases q3 with q3 | q3 <;> first | exact absurd q3 (by assumption) | exact absurd q3 (Int32.not_lt.mpr (by assumption))))])) _ _ _ hP hD hS (lv_sub hl [2, 3, 4, 1, 0] rfl)
          · skip
            refine lv_iload_n hx hb dX5_fewFrom_37 rfl (lv_at hl 3 rfl) ?_
            refine lv_iconst (v := (-1)) hx hb dX5_fewFrom_38 (by decide) ?_
            refine lv_icmp_eq (tgt := 53) hx hb dX5_fewFrom_39 (by decide) (fun c39_8 => ?_) (fun c39_8 => ?_)
            · skip
              refine lv_aload_n hx hb dX5_fewFrom_53 rfl (lv_at hl 0 rfl) ?_
              refine va_get (D := D) (ci := 5) (v := .ref fa) (C := RX5) (T := TX5) (N := 35) hx hb hts hiX5 hown hK hP 0 rfl rfl 17 (by decide) (hts (.fieldLink RX5 19 "HeardSecondModel" "far" "[I") (by decide +kernel)) (fun _ h9 => h9) rfl dX5_fewFrom_54 ?_
              refine lv_iload hx hb dX5_fewFrom_57 (lv_at hl 4 rfl) ?_
              refine va_iald hx hb hK hP 2 0 rfl rfl (z_inN (by omega) (by decide)) dX5_fewFrom_59 ?_
              refine z_top (y := mF3 r N ou k0 64 k) (by rw [z_nat (by omega)]) ?_
              refine lv_goto (tgt := 64) hx hb dX5_fewFrom_60 (by decide) ?_
              refine lv_istore_n (lv' := [(3, .int (mF3 r N ou k0 64 k)), (0, .ref m0), (1, .int (nI k0)), (2, .int x), (4, .int (nI k))]) hx hb dX5_fewFrom_64 rfl hl (by decide) rfl (fun ls hl => ?_)
              refine lv_iinc (v := nI (k + 1)) (lv' := [(4, .int (nI (k + 1))), (3, .int (mF3 r N ou k0 64 k)), (0, .ref m0), (1, .int (nI k0)), (2, .int x)]) hx hb dX5_fewFrom_65 hl (k := 4) rfl (nI_1 k) (by decide) rfl (fun ls hl => ?_)
              refine lv_goto (tgt := 10) hx hb dX5_fewFrom_68 (by decide) ?_
              exact ih4 (k + 1) (mF3 r N ou k0 64 k) (by omega) (by first | assumption | omega) (by clear hret hl hS hD hP hK hA hN hts hx hb hr hml hown hlocks hiX5 ih4; rw [mFew, ← hv]; first | (rw [if_pos (by first | exact ⟨by assumption, by assumption, Or.inl (by assumption)⟩ | exact ⟨by assumption, by assumption, Or.inr (Int32.not_le.mp (by assumption))⟩)]; done) | (rw [if_neg (by rintro ⟨q1, q2, q3⟩; first | exact absurd q1 (by assumption) | exact absurd (by assumption) q2 | (rcases q3 with q3 | q3 <;> first | exact absurd q3 (by assumption) | exact absurd q3 (Int32.not_lt.mpr (by assumption))))])) _ _ _ hP hD hS (lv_sub hl [2, 3, 4, 1, 0] rfl)
            · skip
              refine lv_aload_n hx hb dX5_fewFrom_42 rfl (lv_at hl 0 rfl) ?_
              refine va_get (D := D) (ci := 5) (v := .ref fa) (C := RX5) (T := TX5) (N := 35) hx hb hts hiX5 hown hK hP 0 rfl rfl 17 (by decide) (hts (.fieldLink RX5 19 "HeardSecondModel" "far" "[I") (by decide +kernel)) (fun _ h9 => h9) rfl dX5_fewFrom_43 ?_
              refine lv_iload hx hb dX5_fewFrom_46 (lv_at hl 4 rfl) ?_
              refine va_iald hx hb hK hP 2 0 rfl rfl (z_inN (by omega) (by decide)) dX5_fewFrom_48 ?_
              refine z_top (y := mF3 r N ou k0 64 k) (by rw [z_nat (by omega)]) ?_
              refine lv_iload_n hx hb dX5_fewFrom_49 rfl (lv_at hl 3 rfl) ?_
              refine lv_icmp_ge (tgt := 63) hx hb dX5_fewFrom_50 (by decide) (fun c50_9 => ?_) (fun c50_9 => ?_)
              · skip
                refine lv_iload_n hx hb dX5_fewFrom_63 rfl (lv_at hl 3 rfl) ?_
                refine lv_istore_n (lv' := [(3, .int v), (0, .ref m0), (1, .int (nI k0)), (2, .int x), (4, .int (nI k))]) hx hb dX5_fewFrom_64 rfl hl (by decide) rfl (fun ls hl => ?_)
                refine lv_iinc (v := nI (k + 1)) (lv' := [(4, .int (nI (k + 1))), (3, .int v), (0, .ref m0), (1, .int (nI k0)), (2, .int x)]) hx hb dX5_fewFrom_65 hl (k := 4) rfl (nI_1 k) (by decide) rfl (fun ls hl => ?_)
                refine lv_goto (tgt := 10) hx hb dX5_fewFrom_68 (by decide) ?_
                exact ih4 (k + 1) v (by omega) (by first | assumption | omega) (by clear hret hl hS hD hP hK hA hN hts hx hb hr hml hown hlocks hiX5 ih4; rw [mFew, ← hv]; first | (rw [if_pos (by first | exact ⟨by assumption, by assumption, Or.inl (by assumption)⟩ | exact ⟨by assumption, by assumption, Or.inr (Int32.not_le.mp (by assumption))⟩)]; done) | (rw [if_neg (by rintro ⟨q1, q2, q3⟩; first | exact absurd q1 (by assumption) | exact absurd (by assumption) q2 | (rcases q3 with q3 | q3 <;> first | exact absurd q3 (by assumption) | exact absurd q3 (Int32.not_lt.mpr (by assumption))))])) _ _ _ hP hD hS (lv_sub hl [2, 3, 4, 1, 0] rfl)
              · skip
                refine lv_aload_n hx hb dX5_fewFrom_53 rfl (lv_at hl 0 rfl) ?_
                refine va_get (D := D) (ci := 5) (v := .ref fa) (C := RX5) (T := TX5) (N := 35) hx hb hts hiX5 hown hK hP 0 rfl rfl 17 (by decide) (hts (.fieldLink RX5 19 "HeardSecondModel" "far" "[I") (by decide +kernel)) (fun _ h9 => h9) rfl dX5_fewFrom_54 ?_
                refine lv_iload hx hb dX5_fewFrom_57 (lv_at hl 4 rfl) ?_
                refine va_iald hx hb hK hP 2 0 rfl rfl (z_inN (by omega) (by decide)) dX5_fewFrom_59 ?_
                refine z_top (y := mF3 r N ou k0 64 k) (by rw [z_nat (by omega)]) ?_
                refine lv_goto (tgt := 64) hx hb dX5_fewFrom_60 (by decide) ?_
                refine lv_istore_n (lv' := [(3, .int (mF3 r N ou k0 64 k)), (0, .ref m0), (1, .int (nI k0)), (2, .int x), (4, .int (nI k))]) hx hb dX5_fewFrom_64 rfl hl (by decide) rfl (fun ls hl => ?_)
                refine lv_iinc (v := nI (k + 1)) (lv' := [(4, .int (nI (k + 1))), (3, .int (mF3 r N ou k0 64 k)), (0, .ref m0), (1, .int (nI k0)), (2, .int x)]) hx hb dX5_fewFrom_65 hl (k := 4) rfl (nI_1 k) (by decide) rfl (fun ls hl => ?_)
                refine lv_goto (tgt := 10) hx hb dX5_fewFrom_68 (by decide) ?_
                exact ih4 (k + 1) (mF3 r N ou k0 64 k) (by omega) (by first | assumption | omega) (by clear hret hl hS hD hP hK hA hN hts hx hb hr hml hown hlocks hiX5 ih4; rw [mFew, ← hv]; first | (rw [if_pos (by first | exact ⟨by assumption, by assumption, Or.inl (by assumption)⟩ | exact ⟨by assumption, by assumption, Or.inr (Int32.not_le.mp (by assumption))⟩)]; done) | (rw [if_neg (by rintro ⟨q1, q2, q3⟩; first | exact absurd q1 (by assumption) | exact absurd (by assumption) q2 | (rcases q3 with q3 | q3 <;> first | exact absurd q3 (by assumption) | exact absurd q3 (Int32.not_lt.mpr (by assumption))))])) _ _ _ hP hD hS (lv_sub hl [2, 3, 4, 1, 0] rfl)
  exact L10 65 0 (-1) (by omega) (by first | assumption | omega) (by rfl) _ _ _ hP hD hS (lv_sub hl [2, 3, 4, 1, 0] rfl)
abbrev rm_c_X5_firstOf : Room := { frames := 3, cells := 0, slots := 0, locals := 75 }
set_option maxHeartbeats 1000000 in
set_option maxRecDepth 20000 in
theorem c_X5_firstOf {l : Launch} {D : va_G} {cA : ClassId} {m0 : Nat} {pg : Nat} {rd : Nat} {ro : Nat} {fa : Nat} {wo : Nat} {ah : Nat} {he : Nat} {wy : Nat} {on_ : Nat} {pa : Nat} {kr : Nat} {kn : Nat} {kh : Nat} {sr : Nat} {sn : Nat} {n : Nat} {N : Nat} {t : Nat} {rmy : Int32} {rpt : Int32} {sta : Int32} {pt : Int32} {ou : Int32} {si : Int32} {en : Int32} {w0 : Int32} {w1 : Int32} {br : Int32} {cr : Int32} {pf : Int32} {kt : Int32} {kc : Int32} {sd : Int32} {ha : Int64} {r : Nat → Int32} {fa_ : Nat → Int32} {k0 : Nat} {x : Int32} (h5 : N ≤ 5) (hk0 : k0 < 64) : zMi l yX5_firstOf wsX5_firstOf rm_c_X5_firstOf D cA [(m0, .inr (5, [.ref pg, .int (nI n), .ref rd, .int rmy, .int rpt, .int sta, .int (nI N), .int pt, .int (nI k0), .int ou, .int si, .int en, .int w0, .int w1, .int br, .int cr, .ref ro, .ref fa, .ref wo, .ref ah, .int pf, .int (nI t), .ref he, .ref wy, .ref on_, .ref pa, .ref kr, .ref kn, .ref kh, .int kt, .int kc, .int sd, .ref sr, .ref sn, .long ha])), (ro, .inl (cA, 15, .inl r)), (fa, .inl (cA, 64, .inl fa_))] [.ref m0, .int x] (fun (ret_ : Int32) (u : Nat → Int32) => ret_ = mFirst r N ou k0 x) (fun (u : Nat → Int32) => [(m0, .inr (5, [.ref pg, .int (nI n), .ref rd, .int rmy, .int rpt, .int sta, .int (nI N), .int pt, .int (nI k0), .int ou, .int si, .int en, .int w0, .int w1, .int br, .int cr, .ref ro, .ref fa, .ref wo, .ref ah, .int pf, .int (nI t), .ref he, .ref wy, .ref on_, .ref pa, .ref kr, .ref kn, .ref kh, .int kt, .int kc, .int sd, .ref sr, .ref sn, .long ha])), (ro, .inl (cA, 15, .inl r)), (fa, .inl (cA, 64, .inl u))]) := by
  refine z_enteri (cc := cX5_firstOf) (maxL := 4) (ty := .int) (by decide) rfl (Nat.le_of_ble_eq_true rfl) (fun p e s m args below meth c ls A H0 H locs Q hi_ hA hK hP hD hS hl hret => ?_)
  obtain ⟨hx, hb, hr, hml, hown, hts, hlocks, hN⟩ := hi_
  have hl : lv_has ls 4 [(0, .ref m0), (1, .int x)] := hl
  have hiX5 : ∀ w ∈ wsX50, w ∈ wsX5_firstOf := by decide +kernel
  refine lv_aload_n hx hb dX5_firstOf_0 rfl (lv_at hl 0 rfl) ?_
  refine lv_aload_n hx hb dX5_firstOf_1 rfl (lv_at hl 0 rfl) ?_
  refine va_get (D := D) (ci := 5) (v := .int (nI k0)) (C := RX5) (T := TX5) (N := 35) hx hb hts hiX5 hown hK hP 0 rfl rfl 8 (by decide) (hts (.fieldLink RX5 59 "HeardSecondModel" "now" "I") (by decide +kernel)) (fun _ h9 => h9) rfl dX5_firstOf_2 ?_
  refine lv_iload_n hx hb dX5_firstOf_5 rfl (lv_at hl 1 rfl) ?_
  refine z_bwi (wr := []) (ws' := fun (_ : Unit) => [(m0, .inr (5, [.ref pg, .int (nI n), .ref rd, .int rmy, .int rpt, .int sta, .int (nI N), .int pt, .int (nI k0), .int ou, .int si, .int en, .int w0, .int w1, .int br, .int cr, .ref ro, .ref fa, .ref wo, .ref ah, .int pf, .int (nI t), .ref he, .ref wy, .ref on_, .ref pa, .ref kr, .ref kn, .ref kh, .int kt, .int kc, .int sd, .ref sr, .ref sn, .long ha])), (ro, .inl (cA, 15, .inl r)), (fa, .inl (cA, 64, .inl (mF3 r N ou k0 64)))]) (z_runV (As := [.int (nI k0), .int x]) (rest := []) (ci := 5) ⟨hx, hb, hml, hown, hts⟩ (c_X5_fewFrom (m0 := m0) (pg := pg) (rd := rd) (ro := ro) (fa := fa) (wo := wo) (ah := ah) (he := he) (wy := wy) (on_ := on_) (pa := pa) (kr := kr) (kn := kn) (kh := kh) (sr := sr) (sn := sn) (n := n) (N := N) (t := t) (rmy := rmy) (rpt := rpt) (sta := sta) (pt := pt) (nw := nI k0) (ou := ou) (si := si) (en := en) (w0 := w0) (w1 := w1) (br := br) (cr := cr) (pf := pf) (kt := kt) (kc := kc) (sd := sd) (ha := ha) (r := r) (fa_ := fa_) (k0 := k0) (x := x) (by first | assumption | omega) (by first | assumption | omega) _) (cwV 2 hts gX5_firstOf_X5_fewFrom rfl rfl rfl (by decide +kernel) ⟨Nat.le_of_ble_eq_true rfl, Nat.le_of_ble_eq_true rfl⟩) hK hP hD hN [0, 1, 2] rfl rfl rfl rfl rfl hl.1 rfl (Nat.le_of_ble_eq_true rfl) dX5_firstOf_6 ⟨Nat.zero_le _, Nat.zero_le _⟩) hP hD hS hA [0, 1, 2] [] [0, 1, 2] rfl rfl rfl (by decide) rfl (fun _ => rfl) (fun r_2 u_3 H locs hq_1 hP hD hS => ?_)
  obtain rfl : r_2 = mFewest r N ou k0 x := hq_1
  have hP : va_P D vwCl [(m0, .inr (5, [.ref pg, .int (nI n), .ref rd, .int rmy, .int rpt, .int sta, .int (nI N), .int pt, .int (nI k0), .int ou, .int si, .int en, .int w0, .int w1, .int br, .int cr, .ref ro, .ref fa, .ref wo, .ref ah, .int pf, .int (nI t), .ref he, .ref wy, .ref on_, .ref pa, .ref kr, .ref kn, .ref kh, .int kt, .int kc, .int sd, .ref sr, .ref sn, .long ha])), (ro, .inl (cA, 15, .inl r)), (fa, .inl (cA, 64, .inl (mF3 r N ou k0 64)))] H := hP
  have hD : va_D A [(m0, .inr (5, [.ref pg, .int (nI n), .ref rd, .int rmy, .int rpt, .int sta, .int (nI N), .int pt, .int (nI k0), .int ou, .int si, .int en, .int w0, .int w1, .int br, .int cr, .ref ro, .ref fa, .ref wo, .ref ah, .int pf, .int (nI t), .ref he, .ref wy, .ref on_, .ref pa, .ref kr, .ref kn, .ref kh, .int kt, .int kc, .int sd, .ref sr, .ref sn, .long ha])), (ro, .inl (cA, 15, .inl r)), (fa, .inl (cA, 64, .inl (mF3 r N ou k0 64)))] := hD
  refine lv_istore_n (lv' := [(2, .int (mFewest r N ou k0 x)), (0, .ref m0), (1, .int x)]) hx hb dX5_firstOf_9 rfl hl (by decide) rfl (fun ls hl => ?_)
  refine lv_iconst (v := nI 0) hx hb dX5_firstOf_10 (by decide) ?_
  refine lv_istore_n (lv' := [(3, .int (nI 0)), (2, .int (mFewest r N ou k0 x)), (0, .ref m0), (1, .int x)]) hx hb dX5_firstOf_11 rfl hl (by decide) rfl (fun ls hl => ?_)
  have L12 : ∀ (n_ : Nat) (sx : Nat) (g : Nat → Int32) (hm_ : N + 1 ≤ sx + n_) (hs : sx ≤ N) (hv : jFind (fun s => mCounts r ou s k0 && decide (mFewest r N ou (mBeh r N s k0) x = mFewest r N ou k0 x - 1)) N 0 = jFind (fun s => mCounts r ou s k0 && decide (mFewest r N ou (mBeh r N s k0) x = mFewest r N ou k0 x - 1)) (N - sx) sx) (H : Heap) (locs : List Loc) (ls : Array Slot), va_P D vwCl [(m0, .inr (5, [.ref pg, .int (nI n), .ref rd, .int rmy, .int rpt, .int sta, .int (nI N), .int pt, .int (nI k0), .int ou, .int si, .int en, .int w0, .int w1, .int br, .int cr, .ref ro, .ref fa, .ref wo, .ref ah, .int pf, .int (nI t), .ref he, .ref wy, .ref on_, .ref pa, .ref kr, .ref kn, .ref kh, .int kt, .int kc, .int sd, .ref sr, .ref sn, .long ha])), (ro, .inl (cA, 15, .inl r)), (fa, .inl (cA, 64, .inl g))] H → va_D A [(m0, .inr (5, [.ref pg, .int (nI n), .ref rd, .int rmy, .int rpt, .int sta, .int (nI N), .int pt, .int (nI k0), .int ou, .int si, .int en, .int w0, .int w1, .int br, .int cr, .ref ro, .ref fa, .ref wo, .ref ah, .int pf, .int (nI t), .ref he, .ref wy, .ref on_, .ref pa, .ref kr, .ref kn, .ref kh, .int kt, .int kc, .int sd, .ref sr, .ref sn, .long ha])), (ro, .inl (cA, 15, .inl r)), (fa, .inl (cA, 64, .inl g))] → va_S A H0 H locs → lv_has ls 4 [(0, .ref m0), (1, .int x), (2, .int (mFewest r N ou k0 x)), (3, .int (nI sx))] → W p l e rm_c_X5_firstOf s m args below meth c H locs 0 0 Q (F0 m 12 ls []) := by
    intro n_
    induction n_ with
    | zero =>
      intro sx g hm_ hs hv
      exact absurd hm_ (by omega)
    | succ n_ ih_ =>
      intro sx g hm_ hs hv H locs ls hP hD hS hl
      have ih4 := ih_
      clear ih_
      refine lv_iload_n hx hb dX5_firstOf_12 rfl (lv_at hl 3 rfl) ?_
      refine lv_aload_n hx hb dX5_firstOf_13 rfl (lv_at hl 0 rfl) ?_
      refine va_get (D := D) (ci := 5) (v := .int (nI N)) (C := RX5) (T := TX5) (N := 35) hx hb hts hiX5 hown hK hP 0 rfl rfl 6 (by decide) (hts (.fieldLink RX5 94 "HeardSecondModel" "seats" "I") (by decide +kernel)) (fun _ h9 => h9) rfl dX5_firstOf_14 ?_
      refine lv_icmp_ge (tgt := 64) hx hb dX5_firstOf_17 (by decide) (fun c17_5 => ?_) (fun c17_5 => ?_)
      · skip
        have ht_ : sx = N := by have := (nI_leI (a := N) (b := sx) (by omega) (by omega)).mp c17_5; omega
        refine lv_iconst (v := (-1)) hx hb dX5_firstOf_64 (by decide) ?_
        -- path 1
        exact hret ((-1)) g _ _ _ _ dX5_firstOf_65 (rfl) (by clear hret hl hS hD hP hK hA hN hts hx hb hr hml hown hlocks hiX5 ih4; unfold mFirst; first | (rw [if_neg (Int32.not_lt.mpr (by assumption))]; done) | (rw [if_pos (Int32.not_le.mp (by assumption)), hv, show N - sx = (N - (sx + 1)) + 1 from by omega, jFind]; simp_all; done) | (split <;> first | rfl | (rw [hv, show N - sx = 0 from by omega]; rfl))) hP hD hS
      · skip
        have hltsx : sx < N := Nat.lt_of_not_le (fun q_ => c17_5 ((nI_leI (a := N) (b := sx) (by omega) (by omega)).mpr q_))
        refine lv_iload_n hx hb dX5_firstOf_20 rfl (lv_at hl 2 rfl) ?_
        refine lv_if_le (tgt := 64) hx hb dX5_firstOf_21 (by decide) (fun c21_6 => ?_) (fun c21_6 => ?_)
        · skip
          refine lv_iconst (v := (-1)) hx hb dX5_firstOf_64 (by decide) ?_
          -- path 2
          exact hret ((-1)) g _ _ _ _ dX5_firstOf_65 (rfl) (by clear hret hl hS hD hP hK hA hN hts hx hb hr hml hown hlocks hiX5 ih4; unfold mFirst; first | (rw [if_neg (Int32.not_lt.mpr (by assumption))]; done) | (rw [if_pos (Int32.not_le.mp (by assumption)), hv, show N - sx = (N - (sx + 1)) + 1 from by omega, jFind]; simp_all; done) | (split <;> first | rfl | (rw [hv, show N - sx = 0 from by omega]; rfl))) hP hD hS
        · skip
          refine lv_aload_n hx hb dX5_firstOf_24 rfl (lv_at hl 0 rfl) ?_
          refine lv_iload_n hx hb dX5_firstOf_25 rfl (lv_at hl 3 rfl) ?_
          refine lv_aload_n hx hb dX5_firstOf_26 rfl (lv_at hl 0 rfl) ?_
          refine va_get (D := D) (ci := 5) (v := .int (nI k0)) (C := RX5) (T := TX5) (N := 35) hx hb hts hiX5 hown hK hP 0 rfl rfl 8 (by decide) (hts (.fieldLink RX5 59 "HeardSecondModel" "now" "I") (by decide +kernel)) (fun _ h9 => h9) rfl dX5_firstOf_27 ?_
          refine z_bri (z_runV (As := [.int (nI sx), .int (nI k0)]) (rest := []) (ci := 5) ⟨hx, hb, hml, hown, hts⟩ (c_X5_counts (m0 := m0) (pg := pg) (rd := rd) (ro := ro) (fa := fa) (wo := wo) (ah := ah) (he := he) (wy := wy) (on_ := on_) (pa := pa) (kr := kr) (kn := kn) (kh := kh) (sr := sr) (sn := sn) (n := n) (N := N) (t := t) (rmy := rmy) (rpt := rpt) (sta := sta) (pt := pt) (nw := nI k0) (ou := ou) (si := si) (en := en) (w0 := w0) (w1 := w1) (br := br) (cr := cr) (pf := pf) (kt := kt) (kc := kc) (sd := sd) (ha := ha) (r := r) (sx := sx) (k := k0) (by first | assumption | omega) (by first | assumption | omega) _) (cwV 2 hts gX5_firstOf_X5_counts rfl rfl rfl (by decide +kernel) ⟨Nat.le_of_ble_eq_true rfl, Nat.le_of_ble_eq_true rfl⟩) hK hP hD hN [0, 1] rfl rfl rfl rfl rfl hl.1 rfl (Nat.le_of_ble_eq_true rfl) dX5_firstOf_30 ⟨Nat.zero_le _, Nat.zero_le _⟩) hP hD hS hA [0, 1] rfl (fun r_8 u_9 H locs hq_7 hP hS => ?_)
          obtain rfl : r_8 = bI (mCounts r ou sx k0) := hq_7
          refine lv_if_eq (tgt := 58) hx hb dX5_firstOf_33 (by decide) (fun c33_10 => ?_) (fun c33_10 => ?_)
          · skip
            have c33_10 := bI_0.mp c33_10
            refine lv_iinc (v := nI (sx + 1)) (lv' := [(3, .int (nI (sx + 1))), (0, .ref m0), (1, .int x), (2, .int (mFewest r N ou k0 x))]) hx hb dX5_firstOf_58 hl (k := 3) rfl (nI_1 sx) (by decide) rfl (fun ls hl => ?_)
            refine lv_goto (tgt := 12) hx hb dX5_firstOf_61 (by decide) ?_
            exact ih4 (sx + 1) g (by omega) (by first | assumption | omega) (by clear hret hl hS hD hP hK hA hN hts hx hb hr hml hown hlocks hiX5 ih4; rw [hv, show N - sx = (N - (sx + 1)) + 1 from by omega, jFind]; simp_all) _ _ _ hP hD hS (lv_sub hl [1, 2, 3, 0] rfl)
          · skip
            have c33_10 := bI_n0.mp c33_10
            refine lv_aload_n hx hb dX5_firstOf_36 rfl (lv_at hl 0 rfl) ?_
            refine lv_aload_n hx hb dX5_firstOf_37 rfl (lv_at hl 0 rfl) ?_
            refine lv_iload_n hx hb dX5_firstOf_38 rfl (lv_at hl 3 rfl) ?_
            refine lv_aload_n hx hb dX5_firstOf_39 rfl (lv_at hl 0 rfl) ?_
            refine va_get (D := D) (ci := 5) (v := .int (nI k0)) (C := RX5) (T := TX5) (N := 35) hx hb hts hiX5 hown hK hP 0 rfl rfl 8 (by decide) (hts (.fieldLink RX5 59 "HeardSecondModel" "now" "I") (by decide +kernel)) (fun _ h9 => h9) rfl dX5_firstOf_40 ?_
            refine z_bri (z_runV (As := [.int (nI sx), .int (nI k0)]) (rest := [.ref m0]) (ci := 5) ⟨hx, hb, hml, hown, hts⟩ (c_X5_behind (m0 := m0) (pg := pg) (rd := rd) (ro := ro) (fa := fa) (wo := wo) (ah := ah) (he := he) (wy := wy) (on_ := on_) (pa := pa) (kr := kr) (kn := kn) (kh := kh) (sr := sr) (sn := sn) (n := n) (N := N) (t := t) (rmy := rmy) (rpt := rpt) (sta := sta) (pt := pt) (nw := nI k0) (ou := ou) (si := si) (en := en) (w0 := w0) (w1 := w1) (br := br) (cr := cr) (pf := pf) (kt := kt) (kc := kc) (sd := sd) (ha := ha) (r := r) (sx := sx) (k := k0) (by first | assumption | omega) (by first | assumption | omega) (by first | assumption | omega) _) (cwV 2 hts gX5_firstOf_X5_behind rfl rfl rfl (by decide +kernel) ⟨Nat.le_of_ble_eq_true rfl, Nat.le_of_ble_eq_true rfl⟩) hK hP hD hN [0, 1] rfl rfl rfl rfl rfl hl.1 rfl (Nat.le_of_ble_eq_true rfl) dX5_firstOf_43 ⟨Nat.zero_le _, Nat.zero_le _⟩) hP hD hS hA [0, 1] rfl (fun r_12 u_13 H locs hq_11 hP hS => ?_)
            obtain rfl : r_12 = nI (mBeh r N sx k0) := hq_11
            refine lv_iload_n hx hb dX5_firstOf_46 rfl (lv_at hl 1 rfl) ?_
            refine z_bwi (wr := []) (ws' := fun (_ : Unit) => [(m0, .inr (5, [.ref pg, .int (nI n), .ref rd, .int rmy, .int rpt, .int sta, .int (nI N), .int pt, .int (nI k0), .int ou, .int si, .int en, .int w0, .int w1, .int br, .int cr, .ref ro, .ref fa, .ref wo, .ref ah, .int pf, .int (nI t), .ref he, .ref wy, .ref on_, .ref pa, .ref kr, .ref kn, .ref kh, .int kt, .int kc, .int sd, .ref sr, .ref sn, .long ha])), (ro, .inl (cA, 15, .inl r)), (fa, .inl (cA, 64, .inl (mF3 r N ou (mBeh r N sx k0) 64)))]) (z_runV (As := [.int (nI (mBeh r N sx k0)), .int x]) (rest := []) (ci := 5) ⟨hx, hb, hml, hown, hts⟩ (c_X5_fewFrom (m0 := m0) (pg := pg) (rd := rd) (ro := ro) (fa := fa) (wo := wo) (ah := ah) (he := he) (wy := wy) (on_ := on_) (pa := pa) (kr := kr) (kn := kn) (kh := kh) (sr := sr) (sn := sn) (n := n) (N := N) (t := t) (rmy := rmy) (rpt := rpt) (sta := sta) (pt := pt) (nw := nI k0) (ou := ou) (si := si) (en := en) (w0 := w0) (w1 := w1) (br := br) (cr := cr) (pf := pf) (kt := kt) (kc := kc) (sd := sd) (ha := ha) (r := r) (fa_ := g) (k0 := mBeh r N sx k0) (x := x) (by first | assumption | omega) (by exact mBeh_64 hk0 (by omega) h5) _) (cwV 2 hts gX5_firstOf_X5_fewFrom rfl rfl rfl (by decide +kernel) ⟨Nat.le_of_ble_eq_true rfl, Nat.le_of_ble_eq_true rfl⟩) hK hP hD hN [0, 1, 2] rfl rfl rfl rfl rfl hl.1 rfl (Nat.le_of_ble_eq_true rfl) dX5_firstOf_47 ⟨Nat.zero_le _, Nat.zero_le _⟩) hP hD hS hA [0, 1, 2] [] [0, 1, 2] rfl rfl rfl (by decide) rfl (fun _ => rfl) (fun r_15 u_16 H locs hq_14 hP hD hS => ?_)
            obtain rfl : r_15 = mFewest r N ou (mBeh r N sx k0) x := hq_14
            have hP : va_P D vwCl [(m0, .inr (5, [.ref pg, .int (nI n), .ref rd, .int rmy, .int rpt, .int sta, .int (nI N), .int pt, .int (nI k0), .int ou, .int si, .int en, .int w0, .int w1, .int br, .int cr, .ref ro, .ref fa, .ref wo, .ref ah, .int pf, .int (nI t), .ref he, .ref wy, .ref on_, .ref pa, .ref kr, .ref kn, .ref kh, .int kt, .int kc, .int sd, .ref sr, .ref sn, .long ha])), (ro, .inl (cA, 15, .inl r)), (fa, .inl (cA, 64, .inl (mF3 r N ou (mBeh r N sx k0) 64)))] H := hP
            have hD : va_D A [(m0, .inr (5, [.ref pg, .int (nI n), .ref rd, .int rmy, .int rpt, .int sta, .int (nI N), .int pt, .int (nI k0), .int ou, .int si, .int en, .int w0, .int w1, .int br, .int cr, .ref ro, .ref fa, .ref wo, .ref ah, .int pf, .int (nI t), .ref he, .ref wy, .ref on_, .ref pa, .ref kr, .ref kn, .ref kh, .int kt, .int kc, .int sd, .ref sr, .ref sn, .long ha])), (ro, .inl (cA, 15, .inl r)), (fa, .inl (cA, 64, .inl (mF3 r N ou (mBeh r N sx k0) 64)))] := hD
            refine lv_iload_n hx hb dX5_firstOf_50 rfl (lv_at hl 2 rfl) ?_
            refine lv_iconst (v := 1) hx hb dX5_firstOf_51 (by decide) ?_
            refine lv_isub hx hb dX5_firstOf_52 ?_
            refine lv_icmp_ne (tgt := 58) hx hb dX5_firstOf_53 (by decide) (fun c53_17 => ?_) (fun c53_17 => ?_)
            · skip
              refine lv_iinc (v := nI (sx + 1)) (lv' := [(3, .int (nI (sx + 1))), (0, .ref m0), (1, .int x), (2, .int (mFewest r N ou k0 x))]) hx hb dX5_firstOf_58 hl (k := 3) rfl (nI_1 sx) (by decide) rfl (fun ls hl => ?_)
              refine lv_goto (tgt := 12) hx hb dX5_firstOf_61 (by decide) ?_
              exact ih4 (sx + 1) (mF3 r N ou (mBeh r N sx k0) 64) (by omega) (by first | assumption | omega) (by clear hret hl hS hD hP hK hA hN hts hx hb hr hml hown hlocks hiX5 ih4; rw [hv, show N - sx = (N - (sx + 1)) + 1 from by omega, jFind]; simp_all) _ _ _ hP hD hS (lv_sub hl [1, 2, 3, 0] rfl)
            · skip
              refine lv_iload_n hx hb dX5_firstOf_56 rfl (lv_at hl 3 rfl) ?_
              -- path 3
              exact hret (nI sx) (mF3 r N ou (mBeh r N sx k0) 64) _ _ _ _ dX5_firstOf_57 (rfl) (by clear hret hl hS hD hP hK hA hN hts hx hb hr hml hown hlocks hiX5 ih4; unfold mFirst; first | (rw [if_neg (Int32.not_lt.mpr (by assumption))]; done) | (rw [if_pos (Int32.not_le.mp (by assumption)), hv, show N - sx = (N - (sx + 1)) + 1 from by omega, jFind]; simp_all; done) | (split <;> first | rfl | (rw [hv, show N - sx = 0 from by omega]; rfl))) hP hD hS
  exact L12 (N + 1) 0 (mF3 r N ou k0 64) (by omega) (by first | assumption | omega) (by rfl) _ _ _ hP hD hS (lv_sub hl [2, 3, 1, 0] rfl)
abbrev rm_c_X5_tell : Room := { frames := 3, cells := 0, slots := 0, locals := 75 }
set_option maxHeartbeats 1000000 in
set_option maxRecDepth 20000 in
theorem c_X5_tell {l : Launch} {D : va_G} {cA : ClassId} {m0 : Nat} {pg : Nat} {rd : Nat} {ro : Nat} {fa : Nat} {wo : Nat} {ah : Nat} {he : Nat} {wy : Nat} {on_ : Nat} {pa : Nat} {kr : Nat} {kn : Nat} {kh : Nat} {sr : Nat} {sn : Nat} {n : Nat} {N : Nat} {t : Nat} {rmy : Int32} {rpt : Int32} {sta : Int32} {pt : Int32} {ou : Int32} {si : Int32} {en : Int32} {w0 : Int32} {w1 : Int32} {br : Int32} {cr : Int32} {pf : Int32} {kt : Int32} {kc : Int32} {sd : Int32} {ha : Int64} {r : Nat → Int32} {fa_ : Nat → Int32} {k0 : Nat} {sx : Nat} {wh : Int32} (h5 : N ≤ 5) (hk0 : k0 < 64) (hs : sx < N) : zMi l yX5_tell wsX5_tell rm_c_X5_tell D cA [(m0, .inr (5, [.ref pg, .int (nI n), .ref rd, .int rmy, .int rpt, .int sta, .int (nI N), .int pt, .int (nI k0), .int ou, .int si, .int en, .int w0, .int w1, .int br, .int cr, .ref ro, .ref fa, .ref wo, .ref ah, .int pf, .int (nI t), .ref he, .ref wy, .ref on_, .ref pa, .ref kr, .ref kn, .ref kh, .int kt, .int kc, .int sd, .ref sr, .ref sn, .long ha])), (ro, .inl (cA, 15, .inl r)), (fa, .inl (cA, 64, .inl fa_))] [.ref m0, .int (nI sx), .int wh] (fun (ret_ : Int32) (u : Nat → Int32) => ret_ = mTell r N ou k0 sx wh) (fun (u : Nat → Int32) => [(m0, .inr (5, [.ref pg, .int (nI n), .ref rd, .int rmy, .int rpt, .int sta, .int (nI N), .int pt, .int (nI k0), .int ou, .int si, .int en, .int w0, .int w1, .int br, .int cr, .ref ro, .ref fa, .ref wo, .ref ah, .int pf, .int (nI t), .ref he, .ref wy, .ref on_, .ref pa, .ref kr, .ref kn, .ref kh, .int kt, .int kc, .int sd, .ref sr, .ref sn, .long ha])), (ro, .inl (cA, 15, .inl r)), (fa, .inl (cA, 64, .inl u))]) := by
  refine z_enteri (cc := cX5_tell) (maxL := 3) (ty := .int) (by decide) rfl (Nat.le_of_ble_eq_true rfl) (fun p e s m args below meth c ls A H0 H locs Q hi_ hA hK hP hD hS hl hret => ?_)
  obtain ⟨hx, hb, hr, hml, hown, hts, hlocks, hN⟩ := hi_
  have hl : lv_has ls 3 [(0, .ref m0), (1, .int (nI sx)), (2, .int wh)] := hl
  have hiX5 : ∀ w ∈ wsX50, w ∈ wsX5_tell := by decide +kernel
  refine lv_iload_n hx hb dX5_tell_0 rfl (lv_at hl 2 rfl) ?_
  by_cases c1_1v0 : wh = 0
  · skip
    refine lv_tableIn (off := 39) (tgt := 40) hx hb dX5_tell_1 (by rw [c1_1v0]; decide) (by rw [c1_1v0]; decide) (by rw [c1_1v0]; rfl) (by decide) ?_
    subst c1_1v0
    refine lv_aload_n hx hb dX5_tell_40 rfl (lv_at hl 0 rfl) ?_
    refine va_get (D := D) (ci := 5) (v := .ref ro) (C := RX5) (T := TX5) (N := 35) hx hb hts hiX5 hown hK hP 0 rfl rfl 16 (by decide) (hts (.fieldLink RX5 16 "HeardSecondModel" "rows" "[I") (by decide +kernel)) (fun _ h9 => h9) rfl dX5_tell_41 ?_
    refine lv_iconst (v := 3) hx hb dX5_tell_44 (by decide) ?_
    refine lv_iload_n hx hb dX5_tell_45 rfl (lv_at hl 1 rfl) ?_
    refine lv_imul hx hb dX5_tell_46 ?_
    refine lv_iload_n hx hb dX5_tell_47 rfl (lv_at hl 2 rfl) ?_
    refine lv_iadd hx hb dX5_tell_48 ?_
    refine z_top (y := nI (3 * sx)) (z_p0 sx) ?_
    refine va_iald hx hb hK hP 1 0 rfl rfl (z_inN (by omega) (by decide)) dX5_tell_49 ?_
    refine z_top (y := r (3 * sx)) (by rw [z_nat (by omega)]) ?_
    -- path 1
    exact hret (r (3 * sx)) fa_ _ _ _ _ dX5_tell_50 (rfl) (by clear hret hl hS hD hP hK hA hN hts hx hb hr hml hown hlocks hiX5; first | rfl | simp_all [mTell, bI]) hP hD hS
  by_cases c1_1v1 : wh = 1
  · skip
    refine lv_tableIn (off := 39) (tgt := 40) hx hb dX5_tell_1 (by rw [c1_1v1]; decide) (by rw [c1_1v1]; decide) (by rw [c1_1v1]; rfl) (by decide) ?_
    subst c1_1v1
    refine lv_aload_n hx hb dX5_tell_40 rfl (lv_at hl 0 rfl) ?_
    refine va_get (D := D) (ci := 5) (v := .ref ro) (C := RX5) (T := TX5) (N := 35) hx hb hts hiX5 hown hK hP 0 rfl rfl 16 (by decide) (hts (.fieldLink RX5 16 "HeardSecondModel" "rows" "[I") (by decide +kernel)) (fun _ h9 => h9) rfl dX5_tell_41 ?_
    refine lv_iconst (v := 3) hx hb dX5_tell_44 (by decide) ?_
    refine lv_iload_n hx hb dX5_tell_45 rfl (lv_at hl 1 rfl) ?_
    refine lv_imul hx hb dX5_tell_46 ?_
    refine lv_iload_n hx hb dX5_tell_47 rfl (lv_at hl 2 rfl) ?_
    refine lv_iadd hx hb dX5_tell_48 ?_
    refine z_top (y := nI (3 * sx + 1)) (nI_31 sx) ?_
    refine va_iald hx hb hK hP 1 0 rfl rfl (z_inN (by omega) (by decide)) dX5_tell_49 ?_
    refine z_top (y := r (3 * sx + 1)) (by rw [z_nat (by omega)]) ?_
    -- path 2
    exact hret (r (3 * sx + 1)) fa_ _ _ _ _ dX5_tell_50 (rfl) (by clear hret hl hS hD hP hK hA hN hts hx hb hr hml hown hlocks hiX5; first | rfl | simp_all [mTell, bI]) hP hD hS
  by_cases c1_1v2 : wh = 2
  · skip
    refine lv_tableIn (off := 50) (tgt := 51) hx hb dX5_tell_1 (by rw [c1_1v2]; decide) (by rw [c1_1v2]; decide) (by rw [c1_1v2]; rfl) (by decide) ?_
    subst c1_1v2
    refine lv_aload_n hx hb dX5_tell_51 rfl (lv_at hl 0 rfl) ?_
    refine va_get (D := D) (ci := 5) (v := .int ou) (C := RX5) (T := TX5) (N := 35) hx hb hts hiX5 hown hK hP 0 rfl rfl 9 (by decide) (hts (.fieldLink RX5 100 "HeardSecondModel" "out" "I") (by decide +kernel)) (fun _ h9 => h9) rfl dX5_tell_52 ?_
    refine lv_iload_n hx hb dX5_tell_55 rfl (lv_at hl 1 rfl) ?_
    refine lv_ishr hx hb dX5_tell_56 ?_
    refine lv_iconst (v := 1) hx hb dX5_tell_57 (by decide) ?_
    refine lv_iand hx hb dX5_tell_58 ?_
    -- path 3
    exact hret ((ou >>> ((nI sx) &&& 31)) &&& 1) fa_ _ _ _ _ dX5_tell_59 (rfl) (by clear hret hl hS hD hP hK hA hN hts hx hb hr hml hown hlocks hiX5; first | rfl | simp_all [mTell, bI]) hP hD hS
  by_cases c1_1v3 : wh = 3
  · skip
    refine lv_tableIn (off := 59) (tgt := 60) hx hb dX5_tell_1 (by rw [c1_1v3]; decide) (by rw [c1_1v3]; decide) (by rw [c1_1v3]; rfl) (by decide) ?_
    subst c1_1v3
    refine lv_aload_n hx hb dX5_tell_60 rfl (lv_at hl 0 rfl) ?_
    refine lv_iload_n hx hb dX5_tell_61 rfl (lv_at hl 1 rfl) ?_
    refine lv_aload_n hx hb dX5_tell_62 rfl (lv_at hl 0 rfl) ?_
    refine va_get (D := D) (ci := 5) (v := .int (nI k0)) (C := RX5) (T := TX5) (N := 35) hx hb hts hiX5 hown hK hP 0 rfl rfl 8 (by decide) (hts (.fieldLink RX5 59 "HeardSecondModel" "now" "I") (by decide +kernel)) (fun _ h9 => h9) rfl dX5_tell_63 ?_
    refine z_bri (z_runV (As := [.int (nI sx), .int (nI k0)]) (rest := []) (ci := 5) ⟨hx, hb, hml, hown, hts⟩ (c_X5_counts (m0 := m0) (pg := pg) (rd := rd) (ro := ro) (fa := fa) (wo := wo) (ah := ah) (he := he) (wy := wy) (on_ := on_) (pa := pa) (kr := kr) (kn := kn) (kh := kh) (sr := sr) (sn := sn) (n := n) (N := N) (t := t) (rmy := rmy) (rpt := rpt) (sta := sta) (pt := pt) (nw := nI k0) (ou := ou) (si := si) (en := en) (w0 := w0) (w1 := w1) (br := br) (cr := cr) (pf := pf) (kt := kt) (kc := kc) (sd := sd) (ha := ha) (r := r) (sx := sx) (k := k0) (by first | assumption | omega) (by first | assumption | omega) _) (cwV 2 hts gX5_tell_X5_counts rfl rfl rfl (by decide +kernel) ⟨Nat.le_of_ble_eq_true rfl, Nat.le_of_ble_eq_true rfl⟩) hK hP hD hN [0, 1] rfl rfl rfl rfl rfl hl.1 rfl (Nat.le_of_ble_eq_true rfl) dX5_tell_66 ⟨Nat.zero_le _, Nat.zero_le _⟩) hP hD hS hA [0, 1] rfl (fun r_3 u_4 H locs hq_2 hP hS => ?_)
    obtain rfl : r_3 = bI (mCounts r ou sx k0) := hq_2
    refine lv_if_eq (tgt := 76) hx hb dX5_tell_69 (by decide) (fun c69_5 => ?_) (fun c69_5 => ?_)
    · skip
      have c69_5 := bI_0.mp c69_5
      refine lv_iconst (v := 0) hx hb dX5_tell_76 (by decide) ?_
      -- path 4
      exact hret (0) fa_ _ _ _ _ dX5_tell_77 (rfl) (by clear hret hl hS hD hP hK hA hN hts hx hb hr hml hown hlocks hiX5; first | rfl | simp_all [mTell, bI]) hP hD hS
    · skip
      have c69_5 := bI_n0.mp c69_5
      refine lv_iconst (v := 1) hx hb dX5_tell_72 (by decide) ?_
      refine lv_goto (tgt := 77) hx hb dX5_tell_73 (by decide) ?_
      -- path 5
      exact hret (1) fa_ _ _ _ _ dX5_tell_77 (rfl) (by clear hret hl hS hD hP hK hA hN hts hx hb hr hml hown hlocks hiX5; first | rfl | simp_all [mTell, bI]) hP hD hS
  by_cases c1_1v4 : wh = 4
  · skip
    refine lv_tableIn (off := 77) (tgt := 78) hx hb dX5_tell_1 (by rw [c1_1v4]; decide) (by rw [c1_1v4]; decide) (by rw [c1_1v4]; rfl) (by decide) ?_
    subst c1_1v4
    refine lv_aload_n hx hb dX5_tell_78 rfl (lv_at hl 0 rfl) ?_
    refine va_get (D := D) (ci := 5) (v := .ref ro) (C := RX5) (T := TX5) (N := 35) hx hb hts hiX5 hown hK hP 0 rfl rfl 16 (by decide) (hts (.fieldLink RX5 16 "HeardSecondModel" "rows" "[I") (by decide +kernel)) (fun _ h9 => h9) rfl dX5_tell_79 ?_
    refine lv_iconst (v := 3) hx hb dX5_tell_82 (by decide) ?_
    refine lv_iload_n hx hb dX5_tell_83 rfl (lv_at hl 1 rfl) ?_
    refine lv_imul hx hb dX5_tell_84 ?_
    refine lv_iconst (v := 2) hx hb dX5_tell_85 (by decide) ?_
    refine lv_iadd hx hb dX5_tell_86 ?_
    refine z_top (y := nI (3 * sx + 2)) (nI_32 sx) ?_
    refine va_iald hx hb hK hP 1 0 rfl rfl (z_inN (by omega) (by decide)) dX5_tell_87 ?_
    refine z_top (y := r (3 * sx + 2)) (by rw [z_nat (by omega)]) ?_
    -- path 6
    exact hret (r (3 * sx + 2)) fa_ _ _ _ _ dX5_tell_88 (rfl) (by clear hret hl hS hD hP hK hA hN hts hx hb hr hml hown hlocks hiX5; first | rfl | simp_all [mTell, bI]) hP hD hS
  by_cases c1_1v5 : wh = 5
  · skip
    refine lv_tableIn (off := 88) (tgt := 89) hx hb dX5_tell_1 (by rw [c1_1v5]; decide) (by rw [c1_1v5]; decide) (by rw [c1_1v5]; rfl) (by decide) ?_
    subst c1_1v5
    refine lv_aload_n hx hb dX5_tell_89 rfl (lv_at hl 0 rfl) ?_
    refine lv_aload_n hx hb dX5_tell_90 rfl (lv_at hl 0 rfl) ?_
    refine va_get (D := D) (ci := 5) (v := .int (nI k0)) (C := RX5) (T := TX5) (N := 35) hx hb hts hiX5 hown hK hP 0 rfl rfl 8 (by decide) (hts (.fieldLink RX5 59 "HeardSecondModel" "now" "I") (by decide +kernel)) (fun _ h9 => h9) rfl dX5_tell_91 ?_
    refine lv_iload_n hx hb dX5_tell_94 rfl (lv_at hl 1 rfl) ?_
    refine z_bwi (wr := []) (ws' := fun (_ : Unit) => [(m0, .inr (5, [.ref pg, .int (nI n), .ref rd, .int rmy, .int rpt, .int sta, .int (nI N), .int pt, .int (nI k0), .int ou, .int si, .int en, .int w0, .int w1, .int br, .int cr, .ref ro, .ref fa, .ref wo, .ref ah, .int pf, .int (nI t), .ref he, .ref wy, .ref on_, .ref pa, .ref kr, .ref kn, .ref kh, .int kt, .int kc, .int sd, .ref sr, .ref sn, .long ha])), (ro, .inl (cA, 15, .inl r)), (fa, .inl (cA, 64, .inl (mF3 r N ou k0 64)))]) (z_runV (As := [.int (nI k0), .int (nI sx)]) (rest := []) (ci := 5) ⟨hx, hb, hml, hown, hts⟩ (c_X5_fewFrom (m0 := m0) (pg := pg) (rd := rd) (ro := ro) (fa := fa) (wo := wo) (ah := ah) (he := he) (wy := wy) (on_ := on_) (pa := pa) (kr := kr) (kn := kn) (kh := kh) (sr := sr) (sn := sn) (n := n) (N := N) (t := t) (rmy := rmy) (rpt := rpt) (sta := sta) (pt := pt) (nw := nI k0) (ou := ou) (si := si) (en := en) (w0 := w0) (w1 := w1) (br := br) (cr := cr) (pf := pf) (kt := kt) (kc := kc) (sd := sd) (ha := ha) (r := r) (fa_ := fa_) (k0 := k0) (x := nI sx) (by first | assumption | omega) (by first | assumption | omega) _) (cwV 2 hts gX5_tell_X5_fewFrom rfl rfl rfl (by decide +kernel) ⟨Nat.le_of_ble_eq_true rfl, Nat.le_of_ble_eq_true rfl⟩) hK hP hD hN [0, 1, 2] rfl rfl rfl rfl rfl hl.1 rfl (Nat.le_of_ble_eq_true rfl) dX5_tell_95 ⟨Nat.zero_le _, Nat.zero_le _⟩) hP hD hS hA [0, 1, 2] [] [0, 1, 2] rfl rfl rfl (by decide) rfl (fun _ => rfl) (fun r_7 u_8 H locs hq_6 hP hD hS => ?_)
    obtain rfl : r_7 = mFewest r N ou k0 (nI sx) := hq_6
    have hP : va_P D vwCl [(m0, .inr (5, [.ref pg, .int (nI n), .ref rd, .int rmy, .int rpt, .int sta, .int (nI N), .int pt, .int (nI k0), .int ou, .int si, .int en, .int w0, .int w1, .int br, .int cr, .ref ro, .ref fa, .ref wo, .ref ah, .int pf, .int (nI t), .ref he, .ref wy, .ref on_, .ref pa, .ref kr, .ref kn, .ref kh, .int kt, .int kc, .int sd, .ref sr, .ref sn, .long ha])), (ro, .inl (cA, 15, .inl r)), (fa, .inl (cA, 64, .inl (mF3 r N ou k0 64)))] H := hP
    have hD : va_D A [(m0, .inr (5, [.ref pg, .int (nI n), .ref rd, .int rmy, .int rpt, .int sta, .int (nI N), .int pt, .int (nI k0), .int ou, .int si, .int en, .int w0, .int w1, .int br, .int cr, .ref ro, .ref fa, .ref wo, .ref ah, .int pf, .int (nI t), .ref he, .ref wy, .ref on_, .ref pa, .ref kr, .ref kn, .ref kh, .int kt, .int kc, .int sd, .ref sr, .ref sn, .long ha])), (ro, .inl (cA, 15, .inl r)), (fa, .inl (cA, 64, .inl (mF3 r N ou k0 64)))] := hD
    -- path 7
    exact hret (mFewest r N ou k0 (nI sx)) (mF3 r N ou k0 64) _ _ _ _ dX5_tell_98 (rfl) (by clear hret hl hS hD hP hK hA hN hts hx hb hr hml hown hlocks hiX5; first | rfl | simp_all [mTell, bI]) hP hD hS
  refine lv_tableOut (tgt := 99) hx hb dX5_tell_1 (z_out0_5 c1_1v0 c1_1v1 c1_1v2 c1_1v3 c1_1v4 c1_1v5) (by decide) ?_
  refine lv_bipush (v := (-102)) hx hb dX5_tell_99 (by decide) ?_
  -- path 8
  exact hret ((-102)) fa_ _ _ _ _ dX5_tell_101 (rfl) (by clear hret hl hS hD hP hK hA hN hts hx hb hr hml hown hlocks hiX5; first | rfl | simp_all [mTell, bI]) hP hD hS
abbrev rm_c_X5_seat : Room := { frames := 4, cells := 0, slots := 0, locals := 97 }
set_option maxHeartbeats 400000 in
set_option maxRecDepth 20000 in
theorem c_X5_seat {l : Launch} {D : va_G} {cA : ClassId} {m0 : Nat} {pg : Nat} {rd : Nat} {ro : Nat} {fa : Nat} {wo : Nat} {ah : Nat} {he : Nat} {wy : Nat} {on_ : Nat} {pa : Nat} {kr : Nat} {kn : Nat} {kh : Nat} {sr : Nat} {sn : Nat} {n : Nat} {N : Nat} {t : Nat} {rmy : Int32} {rpt : Int32} {sta : Int32} {pt : Int32} {ou : Int32} {si : Int32} {en : Int32} {w0 : Int32} {w1 : Int32} {br : Int32} {cr : Int32} {pf : Int32} {kt : Int32} {kc : Int32} {sd : Int32} {ha : Int64} {r : Nat → Int32} {fa_ : Nat → Int32} {k0 : Nat} {x : Int32} {wh : Int32} (h5 : N ≤ 5) (hk0 : k0 < 64) : zMi l yX5_seat wsX5_seat rm_c_X5_seat D cA [(m0, .inr (5, [.ref pg, .int (nI n), .ref rd, .int rmy, .int rpt, .int sta, .int (nI N), .int pt, .int (nI k0), .int ou, .int si, .int en, .int w0, .int w1, .int br, .int cr, .ref ro, .ref fa, .ref wo, .ref ah, .int pf, .int (nI t), .ref he, .ref wy, .ref on_, .ref pa, .ref kr, .ref kn, .ref kh, .int kt, .int kc, .int sd, .ref sr, .ref sn, .long ha])), (ro, .inl (cA, 15, .inl r)), (fa, .inl (cA, 64, .inl fa_))] [.ref m0, .int x, .int wh] (fun (ret_ : Int32) (u : Nat → Int32) => ret_ = mSeat r N ou k0 x wh) (fun (u : Nat → Int32) => [(m0, .inr (5, [.ref pg, .int (nI n), .ref rd, .int rmy, .int rpt, .int sta, .int (nI N), .int pt, .int (nI k0), .int ou, .int si, .int en, .int w0, .int w1, .int br, .int cr, .ref ro, .ref fa, .ref wo, .ref ah, .int pf, .int (nI t), .ref he, .ref wy, .ref on_, .ref pa, .ref kr, .ref kn, .ref kh, .int kt, .int kc, .int sd, .ref sr, .ref sn, .long ha])), (ro, .inl (cA, 15, .inl r)), (fa, .inl (cA, 64, .inl u))]) := by
  refine z_enteri (cc := cX5_seat) (maxL := 3) (ty := .int) (by decide) rfl (Nat.le_of_ble_eq_true rfl) (fun p e s m args below meth c ls A H0 H locs Q hi_ hA hK hP hD hS hl hret => ?_)
  obtain ⟨hx, hb, hr, hml, hown, hts, hlocks, hN⟩ := hi_
  have hl : lv_has ls 3 [(0, .ref m0), (1, .int x), (2, .int wh)] := hl
  refine lv_aload_n hx hb dX5_seat_0 rfl (lv_at hl 0 rfl) ?_
  refine lv_iload_n hx hb dX5_seat_1 rfl (lv_at hl 1 rfl) ?_
  refine z_bri (z_runV (As := [.int x]) (rest := []) (ci := 5) ⟨hx, hb, hml, hown, hts⟩ (c_X5_isSeat (m0 := m0) (pg := pg) (rd := rd) (ro := ro) (fa := fa) (wo := wo) (ah := ah) (he := he) (wy := wy) (on_ := on_) (pa := pa) (kr := kr) (kn := kn) (kh := kh) (sr := sr) (sn := sn) (n := n) (N := N) (t := t) (rmy := rmy) (rpt := rpt) (sta := sta) (pt := pt) (nw := nI k0) (ou := ou) (si := si) (en := en) (w0 := w0) (w1 := w1) (br := br) (cr := cr) (pf := pf) (kt := kt) (kc := kc) (sd := sd) (ha := ha) (x := x) _) (cwV 1 hts gX5_seat_X5_isSeat rfl rfl rfl (by decide +kernel) ⟨Nat.le_of_ble_eq_true rfl, Nat.le_of_ble_eq_true rfl⟩) hK hP hD hN [0] rfl rfl rfl rfl rfl hl.1 rfl (Nat.le_of_ble_eq_true rfl) dX5_seat_2 ⟨Nat.zero_le _, Nat.zero_le _⟩) hP hD hS hA [0] rfl (fun r_2 u_3 H locs hq_1 hP hS => ?_)
  obtain rfl : r_2 = bI (mIn x 0 (nI N - 1)) := hq_1
  refine lv_if_eq (tgt := 17) hx hb dX5_seat_5 (by decide) (fun c5_4 => ?_) (fun c5_4 => ?_)
  · skip
    have c5_4 := bI_0.mp c5_4
    refine lv_bipush (v := (-101)) hx hb dX5_seat_17 (by decide) ?_
    -- path 1
    exact hret ((-101)) fa_ _ _ _ _ dX5_seat_19 (rfl) (by clear hret hl hS hD hP hK hA hN hts hx hb hr hml hown hlocks ; unfold mSeat; first | (rw [if_neg (by simp_all)]; done) | (rw [if_pos (by assumption), z_nat (by omega)])) hP hD hS
  · skip
    have c5_4 := bI_n0.mp c5_4
    obtain ⟨x_, hsx_, rfl⟩ : ∃ k : Nat, k < N ∧ x = nI k := mIn_seat (by assumption) h5
    refine lv_aload_n hx hb dX5_seat_8 rfl (lv_at hl 0 rfl) ?_
    refine lv_iload_n hx hb dX5_seat_9 rfl (lv_at hl 1 rfl) ?_
    refine lv_iload_n hx hb dX5_seat_10 rfl (lv_at hl 2 rfl) ?_
    refine z_bwi (wr := []) (ws' := fun u_7 => [(m0, .inr (5, [.ref pg, .int (nI n), .ref rd, .int rmy, .int rpt, .int sta, .int (nI N), .int pt, .int (nI k0), .int ou, .int si, .int en, .int w0, .int w1, .int br, .int cr, .ref ro, .ref fa, .ref wo, .ref ah, .int pf, .int (nI t), .ref he, .ref wy, .ref on_, .ref pa, .ref kr, .ref kn, .ref kh, .int kt, .int kc, .int sd, .ref sr, .ref sn, .long ha])), (ro, .inl (cA, 15, .inl r)), (fa, .inl (cA, 64, .inl u_7))]) (z_runV (As := [.int (nI x_), .int wh]) (rest := []) (ci := 5) ⟨hx, hb, hml, hown, hts⟩ (c_X5_tell (m0 := m0) (pg := pg) (rd := rd) (ro := ro) (fa := fa) (wo := wo) (ah := ah) (he := he) (wy := wy) (on_ := on_) (pa := pa) (kr := kr) (kn := kn) (kh := kh) (sr := sr) (sn := sn) (n := n) (N := N) (t := t) (rmy := rmy) (rpt := rpt) (sta := sta) (pt := pt) (ou := ou) (si := si) (en := en) (w0 := w0) (w1 := w1) (br := br) (cr := cr) (pf := pf) (kt := kt) (kc := kc) (sd := sd) (ha := ha) (r := r) (fa_ := fa_) (k0 := k0) (sx := x_) (wh := wh) (by first | assumption | omega) (by first | assumption | omega) (by first | assumption | omega) _) (cwV 2 hts gX5_seat_X5_tell rfl rfl rfl (by decide +kernel) ⟨Nat.le_of_ble_eq_true rfl, Nat.le_of_ble_eq_true rfl⟩) hK hP hD hN [0, 1, 2] rfl rfl rfl rfl rfl hl.1 rfl (Nat.le_of_ble_eq_true rfl) dX5_seat_11 ⟨Nat.zero_le _, Nat.zero_le _⟩) hP hD hS hA [0, 1, 2] [] [0, 1, 2] rfl rfl rfl (by decide) rfl (fun _ => rfl) (fun r_6 u_7 H locs hq_5 hP hD hS => ?_)
    obtain rfl : r_6 = mTell r N ou k0 x_ wh := hq_5
    have hP : va_P D vwCl [(m0, .inr (5, [.ref pg, .int (nI n), .ref rd, .int rmy, .int rpt, .int sta, .int (nI N), .int pt, .int (nI k0), .int ou, .int si, .int en, .int w0, .int w1, .int br, .int cr, .ref ro, .ref fa, .ref wo, .ref ah, .int pf, .int (nI t), .ref he, .ref wy, .ref on_, .ref pa, .ref kr, .ref kn, .ref kh, .int kt, .int kc, .int sd, .ref sr, .ref sn, .long ha])), (ro, .inl (cA, 15, .inl r)), (fa, .inl (cA, 64, .inl u_7))] H := hP
    have hD : va_D A [(m0, .inr (5, [.ref pg, .int (nI n), .ref rd, .int rmy, .int rpt, .int sta, .int (nI N), .int pt, .int (nI k0), .int ou, .int si, .int en, .int w0, .int w1, .int br, .int cr, .ref ro, .ref fa, .ref wo, .ref ah, .int pf, .int (nI t), .ref he, .ref wy, .ref on_, .ref pa, .ref kr, .ref kn, .ref kh, .int kt, .int kc, .int sd, .ref sr, .ref sn, .long ha])), (ro, .inl (cA, 15, .inl r)), (fa, .inl (cA, 64, .inl u_7))] := hD
    refine lv_goto (tgt := 19) hx hb dX5_seat_14 (by decide) ?_
    -- path 2
    exact hret (mTell r N ou k0 x_ wh) u_7 _ _ _ _ dX5_seat_19 (rfl) (by clear hret hl hS hD hP hK hA hN hts hx hb hr hml hown hlocks ; unfold mSeat; first | (rw [if_neg (by simp_all)]; done) | (rw [if_pos (by assumption), z_nat (by omega)])) hP hD hS
abbrev rm_c_X5_as : Room := { frames := 2, cells := 0, slots := 0, locals := 46 }
set_option maxHeartbeats 400000 in
set_option maxRecDepth 20000 in
theorem c_X5_as {l : Launch} {D : va_G} {cA : ClassId} {m0 : Nat} {pg : Nat} {rd : Nat} {ro : Nat} {fa : Nat} {wo : Nat} {ah : Nat} {he : Nat} {wy : Nat} {on_ : Nat} {pa : Nat} {kr : Nat} {kn : Nat} {kh : Nat} {sr : Nat} {sn : Nat} {n : Nat} {N : Nat} {t : Nat} {rmy : Int32} {rpt : Int32} {sta : Int32} {pt : Int32} {nw : Int32} {ou : Int32} {si : Int32} {en : Int32} {w0 : Int32} {w1 : Int32} {br : Int32} {cr : Int32} {pf : Int32} {kt : Int32} {kc : Int32} {sd : Int32} {ha : Int64} {r : Nat → Int32} {x : Int32} {k : Int32} (h5 : N ≤ 5) : zMi l yX5_as wsX5_as rm_c_X5_as D cA [(m0, .inr (5, [.ref pg, .int (nI n), .ref rd, .int rmy, .int rpt, .int sta, .int (nI N), .int pt, .int nw, .int ou, .int si, .int en, .int w0, .int w1, .int br, .int cr, .ref ro, .ref fa, .ref wo, .ref ah, .int pf, .int (nI t), .ref he, .ref wy, .ref on_, .ref pa, .ref kr, .ref kn, .ref kh, .int kt, .int kc, .int sd, .ref sr, .ref sn, .long ha])), (ro, .inl (cA, 15, .inl r))] [.ref m0, .int x, .int k] (fun (ret_ : Int32) (_ : Unit) => ret_ = mAs r N x k) (fun (_ : Unit) => [(m0, .inr (5, [.ref pg, .int (nI n), .ref rd, .int rmy, .int rpt, .int sta, .int (nI N), .int pt, .int nw, .int ou, .int si, .int en, .int w0, .int w1, .int br, .int cr, .ref ro, .ref fa, .ref wo, .ref ah, .int pf, .int (nI t), .ref he, .ref wy, .ref on_, .ref pa, .ref kr, .ref kn, .ref kh, .int kt, .int kc, .int sd, .ref sr, .ref sn, .long ha])), (ro, .inl (cA, 15, .inl r))]) := by
  refine z_enteri (cc := cX5_as) (maxL := 5) (ty := .int) (by decide) rfl (Nat.le_of_ble_eq_true rfl) (fun p e s m args below meth c ls A H0 H locs Q hi_ hA hK hP hD hS hl hret => ?_)
  obtain ⟨hx, hb, hr, hml, hown, hts, hlocks, hN⟩ := hi_
  have hl : lv_has ls 5 [(0, .ref m0), (1, .int x), (2, .int k)] := hl
  have hiX5 : ∀ w ∈ wsX50, w ∈ wsX5_as := by decide +kernel
  refine lv_aload_n hx hb dX5_as_0 rfl (lv_at hl 0 rfl) ?_
  refine lv_iload_n hx hb dX5_as_1 rfl (lv_at hl 1 rfl) ?_
  refine z_bri (z_runV (As := [.int x]) (rest := []) (ci := 5) ⟨hx, hb, hml, hown, hts⟩ (c_X5_isSeat (m0 := m0) (pg := pg) (rd := rd) (ro := ro) (fa := fa) (wo := wo) (ah := ah) (he := he) (wy := wy) (on_ := on_) (pa := pa) (kr := kr) (kn := kn) (kh := kh) (sr := sr) (sn := sn) (n := n) (N := N) (t := t) (rmy := rmy) (rpt := rpt) (sta := sta) (pt := pt) (nw := nw) (ou := ou) (si := si) (en := en) (w0 := w0) (w1 := w1) (br := br) (cr := cr) (pf := pf) (kt := kt) (kc := kc) (sd := sd) (ha := ha) (x := x) _) (cwV 1 hts gX5_as_X5_isSeat rfl rfl rfl (by decide +kernel) ⟨Nat.le_of_ble_eq_true rfl, Nat.le_of_ble_eq_true rfl⟩) hK hP hD hN [0] rfl rfl rfl rfl rfl hl.1 rfl (Nat.le_of_ble_eq_true rfl) dX5_as_2 ⟨Nat.zero_le _, Nat.zero_le _⟩) hP hD hS hA [0] rfl (fun r_2 u_3 H locs hq_1 hP hS => ?_)
  obtain rfl : r_2 = bI (mIn x 0 (nI N - 1)) := hq_1
  refine lv_if_ne (tgt := 11) hx hb dX5_as_5 (by decide) (fun c5_4 => ?_) (fun c5_4 => ?_)
  · skip
    have c5_4 := bI_n0.mp c5_4
    refine lv_iload_n hx hb dX5_as_11 rfl (lv_at hl 2 rfl) ?_
    refine lv_i2l hx hb dX5_as_12 rfl ?_
    refine lv_lconst (v := 0) hx hb dX5_as_13 (by decide) ?_
    refine lv_ldc2 (v := 4) hx hb hown (hts (.constantLong RX5 161 (4)) (by decide +kernel)) dX5_as_14 ?_
    refine z_bri (z_runS (As := [.long (Int32.toInt64 k), .long 0, .long 4]) (rest := []) ⟨hx, hb, hml, hown, hts⟩ (c_X5_in (x := Int32.toInt64 k) (lo := 0) (hi := 4) _) (va_cwS 3 hts gX5_as_X5_in rfl rfl rfl (by decide +kernel) ⟨Nat.le_of_ble_eq_true rfl, Nat.le_of_ble_eq_true rfl⟩) hK hP hD hN [] rfl rfl rfl hl.1 rfl (Nat.le_of_ble_eq_true rfl) dX5_as_17 ⟨Nat.zero_le _, Nat.zero_le _⟩) hP hD hS hA [] rfl (fun r_6 u_7 H locs hq_5 hP hS => ?_)
    obtain rfl : r_6 = bI (decide (0 ≤ (Int32.toInt64 k)) && decide ((Int32.toInt64 k) ≤ 4)) := hq_5
    refine z_top (y := bI (mIn k 0 4)) (z_in64 rfl rfl) ?_
    refine lv_if_ne (tgt := 26) hx hb dX5_as_20 (by decide) (fun c20_8 => ?_) (fun c20_8 => ?_)
    · skip
      have c20_8 := bI_n0.mp c20_8
      obtain ⟨x_, hsx_, rfl⟩ : ∃ k : Nat, k < N ∧ x = nI k := mIn_seat (by assumption) h5
      refine lv_aload_n hx hb dX5_as_26 rfl (lv_at hl 0 rfl) ?_
      refine va_get (D := D) (ci := 5) (v := .ref ro) (C := RX5) (T := TX5) (N := 35) hx hb hts hiX5 hown hK hP 0 rfl rfl 16 (by decide) (hts (.fieldLink RX5 16 "HeardSecondModel" "rows" "[I") (by decide +kernel)) (fun _ h9 => h9) rfl dX5_as_27 ?_
      refine lv_iconst (v := 3) hx hb dX5_as_30 (by decide) ?_
      refine lv_iload_n hx hb dX5_as_31 rfl (lv_at hl 1 rfl) ?_
      refine lv_imul hx hb dX5_as_32 ?_
      refine z_top (y := nI (3 * x_)) (nI_3 x_) ?_
      refine va_iald hx hb hK hP 1 0 rfl rfl (z_inN (by omega) (by decide)) dX5_as_33 ?_
      refine z_top (y := r (3 * x_)) (by rw [z_nat (by omega)]) ?_
      refine lv_istore_n (lv' := [(3, .int (r (3 * x_))), (0, .ref m0), (1, .int (nI x_)), (2, .int k)]) hx hb dX5_as_34 rfl hl (by decide) rfl (fun ls hl => ?_)
      refine lv_iload_n hx hb dX5_as_35 rfl (lv_at hl 3 rfl) ?_
      refine lv_if_eq (tgt := 54) hx hb dX5_as_36 (by decide) (fun c36_9 => ?_) (fun c36_9 => ?_)
      · skip
        refine lv_iconst (v := 1) hx hb dX5_as_54 (by decide) ?_
        refine lv_goto (tgt := 59) hx hb dX5_as_55 (by decide) ?_
        refine lv_istore (lv' := [(4, .int 1), (3, .int (r (3 * x_))), (0, .ref m0), (1, .int (nI x_)), (2, .int k)]) hx hb dX5_as_59 hl (by decide) rfl (fun ls hl => ?_)
        refine lv_iload hx hb dX5_as_61 (lv_at hl 0 rfl) ?_
        refine lv_if_eq (tgt := 70) hx hb dX5_as_63 (by decide) (fun c63_10 => ?_) (fun c63_10 => ?_)
        · skip
          exact absurd c63_10 (by decide)
        · skip
          refine lv_iload_n hx hb dX5_as_66 rfl (lv_at hl 3 rfl) ?_
          refine lv_goto (tgt := 71) hx hb dX5_as_67 (by decide) ?_
          -- path 1
          exact hret ((nI x_)) () _ _ _ _ dX5_as_71 (rfl) (by clear hret hl hS hD hP hK hA hN hts hx hb hr hml hown hlocks hiX5; first | grind [mAs] | (unfold mAs; rw [z_nat (by omega)]; grind)) hP hD hS
      · skip
        refine lv_iload_n hx hb dX5_as_39 rfl (lv_at hl 3 rfl) ?_
        refine lv_iload_n hx hb dX5_as_40 rfl (lv_at hl 0 rfl) ?_
        refine lv_icmp_eq (tgt := 54) hx hb dX5_as_41 (by decide) (fun c41_11 => ?_) (fun c41_11 => ?_)
        · skip
          refine lv_iconst (v := 1) hx hb dX5_as_54 (by decide) ?_
          refine lv_goto (tgt := 59) hx hb dX5_as_55 (by decide) ?_
          refine lv_istore (lv' := [(4, .int 1), (3, .int (r (3 * x_))), (0, .ref m0), (1, .int (nI x_)), (2, .int k)]) hx hb dX5_as_59 hl (by decide) rfl (fun ls hl => ?_)
          refine lv_iload hx hb dX5_as_61 (lv_at hl 0 rfl) ?_
          refine lv_if_eq (tgt := 70) hx hb dX5_as_63 (by decide) (fun c63_12 => ?_) (fun c63_12 => ?_)
          · skip
            exact absurd c63_12 (by decide)
          · skip
            refine lv_iload_n hx hb dX5_as_66 rfl (lv_at hl 3 rfl) ?_
            refine lv_goto (tgt := 71) hx hb dX5_as_67 (by decide) ?_
            -- path 2
            exact hret ((nI x_)) () _ _ _ _ dX5_as_71 (rfl) (by clear hret hl hS hD hP hK hA hN hts hx hb hr hml hown hlocks hiX5; first | grind [mAs] | (unfold mAs; rw [z_nat (by omega)]; grind)) hP hD hS
        · skip
          refine lv_iload_n hx hb dX5_as_44 rfl (lv_at hl 3 rfl) ?_
          refine lv_iconst (v := 1) hx hb dX5_as_45 (by decide) ?_
          refine lv_icmp_ne (tgt := 58) hx hb dX5_as_46 (by decide) (fun c46_13 => ?_) (fun c46_13 => ?_)
          · skip
            refine lv_iconst (v := 0) hx hb dX5_as_58 (by decide) ?_
            refine lv_istore (lv' := [(4, .int 0), (3, .int (r (3 * x_))), (0, .ref m0), (1, .int (nI x_)), (2, .int k)]) hx hb dX5_as_59 hl (by decide) rfl (fun ls hl => ?_)
            refine lv_iload hx hb dX5_as_61 (lv_at hl 0 rfl) ?_
            refine lv_if_eq (tgt := 70) hx hb dX5_as_63 (by decide) (fun c63_14 => ?_) (fun c63_14 => ?_)
            · skip
              refine lv_iconst (v := (-1)) hx hb dX5_as_70 (by decide) ?_
              -- path 3
              exact hret ((-1)) () _ _ _ _ dX5_as_71 (rfl) (by clear hret hl hS hD hP hK hA hN hts hx hb hr hml hown hlocks hiX5; first | grind [mAs] | (unfold mAs; rw [z_nat (by omega)]; grind)) hP hD hS
            · skip
              exact absurd (by decide) c63_14
          · skip
            refine lv_iload_n hx hb dX5_as_49 rfl (lv_at hl 0 rfl) ?_
            refine lv_iconst (v := 4) hx hb dX5_as_50 (by decide) ?_
            refine lv_icmp_ne (tgt := 58) hx hb dX5_as_51 (by decide) (fun c51_15 => ?_) (fun c51_15 => ?_)
            · skip
              refine lv_iconst (v := 0) hx hb dX5_as_58 (by decide) ?_
              refine lv_istore (lv' := [(4, .int 0), (3, .int (r (3 * x_))), (0, .ref m0), (1, .int (nI x_)), (2, .int k)]) hx hb dX5_as_59 hl (by decide) rfl (fun ls hl => ?_)
              refine lv_iload hx hb dX5_as_61 (lv_at hl 0 rfl) ?_
              refine lv_if_eq (tgt := 70) hx hb dX5_as_63 (by decide) (fun c63_16 => ?_) (fun c63_16 => ?_)
              · skip
                refine lv_iconst (v := (-1)) hx hb dX5_as_70 (by decide) ?_
                -- path 4
                exact hret ((-1)) () _ _ _ _ dX5_as_71 (rfl) (by clear hret hl hS hD hP hK hA hN hts hx hb hr hml hown hlocks hiX5; first | grind [mAs] | (unfold mAs; rw [z_nat (by omega)]; grind)) hP hD hS
              · skip
                exact absurd (by decide) c63_16
            · skip
              refine lv_iconst (v := 1) hx hb dX5_as_54 (by decide) ?_
              refine lv_goto (tgt := 59) hx hb dX5_as_55 (by decide) ?_
              refine lv_istore (lv' := [(4, .int 1), (3, .int (r (3 * x_))), (0, .ref m0), (1, .int (nI x_)), (2, .int k)]) hx hb dX5_as_59 hl (by decide) rfl (fun ls hl => ?_)
              refine lv_iload hx hb dX5_as_61 (lv_at hl 0 rfl) ?_
              refine lv_if_eq (tgt := 70) hx hb dX5_as_63 (by decide) (fun c63_17 => ?_) (fun c63_17 => ?_)
              · skip
                exact absurd c63_17 (by decide)
              · skip
                refine lv_iload_n hx hb dX5_as_66 rfl (lv_at hl 3 rfl) ?_
                refine lv_goto (tgt := 71) hx hb dX5_as_67 (by decide) ?_
                -- path 5
                exact hret ((nI x_)) () _ _ _ _ dX5_as_71 (rfl) (by clear hret hl hS hD hP hK hA hN hts hx hb hr hml hown hlocks hiX5; first | grind [mAs] | (unfold mAs; rw [z_nat (by omega)]; grind)) hP hD hS
    · skip
      have c20_8 := bI_0.mp c20_8
      refine lv_bipush (v := (-102)) hx hb dX5_as_23 (by decide) ?_
      -- path 6
      exact hret ((-102)) () _ _ _ _ dX5_as_25 (rfl) (by clear hret hl hS hD hP hK hA hN hts hx hb hr hml hown hlocks hiX5; first | grind [mAs] | (unfold mAs; rw [z_nat (by omega)]; grind)) hP hD hS
  · skip
    have c5_4 := bI_0.mp c5_4
    refine lv_bipush (v := (-101)) hx hb dX5_as_8 (by decide) ?_
    -- path 7
    exact hret ((-101)) () _ _ _ _ dX5_as_10 (rfl) (by clear hret hl hS hD hP hK hA hN hts hx hb hr hml hown hlocks hiX5; first | grind [mAs] | (unfold mAs; rw [z_nat (by omega)]; grind)) hP hD hS
abbrev rm_c_X5_get : Room := { frames := 4, cells := 0, slots := 0, locals := 98 }
set_option maxHeartbeats 400000 in
set_option maxRecDepth 20000 in
theorem c_X5_get {l : Launch} {D : va_G} {cA : ClassId} {m0 : Nat} {pg : Nat} {rd : Nat} {ro : Nat} {fa : Nat} {wo : Nat} {ah : Nat} {he : Nat} {wy : Nat} {on_ : Nat} {pa : Nat} {kr : Nat} {kn : Nat} {kh : Nat} {sr : Nat} {sn : Nat} {n : Nat} {N : Nat} {t : Nat} {rmy : Int32} {rpt : Int32} {sta : Int32} {pt : Int32} {ou : Int32} {si : Int32} {en : Int32} {w0 : Int32} {w1 : Int32} {br : Int32} {cr : Int32} {pf : Int32} {kt : Int32} {kc : Int32} {sd : Int32} {ha : Int64} {r : Nat → Int32} {fa_ : Nat → Int32} {k0 : Nat} {x : Int32} {wh : Int32} (h5 : N ≤ 5) (hk0 : k0 < 64) : zMi l yX5_get wsX5_get rm_c_X5_get D cA [(m0, .inr (5, [.ref pg, .int (nI n), .ref rd, .int rmy, .int rpt, .int sta, .int (nI N), .int pt, .int (nI k0), .int ou, .int si, .int en, .int w0, .int w1, .int br, .int cr, .ref ro, .ref fa, .ref wo, .ref ah, .int pf, .int (nI t), .ref he, .ref wy, .ref on_, .ref pa, .ref kr, .ref kn, .ref kh, .int kt, .int kc, .int sd, .ref sr, .ref sn, .long ha])), (ro, .inl (cA, 15, .inl r)), (fa, .inl (cA, 64, .inl fa_))] [.ref m0, .int x, .int wh] (fun (ret_ : Int32) (u : Nat → Int32) => ret_ = mGet r N ou k0 x wh) (fun (u : Nat → Int32) => [(m0, .inr (5, [.ref pg, .int (nI n), .ref rd, .int rmy, .int rpt, .int sta, .int (nI N), .int pt, .int (nI k0), .int ou, .int si, .int en, .int w0, .int w1, .int br, .int cr, .ref ro, .ref fa, .ref wo, .ref ah, .int pf, .int (nI t), .ref he, .ref wy, .ref on_, .ref pa, .ref kr, .ref kn, .ref kh, .int kt, .int kc, .int sd, .ref sr, .ref sn, .long ha])), (ro, .inl (cA, 15, .inl r)), (fa, .inl (cA, 64, .inl u))]) := by
  refine z_enteri (cc := cX5_get) (maxL := 3) (ty := .int) (by decide) rfl (Nat.le_of_ble_eq_true rfl) (fun p e s m args below meth c ls A H0 H locs Q hi_ hA hK hP hD hS hl hret => ?_)
  obtain ⟨hx, hb, hr, hml, hown, hts, hlocks, hN⟩ := hi_
  have hl : lv_has ls 3 [(0, .ref m0), (1, .int x), (2, .int wh)] := hl
  have hiX5 : ∀ w ∈ wsX50, w ∈ wsX5_get := by decide +kernel
  refine lv_aload_n hx hb dX5_get_0 rfl (lv_at hl 0 rfl) ?_
  refine lv_iload_n hx hb dX5_get_1 rfl (lv_at hl 1 rfl) ?_
  refine z_bri (z_runV (As := [.int x]) (rest := []) (ci := 5) ⟨hx, hb, hml, hown, hts⟩ (c_X5_isSeat (m0 := m0) (pg := pg) (rd := rd) (ro := ro) (fa := fa) (wo := wo) (ah := ah) (he := he) (wy := wy) (on_ := on_) (pa := pa) (kr := kr) (kn := kn) (kh := kh) (sr := sr) (sn := sn) (n := n) (N := N) (t := t) (rmy := rmy) (rpt := rpt) (sta := sta) (pt := pt) (nw := nI k0) (ou := ou) (si := si) (en := en) (w0 := w0) (w1 := w1) (br := br) (cr := cr) (pf := pf) (kt := kt) (kc := kc) (sd := sd) (ha := ha) (x := x) _) (cwV 1 hts gX5_get_X5_isSeat rfl rfl rfl (by decide +kernel) ⟨Nat.le_of_ble_eq_true rfl, Nat.le_of_ble_eq_true rfl⟩) hK hP hD hN [0] rfl rfl rfl rfl rfl hl.1 rfl (Nat.le_of_ble_eq_true rfl) dX5_get_2 ⟨Nat.zero_le _, Nat.zero_le _⟩) hP hD hS hA [0] rfl (fun r_2 u_3 H locs hq_1 hP hS => ?_)
  obtain rfl : r_2 = bI (mIn x 0 (nI N - 1)) := hq_1
  refine lv_if_ne (tgt := 11) hx hb dX5_get_5 (by decide) (fun c5_4 => ?_) (fun c5_4 => ?_)
  · skip
    have c5_4 := bI_n0.mp c5_4
    refine lv_iload_n hx hb dX5_get_11 rfl (lv_at hl 2 rfl) ?_
    refine lv_i2l hx hb dX5_get_12 rfl ?_
    refine lv_lconst (v := 0) hx hb dX5_get_13 (by decide) ?_
    refine lv_lconst (v := 1) hx hb dX5_get_14 (by decide) ?_
    refine z_bri (z_runS (As := [.long (Int32.toInt64 wh), .long 0, .long 1]) (rest := []) ⟨hx, hb, hml, hown, hts⟩ (c_X5_in (x := Int32.toInt64 wh) (lo := 0) (hi := 1) _) (va_cwS 3 hts gX5_get_X5_in rfl rfl rfl (by decide +kernel) ⟨Nat.le_of_ble_eq_true rfl, Nat.le_of_ble_eq_true rfl⟩) hK hP hD hN [] rfl rfl rfl hl.1 rfl (Nat.le_of_ble_eq_true rfl) dX5_get_15 ⟨Nat.zero_le _, Nat.zero_le _⟩) hP hD hS hA [] rfl (fun r_6 u_7 H locs hq_5 hP hS => ?_)
    obtain rfl : r_6 = bI (decide (0 ≤ (Int32.toInt64 wh)) && decide ((Int32.toInt64 wh) ≤ 1)) := hq_5
    refine z_top (y := bI (mIn wh 0 1)) (z_in64 rfl rfl) ?_
    refine lv_if_ne (tgt := 24) hx hb dX5_get_18 (by decide) (fun c18_8 => ?_) (fun c18_8 => ?_)
    · skip
      have c18_8 := bI_n0.mp c18_8
      refine lv_iload_n hx hb dX5_get_24 rfl (lv_at hl 2 rfl) ?_
      refine lv_if_ne (tgt := 40) hx hb dX5_get_25 (by decide) (fun c25_9 => ?_) (fun c25_9 => ?_)
      · skip
        refine lv_aload_n hx hb dX5_get_40 rfl (lv_at hl 0 rfl) ?_
        refine lv_iload_n hx hb dX5_get_41 rfl (lv_at hl 1 rfl) ?_
        refine z_bwi (wr := []) (ws' := fun u_12 => [(m0, .inr (5, [.ref pg, .int (nI n), .ref rd, .int rmy, .int rpt, .int sta, .int (nI N), .int pt, .int (nI k0), .int ou, .int si, .int en, .int w0, .int w1, .int br, .int cr, .ref ro, .ref fa, .ref wo, .ref ah, .int pf, .int (nI t), .ref he, .ref wy, .ref on_, .ref pa, .ref kr, .ref kn, .ref kh, .int kt, .int kc, .int sd, .ref sr, .ref sn, .long ha])), (ro, .inl (cA, 15, .inl r)), (fa, .inl (cA, 64, .inl u_12))]) (z_runV (As := [.int x]) (rest := []) (ci := 5) ⟨hx, hb, hml, hown, hts⟩ (c_X5_firstOf (m0 := m0) (pg := pg) (rd := rd) (ro := ro) (fa := fa) (wo := wo) (ah := ah) (he := he) (wy := wy) (on_ := on_) (pa := pa) (kr := kr) (kn := kn) (kh := kh) (sr := sr) (sn := sn) (n := n) (N := N) (t := t) (rmy := rmy) (rpt := rpt) (sta := sta) (pt := pt) (ou := ou) (si := si) (en := en) (w0 := w0) (w1 := w1) (br := br) (cr := cr) (pf := pf) (kt := kt) (kc := kc) (sd := sd) (ha := ha) (r := r) (fa_ := fa_) (k0 := k0) (x := x) (by first | assumption | omega) (by first | assumption | omega) _) (cwV 1 hts gX5_get_X5_firstOf rfl rfl rfl (by decide +kernel) ⟨Nat.le_of_ble_eq_true rfl, Nat.le_of_ble_eq_true rfl⟩) hK hP hD hN [0, 1, 2] rfl rfl rfl rfl rfl hl.1 rfl (Nat.le_of_ble_eq_true rfl) dX5_get_42 ⟨Nat.zero_le _, Nat.zero_le _⟩) hP hD hS hA [0, 1, 2] [] [0, 1, 2] rfl rfl rfl (by decide) rfl (fun _ => rfl) (fun r_11 u_12 H locs hq_10 hP hD hS => ?_)
        obtain rfl : r_11 = mFirst r N ou k0 x := hq_10
        have hP : va_P D vwCl [(m0, .inr (5, [.ref pg, .int (nI n), .ref rd, .int rmy, .int rpt, .int sta, .int (nI N), .int pt, .int (nI k0), .int ou, .int si, .int en, .int w0, .int w1, .int br, .int cr, .ref ro, .ref fa, .ref wo, .ref ah, .int pf, .int (nI t), .ref he, .ref wy, .ref on_, .ref pa, .ref kr, .ref kn, .ref kh, .int kt, .int kc, .int sd, .ref sr, .ref sn, .long ha])), (ro, .inl (cA, 15, .inl r)), (fa, .inl (cA, 64, .inl u_12))] H := hP
        have hD : va_D A [(m0, .inr (5, [.ref pg, .int (nI n), .ref rd, .int rmy, .int rpt, .int sta, .int (nI N), .int pt, .int (nI k0), .int ou, .int si, .int en, .int w0, .int w1, .int br, .int cr, .ref ro, .ref fa, .ref wo, .ref ah, .int pf, .int (nI t), .ref he, .ref wy, .ref on_, .ref pa, .ref kr, .ref kn, .ref kh, .int kt, .int kc, .int sd, .ref sr, .ref sn, .long ha])), (ro, .inl (cA, 15, .inl r)), (fa, .inl (cA, 64, .inl u_12))] := hD
        -- path 1
        exact hret (mFirst r N ou k0 x) u_12 _ _ _ _ dX5_get_45 (rfl) (by clear hret hl hS hD hP hK hA hN hts hx hb hr hml hown hlocks hiX5; simp_all [mGet]) hP hD hS
      · skip
        refine lv_aload_n hx hb dX5_get_28 rfl (lv_at hl 0 rfl) ?_
        refine lv_aload_n hx hb dX5_get_29 rfl (lv_at hl 0 rfl) ?_
        refine va_get (D := D) (ci := 5) (v := .int (nI k0)) (C := RX5) (T := TX5) (N := 35) hx hb hts hiX5 hown hK hP 0 rfl rfl 8 (by decide) (hts (.fieldLink RX5 59 "HeardSecondModel" "now" "I") (by decide +kernel)) (fun _ h9 => h9) rfl dX5_get_30 ?_
        refine lv_iload_n hx hb dX5_get_33 rfl (lv_at hl 1 rfl) ?_
        refine z_bwi (wr := []) (ws' := fun (_ : Unit) => [(m0, .inr (5, [.ref pg, .int (nI n), .ref rd, .int rmy, .int rpt, .int sta, .int (nI N), .int pt, .int (nI k0), .int ou, .int si, .int en, .int w0, .int w1, .int br, .int cr, .ref ro, .ref fa, .ref wo, .ref ah, .int pf, .int (nI t), .ref he, .ref wy, .ref on_, .ref pa, .ref kr, .ref kn, .ref kh, .int kt, .int kc, .int sd, .ref sr, .ref sn, .long ha])), (ro, .inl (cA, 15, .inl r)), (fa, .inl (cA, 64, .inl (mF3 r N ou k0 64)))]) (z_runV (As := [.int (nI k0), .int x]) (rest := []) (ci := 5) ⟨hx, hb, hml, hown, hts⟩ (c_X5_fewFrom (m0 := m0) (pg := pg) (rd := rd) (ro := ro) (fa := fa) (wo := wo) (ah := ah) (he := he) (wy := wy) (on_ := on_) (pa := pa) (kr := kr) (kn := kn) (kh := kh) (sr := sr) (sn := sn) (n := n) (N := N) (t := t) (rmy := rmy) (rpt := rpt) (sta := sta) (pt := pt) (nw := nI k0) (ou := ou) (si := si) (en := en) (w0 := w0) (w1 := w1) (br := br) (cr := cr) (pf := pf) (kt := kt) (kc := kc) (sd := sd) (ha := ha) (r := r) (fa_ := fa_) (k0 := k0) (x := x) (by first | assumption | omega) (by first | assumption | omega) _) (cwV 2 hts gX5_get_X5_fewFrom rfl rfl rfl (by decide +kernel) ⟨Nat.le_of_ble_eq_true rfl, Nat.le_of_ble_eq_true rfl⟩) hK hP hD hN [0, 1, 2] rfl rfl rfl rfl rfl hl.1 rfl (Nat.le_of_ble_eq_true rfl) dX5_get_34 ⟨Nat.zero_le _, Nat.zero_le _⟩) hP hD hS hA [0, 1, 2] [] [0, 1, 2] rfl rfl rfl (by decide) rfl (fun _ => rfl) (fun r_14 u_15 H locs hq_13 hP hD hS => ?_)
        obtain rfl : r_14 = mFewest r N ou k0 x := hq_13
        have hP : va_P D vwCl [(m0, .inr (5, [.ref pg, .int (nI n), .ref rd, .int rmy, .int rpt, .int sta, .int (nI N), .int pt, .int (nI k0), .int ou, .int si, .int en, .int w0, .int w1, .int br, .int cr, .ref ro, .ref fa, .ref wo, .ref ah, .int pf, .int (nI t), .ref he, .ref wy, .ref on_, .ref pa, .ref kr, .ref kn, .ref kh, .int kt, .int kc, .int sd, .ref sr, .ref sn, .long ha])), (ro, .inl (cA, 15, .inl r)), (fa, .inl (cA, 64, .inl (mF3 r N ou k0 64)))] H := hP
        have hD : va_D A [(m0, .inr (5, [.ref pg, .int (nI n), .ref rd, .int rmy, .int rpt, .int sta, .int (nI N), .int pt, .int (nI k0), .int ou, .int si, .int en, .int w0, .int w1, .int br, .int cr, .ref ro, .ref fa, .ref wo, .ref ah, .int pf, .int (nI t), .ref he, .ref wy, .ref on_, .ref pa, .ref kr, .ref kn, .ref kh, .int kt, .int kc, .int sd, .ref sr, .ref sn, .long ha])), (ro, .inl (cA, 15, .inl r)), (fa, .inl (cA, 64, .inl (mF3 r N ou k0 64)))] := hD
        refine lv_goto (tgt := 45) hx hb dX5_get_37 (by decide) ?_
        -- path 2
        exact hret (mFewest r N ou k0 x) (mF3 r N ou k0 64) _ _ _ _ dX5_get_45 (rfl) (by clear hret hl hS hD hP hK hA hN hts hx hb hr hml hown hlocks hiX5; simp_all [mGet]) hP hD hS
    · skip
      have c18_8 := bI_0.mp c18_8
      refine lv_bipush (v := (-102)) hx hb dX5_get_21 (by decide) ?_
      -- path 3
      exact hret ((-102)) fa_ _ _ _ _ dX5_get_23 (rfl) (by clear hret hl hS hD hP hK hA hN hts hx hb hr hml hown hlocks hiX5; simp_all [mGet]) hP hD hS
  · skip
    have c5_4 := bI_0.mp c5_4
    refine lv_bipush (v := (-101)) hx hb dX5_get_8 (by decide) ?_
    -- path 4
    exact hret ((-101)) fa_ _ _ _ _ dX5_get_10 (rfl) (by clear hret hl hS hD hP hK hA hN hts hx hb hr hml hown hlocks hiX5; simp_all [mGet]) hP hD hS
