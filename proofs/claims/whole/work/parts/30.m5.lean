abbrev rm_c_X5_layWays : Room := { frames := 1, cells := 0, slots := 0, locals := 26 }
set_option maxHeartbeats 4000000 in
set_option maxRecDepth 20000 in
theorem c_X5_layWays {l : Launch} {D : va_G} {cA : ClassId} {m0 : Nat} {pg : Nat} {rd : Nat} {ro : Nat} {fa : Nat} {wo : Nat} {ah : Nat} {he : Nat} {wy : Nat} {on_ : Nat} {pa : Nat} {kr : Nat} {kn : Nat} {kh : Nat} {sr : Nat} {sn : Nat} {n : Nat} {N : Nat} {t : Nat} {rmy : Int32} {rpt : Int32} {sta : Int32} {pt : Int32} {ou : Int32} {si : Int32} {en : Int32} {w0 : Int32} {w1 : Int32} {br : Int32} {cr : Int32} {pf : Int32} {kt : Int32} {kc : Int32} {sd : Int32} {ha : Int64} {r : Nat → Int32} {he_ : Nat → Int32} {y : Nat → Int32} {z : Nat → Int32} {k0 : Nat} {nb : Nat} (h5 : N ≤ 5) (ht : t ≤ 8) (hk0 : k0 < 64) (hnb : nb ≤ 6) : zMv l yX5_layWays wsX5_layWays rm_c_X5_layWays D cA [(m0, .inr (5, [.ref pg, .int (nI n), .ref rd, .int rmy, .int rpt, .int sta, .int (nI N), .int pt, .int (nI k0), .int ou, .int si, .int en, .int w0, .int w1, .int br, .int cr, .ref ro, .ref fa, .ref wo, .ref ah, .int pf, .int (nI t), .ref he, .ref wy, .ref on_, .ref pa, .ref kr, .ref kn, .ref kh, .int kt, .int kc, .int sd, .ref sr, .ref sn, .long ha])), (ro, .inl (cA, 15, .inl r)), (he, .inl (cA, 16, .inl he_)), (wy, .inl (cA, 448, .inl y)), (on_, .inl (cA, 448, .inl z))] [.ref m0, .int (nI nb)] (fun (_ : Unit) => True) (fun (_ : Unit) => [(m0, .inr (5, [.ref pg, .int (nI n), .ref rd, .int rmy, .int rpt, .int sta, .int (nI N), .int pt, .int (nI k0), .int ou, .int si, .int en, .int w0, .int w1, .int br, .int cr, .ref ro, .ref fa, .ref wo, .ref ah, .int pf, .int (nI t), .ref he, .ref wy, .ref on_, .ref pa, .ref kr, .ref kn, .ref kh, .int kt, .int kc, .int sd, .ref sr, .ref sn, .long ha])), (ro, .inl (cA, 15, .inl r)), (he, .inl (cA, 16, .inl he_)), (wy, .inl (cA, 448, .inl (mY3 r N ou he_ t k0 nb))), (on_, .inl (cA, 448, .inl (mO3 r N ou he_ t nb nb)))]) := by
  refine z_enterv (cc := cX5_layWays) (maxL := 5) (by decide) rfl (Nat.le_of_ble_eq_true rfl) (fun p e s m args below meth c ls A H0 H locs Q hi_ hA hK hP hD hS hl hret => ?_)
  obtain ⟨hx, hb, hr, hml, hown, hts, hlocks, hN⟩ := hi_
  have hl : lv_has ls 5 [(0, .ref m0), (1, .int (nI nb))] := hl
  have hiX5 : ∀ w ∈ wsX50, w ∈ wsX5_layWays := by decide +kernel
  refine lv_iconst (v := nI 0) hx hb dX5_layWays_0 (by decide) ?_
  refine lv_istore_n (lv' := [(2, .int (nI 0)), (0, .ref m0), (1, .int (nI nb))]) hx hb dX5_layWays_1 rfl hl (by decide) rfl (fun ls hl => ?_)
  have L2 : ∀ (n_ : Nat) (i : Nat) (g1 : Nat → Int32) (g2 : Nat → Int32) (hm_ : 449 ≤ i + n_) (hi : i ≤ 448) (hg1 : ∀ j, j < i → g1 j = 0) (hg2 : ∀ j, j < i → g2 j = 0) (H : Heap) (locs : List Loc) (ls : Array Slot), va_P D vwCl [(m0, .inr (5, [.ref pg, .int (nI n), .ref rd, .int rmy, .int rpt, .int sta, .int (nI N), .int pt, .int (nI k0), .int ou, .int si, .int en, .int w0, .int w1, .int br, .int cr, .ref ro, .ref fa, .ref wo, .ref ah, .int pf, .int (nI t), .ref he, .ref wy, .ref on_, .ref pa, .ref kr, .ref kn, .ref kh, .int kt, .int kc, .int sd, .ref sr, .ref sn, .long ha])), (ro, .inl (cA, 15, .inl r)), (he, .inl (cA, 16, .inl he_)), (wy, .inl (cA, 448, .inl g1)), (on_, .inl (cA, 448, .inl g2))] H → va_D A [(m0, .inr (5, [.ref pg, .int (nI n), .ref rd, .int rmy, .int rpt, .int sta, .int (nI N), .int pt, .int (nI k0), .int ou, .int si, .int en, .int w0, .int w1, .int br, .int cr, .ref ro, .ref fa, .ref wo, .ref ah, .int pf, .int (nI t), .ref he, .ref wy, .ref on_, .ref pa, .ref kr, .ref kn, .ref kh, .int kt, .int kc, .int sd, .ref sr, .ref sn, .long ha])), (ro, .inl (cA, 15, .inl r)), (he, .inl (cA, 16, .inl he_)), (wy, .inl (cA, 448, .inl g1)), (on_, .inl (cA, 448, .inl g2))] → va_S A H0 H locs → lv_has ls 5 [(0, .ref m0), (1, .int (nI nb)), (2, .int (nI i))] → W p l e rm_c_X5_layWays s m args below meth c H locs 0 0 Q (F0 m 2 ls []) := by
    intro n_
    induction n_ with
    | zero =>
      intro i g1 g2 hm_ hi hg1 hg2
      exact absurd hm_ (by omega)
    | succ n_ ih_ =>
      intro i g1 g2 hm_ hi hg1 hg2 H locs ls hP hD hS hl
      have ih1 := ih_
      clear ih_
      refine lv_iload_n hx hb dX5_layWays_2 rfl (lv_at hl 2 rfl) ?_
      refine lv_sipush (v := 448) hx hb dX5_layWays_3 (by decide) ?_
      refine lv_icmp_ge (tgt := 29) hx hb dX5_layWays_6 (by decide) (fun c6_2 => ?_) (fun c6_2 => ?_)
      · skip
        have ht_ : i = 448 := by have := (nI_leI (a := 448) (b := i) (by omega) (by omega)).mp c6_2; omega
        have hP : va_P D vwCl [(m0, .inr (5, [.ref pg, .int (nI n), .ref rd, .int rmy, .int rpt, .int sta, .int (nI N), .int pt, .int (nI k0), .int ou, .int si, .int en, .int w0, .int w1, .int br, .int cr, .ref ro, .ref fa, .ref wo, .ref ah, .int pf, .int (nI t), .ref he, .ref wy, .ref on_, .ref pa, .ref kr, .ref kn, .ref kh, .int kt, .int kc, .int sd, .ref sr, .ref sn, .long ha])), (ro, .inl (cA, 15, .inl r)), (he, .inl (cA, 16, .inl he_)), (wy, .inl (cA, 448, .inl (fun _ => 0))), (on_, .inl (cA, 448, .inl g2))] H := z_arrP hP 3 (g := (fun _ => 0)) rfl (by intro j hj; exact hg1 j (by omega)) rfl
        have hD : va_D A [(m0, .inr (5, [.ref pg, .int (nI n), .ref rd, .int rmy, .int rpt, .int sta, .int (nI N), .int pt, .int (nI k0), .int ou, .int si, .int en, .int w0, .int w1, .int br, .int cr, .ref ro, .ref fa, .ref wo, .ref ah, .int pf, .int (nI t), .ref he, .ref wy, .ref on_, .ref pa, .ref kr, .ref kn, .ref kh, .int kt, .int kc, .int sd, .ref sr, .ref sn, .long ha])), (ro, .inl (cA, 15, .inl r)), (he, .inl (cA, 16, .inl he_)), (wy, .inl (cA, 448, .inl (fun _ => 0))), (on_, .inl (cA, 448, .inl g2))] := z_arrD hD 3 rfl rfl
        have hP : va_P D vwCl [(m0, .inr (5, [.ref pg, .int (nI n), .ref rd, .int rmy, .int rpt, .int sta, .int (nI N), .int pt, .int (nI k0), .int ou, .int si, .int en, .int w0, .int w1, .int br, .int cr, .ref ro, .ref fa, .ref wo, .ref ah, .int pf, .int (nI t), .ref he, .ref wy, .ref on_, .ref pa, .ref kr, .ref kn, .ref kh, .int kt, .int kc, .int sd, .ref sr, .ref sn, .long ha])), (ro, .inl (cA, 15, .inl r)), (he, .inl (cA, 16, .inl he_)), (wy, .inl (cA, 448, .inl (fun _ => 0))), (on_, .inl (cA, 448, .inl (fun _ => 0)))] H := z_arrP hP 4 (g := (fun _ => 0)) rfl (by intro j hj; exact hg2 j (by omega)) rfl
        have hD : va_D A [(m0, .inr (5, [.ref pg, .int (nI n), .ref rd, .int rmy, .int rpt, .int sta, .int (nI N), .int pt, .int (nI k0), .int ou, .int si, .int en, .int w0, .int w1, .int br, .int cr, .ref ro, .ref fa, .ref wo, .ref ah, .int pf, .int (nI t), .ref he, .ref wy, .ref on_, .ref pa, .ref kr, .ref kn, .ref kh, .int kt, .int kc, .int sd, .ref sr, .ref sn, .long ha])), (ro, .inl (cA, 15, .inl r)), (he, .inl (cA, 16, .inl he_)), (wy, .inl (cA, 448, .inl (fun _ => 0))), (on_, .inl (cA, 448, .inl (fun _ => 0)))] := z_arrD hD 4 rfl rfl
        refine lv_aload_n hx hb dX5_layWays_29 rfl (lv_at hl 0 rfl) ?_
        refine va_get (D := D) (ci := 5) (v := .ref wy) (C := RX5) (T := TX5) (N := 35) hx hb hts hiX5 hown hK hP 0 rfl rfl 23 (by decide) (hts (.fieldLink RX5 31 "HeardSecondModel" "ways" "[I") (by decide +kernel)) (fun _ h9 => h9) rfl dX5_layWays_30 ?_
        refine lv_aload_n hx hb dX5_layWays_33 rfl (lv_at hl 0 rfl) ?_
        refine va_get (D := D) (ci := 5) (v := .int (nI k0)) (C := RX5) (T := TX5) (N := 35) hx hb hts hiX5 hown hK hP 0 rfl rfl 8 (by decide) (hts (.fieldLink RX5 59 "HeardSecondModel" "now" "I") (by decide +kernel)) (fun _ h9 => h9) rfl dX5_layWays_34 ?_
        refine lv_aload_n hx hb dX5_layWays_37 rfl (lv_at hl 0 rfl) ?_
        refine lv_iconst (v := 0) hx hb dX5_layWays_38 (by decide) ?_
        refine lv_aload_n hx hb dX5_layWays_39 rfl (lv_at hl 0 rfl) ?_
        refine va_get (D := D) (ci := 5) (v := .int (nI k0)) (C := RX5) (T := TX5) (N := 35) hx hb hts hiX5 hown hK hP 0 rfl rfl 8 (by decide) (hts (.fieldLink RX5 59 "HeardSecondModel" "now" "I") (by decide +kernel)) (fun _ h9 => h9) rfl dX5_layWays_40 ?_
        refine z_bri (z_runV (As := [.int 0, .int (nI k0)]) (rest := [.int (nI k0), .ref wy]) (ci := 5) ⟨hx, hb, hml, hown, hts⟩ (c_X5_isHeard (m0 := m0) (pg := pg) (rd := rd) (ro := ro) (fa := fa) (wo := wo) (ah := ah) (he := he) (wy := wy) (on_ := on_) (pa := pa) (kr := kr) (kn := kn) (kh := kh) (sr := sr) (sn := sn) (n := n) (N := N) (t := t) (rmy := rmy) (rpt := rpt) (sta := sta) (pt := pt) (nw := nI k0) (ou := ou) (si := si) (en := en) (w0 := w0) (w1 := w1) (br := br) (cr := cr) (pf := pf) (kt := kt) (kc := kc) (sd := sd) (ha := ha) (he_ := he_) (x := 0) (k := k0) (by first | assumption | omega) (by first | assumption | omega) _) (cwV 2 hts gX5_layWays_X5_isHeard rfl rfl rfl (by decide +kernel) ⟨Nat.le_of_ble_eq_true rfl, Nat.le_of_ble_eq_true rfl⟩) hK hP hD hN [0, 2] rfl rfl rfl rfl rfl hl.1 rfl (Nat.le_of_ble_eq_true rfl) dX5_layWays_43 ⟨Nat.zero_le _, Nat.zero_le _⟩) hP hD hS hA [0, 2] rfl (fun r_4 u_5 H locs hq_3 hP hS => ?_)
        obtain rfl : r_4 = bI (mHeard he_ 0 k0 t) := hq_3
        refine lv_if_eq (tgt := 53) hx hb dX5_layWays_46 (by decide) (fun c46_6 => ?_) (fun c46_6 => ?_)
        · skip
          have c46_6 := bI_0.mp c46_6
          refine lv_iconst (v := 0) hx hb dX5_layWays_53 (by decide) ?_
          refine z_top (y := bI (mHeard he_ 0 k0 t)) (by first | (rw [show mHeard he_ 0 k0 t = true by assumption]; rfl) | (rw [show mHeard he_ 0 k0 t = false by assumption]; rfl)) ?_
          refine va_iast hx hb hK hP hD hS 3 0 rfl rfl (z_inN (by omega) (by decide)) dX5_layWays_54 (fun H locs hP hD hS => ?_)
          have hP : va_P D vwCl [(m0, .inr (5, [.ref pg, .int (nI n), .ref rd, .int rmy, .int rpt, .int sta, .int (nI N), .int pt, .int (nI k0), .int ou, .int si, .int en, .int w0, .int w1, .int br, .int cr, .ref ro, .ref fa, .ref wo, .ref ah, .int pf, .int (nI t), .ref he, .ref wy, .ref on_, .ref pa, .ref kr, .ref kn, .ref kh, .int kt, .int kc, .int sd, .ref sr, .ref sn, .long ha])), (ro, .inl (cA, 15, .inl r)), (he, .inl (cA, 16, .inl he_)), (wy, .inl (cA, 448, .inl (upd (fun _ => 0) (Int32.toNatClampNeg (nI k0)) (bI (mHeard he_ 0 k0 t))))), (on_, .inl (cA, 448, .inl (fun _ => 0)))] H := hP
          have hD : va_D A [(m0, .inr (5, [.ref pg, .int (nI n), .ref rd, .int rmy, .int rpt, .int sta, .int (nI N), .int pt, .int (nI k0), .int ou, .int si, .int en, .int w0, .int w1, .int br, .int cr, .ref ro, .ref fa, .ref wo, .ref ah, .int pf, .int (nI t), .ref he, .ref wy, .ref on_, .ref pa, .ref kr, .ref kn, .ref kh, .int kt, .int kc, .int sd, .ref sr, .ref sn, .long ha])), (ro, .inl (cA, 15, .inl r)), (he, .inl (cA, 16, .inl he_)), (wy, .inl (cA, 448, .inl (upd (fun _ => 0) (Int32.toNatClampNeg (nI k0)) (bI (mHeard he_ 0 k0 t))))), (on_, .inl (cA, 448, .inl (fun _ => 0)))] := hD
          rw [show upd (fun _ => 0) (Int32.toNatClampNeg (nI k0)) (bI (mHeard he_ 0 k0 t)) = upd (fun _ => 0) k0 (bI (mHeard he_ 0 k0 t)) from by rw [z_nat (by omega)]] at hP hD
          refine lv_iconst (v := nI 0) hx hb dX5_layWays_55 (by decide) ?_
          refine lv_istore_n (lv' := [(2, .int (nI 0)), (0, .ref m0), (1, .int (nI nb))]) hx hb dX5_layWays_56 rfl hl (by decide) rfl (fun ls hl => ?_)
          have L57 : ∀ (n_ : Nat) (nn : Nat) (g : Nat → Int32) (hm_ : nb + 1 ≤ nn + n_) (hnn : nn ≤ nb) (hg : g = mY3 r N ou he_ t k0 nn) (H : Heap) (locs : List Loc) (ls : Array Slot), va_P D vwCl [(m0, .inr (5, [.ref pg, .int (nI n), .ref rd, .int rmy, .int rpt, .int sta, .int (nI N), .int pt, .int (nI k0), .int ou, .int si, .int en, .int w0, .int w1, .int br, .int cr, .ref ro, .ref fa, .ref wo, .ref ah, .int pf, .int (nI t), .ref he, .ref wy, .ref on_, .ref pa, .ref kr, .ref kn, .ref kh, .int kt, .int kc, .int sd, .ref sr, .ref sn, .long ha])), (ro, .inl (cA, 15, .inl r)), (he, .inl (cA, 16, .inl he_)), (wy, .inl (cA, 448, .inl g)), (on_, .inl (cA, 448, .inl (fun _ => 0)))] H → va_D A [(m0, .inr (5, [.ref pg, .int (nI n), .ref rd, .int rmy, .int rpt, .int sta, .int (nI N), .int pt, .int (nI k0), .int ou, .int si, .int en, .int w0, .int w1, .int br, .int cr, .ref ro, .ref fa, .ref wo, .ref ah, .int pf, .int (nI t), .ref he, .ref wy, .ref on_, .ref pa, .ref kr, .ref kn, .ref kh, .int kt, .int kc, .int sd, .ref sr, .ref sn, .long ha])), (ro, .inl (cA, 15, .inl r)), (he, .inl (cA, 16, .inl he_)), (wy, .inl (cA, 448, .inl g)), (on_, .inl (cA, 448, .inl (fun _ => 0)))] → va_S A H0 H locs → lv_has ls 5 [(0, .ref m0), (1, .int (nI nb)), (2, .int (nI nn))] → W p l e rm_c_X5_layWays s m args below meth c H locs 0 0 Q (F0 m 57 ls []) := by
            intro n_
            induction n_ with
            | zero =>
              intro nn g hm_ hnn hg
              exact absurd hm_ (by omega)
            | succ n_ ih_ =>
              intro nn g hm_ hnn hg H locs ls hP hD hS hl
              have ih7 := ih_
              clear ih_
              refine lv_iload_n hx hb dX5_layWays_57 rfl (lv_at hl 2 rfl) ?_
              refine lv_iload_n hx hb dX5_layWays_58 rfl (lv_at hl 1 rfl) ?_
              refine lv_icmp_ge (tgt := 184) hx hb dX5_layWays_59 (by decide) (fun c59_8 => ?_) (fun c59_8 => ?_)
              · skip
                have ht_w : nn = nb := by have := (nI_leI (a := nb) (b := nn) (by omega) (by omega)).mp c59_8; omega
                refine lv_iconst (v := nI 0) hx hb dX5_layWays_184 (by decide) ?_
                refine lv_istore_n (lv' := [(2, .int (nI 0)), (0, .ref m0), (1, .int (nI nb))]) hx hb dX5_layWays_185 rfl hl (by decide) rfl (fun ls hl => ?_)
                have L186 : ∀ (n_ : Nat) (q : Nat) (q2 : Nat → Int32) (hm_ : 65 ≤ q + n_) (hq : q ≤ 64) (hq2 : ∀ j, j < 448 → q2 j = if 64 * nb ≤ j ∧ j < 64 * nb + q then 1 else 0) (H : Heap) (locs : List Loc) (ls : Array Slot), va_P D vwCl [(m0, .inr (5, [.ref pg, .int (nI n), .ref rd, .int rmy, .int rpt, .int sta, .int (nI N), .int pt, .int (nI k0), .int ou, .int si, .int en, .int w0, .int w1, .int br, .int cr, .ref ro, .ref fa, .ref wo, .ref ah, .int pf, .int (nI t), .ref he, .ref wy, .ref on_, .ref pa, .ref kr, .ref kn, .ref kh, .int kt, .int kc, .int sd, .ref sr, .ref sn, .long ha])), (ro, .inl (cA, 15, .inl r)), (he, .inl (cA, 16, .inl he_)), (wy, .inl (cA, 448, .inl g)), (on_, .inl (cA, 448, .inl q2))] H → va_D A [(m0, .inr (5, [.ref pg, .int (nI n), .ref rd, .int rmy, .int rpt, .int sta, .int (nI N), .int pt, .int (nI k0), .int ou, .int si, .int en, .int w0, .int w1, .int br, .int cr, .ref ro, .ref fa, .ref wo, .ref ah, .int pf, .int (nI t), .ref he, .ref wy, .ref on_, .ref pa, .ref kr, .ref kn, .ref kh, .int kt, .int kc, .int sd, .ref sr, .ref sn, .long ha])), (ro, .inl (cA, 15, .inl r)), (he, .inl (cA, 16, .inl he_)), (wy, .inl (cA, 448, .inl g)), (on_, .inl (cA, 448, .inl q2))] → va_S A H0 H locs → lv_has ls 5 [(0, .ref m0), (1, .int (nI nb)), (2, .int (nI q))] → W p l e rm_c_X5_layWays s m args below meth c H locs 0 0 Q (F0 m 186 ls []) := by
                  intro n_
                  induction n_ with
                  | zero =>
                    intro q q2 hm_ hq hq2
                    exact absurd hm_ (by omega)
                  | succ n_ ih_ =>
                    intro q q2 hm_ hq hq2 H locs ls hP hD hS hl
                    have ih9 := ih_
                    clear ih_
                    refine lv_iload_n hx hb dX5_layWays_186 rfl (lv_at hl 2 rfl) ?_
                    refine lv_bipush (v := 64) hx hb dX5_layWays_187 (by decide) ?_
                    refine lv_icmp_ge (tgt := 210) hx hb dX5_layWays_189 (by decide) (fun c189_10 => ?_) (fun c189_10 => ?_)
                    · skip
                      have ht_ : q = 64 := by have := (nI_leI (a := 64) (b := q) (by omega) (by omega)).mp c189_10; omega
                      have hP : va_P D vwCl [(m0, .inr (5, [.ref pg, .int (nI n), .ref rd, .int rmy, .int rpt, .int sta, .int (nI N), .int pt, .int (nI k0), .int ou, .int si, .int en, .int w0, .int w1, .int br, .int cr, .ref ro, .ref fa, .ref wo, .ref ah, .int pf, .int (nI t), .ref he, .ref wy, .ref on_, .ref pa, .ref kr, .ref kn, .ref kh, .int kt, .int kc, .int sd, .ref sr, .ref sn, .long ha])), (ro, .inl (cA, 15, .inl r)), (he, .inl (cA, 16, .inl he_)), (wy, .inl (cA, 448, .inl g)), (on_, .inl (cA, 448, .inl (mO3 r N ou he_ t nb 0)))] H := z_arrP hP 4 (g := (mO3 r N ou he_ t nb 0)) rfl (by intro j hj; rw [hq2 j hj, ht_]; rfl) rfl
                      have hD : va_D A [(m0, .inr (5, [.ref pg, .int (nI n), .ref rd, .int rmy, .int rpt, .int sta, .int (nI N), .int pt, .int (nI k0), .int ou, .int si, .int en, .int w0, .int w1, .int br, .int cr, .ref ro, .ref fa, .ref wo, .ref ah, .int pf, .int (nI t), .ref he, .ref wy, .ref on_, .ref pa, .ref kr, .ref kn, .ref kh, .int kt, .int kc, .int sd, .ref sr, .ref sn, .long ha])), (ro, .inl (cA, 15, .inl r)), (he, .inl (cA, 16, .inl he_)), (wy, .inl (cA, 448, .inl g)), (on_, .inl (cA, 448, .inl (mO3 r N ou he_ t nb 0)))] := z_arrD hD 4 rfl rfl
                      refine lv_iload_n hx hb dX5_layWays_210 rfl (lv_at hl 1 rfl) ?_
                      refine lv_iconst (v := 1) hx hb dX5_layWays_211 (by decide) ?_
                      refine lv_isub hx hb dX5_layWays_212 ?_
                      refine z_top (y := pI nb) (rfl) ?_
                      refine lv_istore_n (lv' := [(2, .int (pI nb)), (0, .ref m0), (1, .int (nI nb))]) hx hb dX5_layWays_213 rfl hl (by decide) rfl (fun ls hl => ?_)
                      have L214 : ∀ (n_ : Nat) (d : Nat) (o1 : Nat → Int32) (hm_ : d + 1 ≤ n_) (hd : d ≤ nb) (ho1 : o1 = mO3 r N ou he_ t nb (nb - d)) (H : Heap) (locs : List Loc) (ls : Array Slot), va_P D vwCl [(m0, .inr (5, [.ref pg, .int (nI n), .ref rd, .int rmy, .int rpt, .int sta, .int (nI N), .int pt, .int (nI k0), .int ou, .int si, .int en, .int w0, .int w1, .int br, .int cr, .ref ro, .ref fa, .ref wo, .ref ah, .int pf, .int (nI t), .ref he, .ref wy, .ref on_, .ref pa, .ref kr, .ref kn, .ref kh, .int kt, .int kc, .int sd, .ref sr, .ref sn, .long ha])), (ro, .inl (cA, 15, .inl r)), (he, .inl (cA, 16, .inl he_)), (wy, .inl (cA, 448, .inl g)), (on_, .inl (cA, 448, .inl o1))] H → va_D A [(m0, .inr (5, [.ref pg, .int (nI n), .ref rd, .int rmy, .int rpt, .int sta, .int (nI N), .int pt, .int (nI k0), .int ou, .int si, .int en, .int w0, .int w1, .int br, .int cr, .ref ro, .ref fa, .ref wo, .ref ah, .int pf, .int (nI t), .ref he, .ref wy, .ref on_, .ref pa, .ref kr, .ref kn, .ref kh, .int kt, .int kc, .int sd, .ref sr, .ref sn, .long ha])), (ro, .inl (cA, 15, .inl r)), (he, .inl (cA, 16, .inl he_)), (wy, .inl (cA, 448, .inl g)), (on_, .inl (cA, 448, .inl o1))] → va_S A H0 H locs → lv_has ls 5 [(0, .ref m0), (1, .int (nI nb)), (2, .int (pI d))] → W p l e rm_c_X5_layWays s m args below meth c H locs 0 0 Q (F0 m 214 ls []) := by
                        intro n_
                        induction n_ with
                        | zero =>
                          intro d o1 hm_ hd ho1
                          exact absurd hm_ (by omega)
                        | succ n_ ih_ =>
                          intro d o1 hm_ hd ho1 H locs ls hP hD hS hl
                          have ih11 := ih_
                          clear ih_
                          refine lv_iload_n hx hb dX5_layWays_214 rfl (lv_at hl 2 rfl) ?_
                          refine lv_if_lt (tgt := 326) hx hb dX5_layWays_215 (by decide) (fun c215_12 => ?_) (fun c215_12 => ?_)
                          · skip
                            have ht_ : d = 0 := (pI_neg d (by omega)).mp c215_12
                            -- path 1
                            have hP : va_P D vwCl [(m0, .inr (5, [.ref pg, .int (nI n), .ref rd, .int rmy, .int rpt, .int sta, .int (nI N), .int pt, .int (nI k0), .int ou, .int si, .int en, .int w0, .int w1, .int br, .int cr, .ref ro, .ref fa, .ref wo, .ref ah, .int pf, .int (nI t), .ref he, .ref wy, .ref on_, .ref pa, .ref kr, .ref kn, .ref kh, .int kt, .int kc, .int sd, .ref sr, .ref sn, .long ha])), (ro, .inl (cA, 15, .inl r)), (he, .inl (cA, 16, .inl he_)), (wy, .inl (cA, 448, .inl (mY3 r N ou he_ t k0 nb))), (on_, .inl (cA, 448, .inl o1))] H := z_arrP hP 3 (g := (mY3 r N ou he_ t k0 nb)) rfl (by clear hret hl hS hD hP hK hA hN hts hx hb hr hml hown hlocks hiX5 ih1 ih7 ih9 ih11; intro j hj; rw [hg, ht_w]) rfl
                            have hD : va_D A [(m0, .inr (5, [.ref pg, .int (nI n), .ref rd, .int rmy, .int rpt, .int sta, .int (nI N), .int pt, .int (nI k0), .int ou, .int si, .int en, .int w0, .int w1, .int br, .int cr, .ref ro, .ref fa, .ref wo, .ref ah, .int pf, .int (nI t), .ref he, .ref wy, .ref on_, .ref pa, .ref kr, .ref kn, .ref kh, .int kt, .int kc, .int sd, .ref sr, .ref sn, .long ha])), (ro, .inl (cA, 15, .inl r)), (he, .inl (cA, 16, .inl he_)), (wy, .inl (cA, 448, .inl (mY3 r N ou he_ t k0 nb))), (on_, .inl (cA, 448, .inl o1))] := z_arrD hD 3 rfl rfl
                            have hP : va_P D vwCl [(m0, .inr (5, [.ref pg, .int (nI n), .ref rd, .int rmy, .int rpt, .int sta, .int (nI N), .int pt, .int (nI k0), .int ou, .int si, .int en, .int w0, .int w1, .int br, .int cr, .ref ro, .ref fa, .ref wo, .ref ah, .int pf, .int (nI t), .ref he, .ref wy, .ref on_, .ref pa, .ref kr, .ref kn, .ref kh, .int kt, .int kc, .int sd, .ref sr, .ref sn, .long ha])), (ro, .inl (cA, 15, .inl r)), (he, .inl (cA, 16, .inl he_)), (wy, .inl (cA, 448, .inl (mY3 r N ou he_ t k0 nb))), (on_, .inl (cA, 448, .inl (mO3 r N ou he_ t nb nb)))] H := z_arrP hP 4 (g := (mO3 r N ou he_ t nb nb)) rfl (by clear hret hl hS hD hP hK hA hN hts hx hb hr hml hown hlocks hiX5 ih1 ih7 ih9 ih11; intro j hj; rw [ho1, ht_, Nat.sub_zero]) rfl
                            have hD : va_D A [(m0, .inr (5, [.ref pg, .int (nI n), .ref rd, .int rmy, .int rpt, .int sta, .int (nI N), .int pt, .int (nI k0), .int ou, .int si, .int en, .int w0, .int w1, .int br, .int cr, .ref ro, .ref fa, .ref wo, .ref ah, .int pf, .int (nI t), .ref he, .ref wy, .ref on_, .ref pa, .ref kr, .ref kn, .ref kh, .int kt, .int kc, .int sd, .ref sr, .ref sn, .long ha])), (ro, .inl (cA, 15, .inl r)), (he, .inl (cA, 16, .inl he_)), (wy, .inl (cA, 448, .inl (mY3 r N ou he_ t k0 nb))), (on_, .inl (cA, 448, .inl (mO3 r N ou he_ t nb nb)))] := z_arrD hD 4 rfl rfl
                            exact hret () _ _ _ _ dX5_layWays_326 (by trivial) hP hD hS
                          · skip
                            have hd0 : 0 < d := Nat.pos_of_ne_zero (fun q_ => c215_12 ((pI_neg d (by omega)).mpr q_))
                            rw [pI_nI hd0] at hl
                            refine lv_iconst (v := nI 0) hx hb dX5_layWays_218 (by decide) ?_
                            refine lv_istore_n (lv' := [(3, .int (nI 0)), (0, .ref m0), (1, .int (nI nb)), (2, .int (nI (d - 1)))]) hx hb dX5_layWays_219 rfl hl (by decide) rfl (fun ls hl => ?_)
                            have L220 : ∀ (n_ : Nat) (k : Nat) (o2 : Nat → Int32) (hm_ : 65 ≤ k + n_) (hk : k ≤ 64) (ho2 : o2 = mO2 r N ou he_ t (d - 1) o1 k) (H : Heap) (locs : List Loc) (ls : Array Slot), va_P D vwCl [(m0, .inr (5, [.ref pg, .int (nI n), .ref rd, .int rmy, .int rpt, .int sta, .int (nI N), .int pt, .int (nI k0), .int ou, .int si, .int en, .int w0, .int w1, .int br, .int cr, .ref ro, .ref fa, .ref wo, .ref ah, .int pf, .int (nI t), .ref he, .ref wy, .ref on_, .ref pa, .ref kr, .ref kn, .ref kh, .int kt, .int kc, .int sd, .ref sr, .ref sn, .long ha])), (ro, .inl (cA, 15, .inl r)), (he, .inl (cA, 16, .inl he_)), (wy, .inl (cA, 448, .inl g)), (on_, .inl (cA, 448, .inl o2))] H → va_D A [(m0, .inr (5, [.ref pg, .int (nI n), .ref rd, .int rmy, .int rpt, .int sta, .int (nI N), .int pt, .int (nI k0), .int ou, .int si, .int en, .int w0, .int w1, .int br, .int cr, .ref ro, .ref fa, .ref wo, .ref ah, .int pf, .int (nI t), .ref he, .ref wy, .ref on_, .ref pa, .ref kr, .ref kn, .ref kh, .int kt, .int kc, .int sd, .ref sr, .ref sn, .long ha])), (ro, .inl (cA, 15, .inl r)), (he, .inl (cA, 16, .inl he_)), (wy, .inl (cA, 448, .inl g)), (on_, .inl (cA, 448, .inl o2))] → va_S A H0 H locs → lv_has ls 5 [(0, .ref m0), (1, .int (nI nb)), (2, .int (nI (d - 1))), (3, .int (nI k))] → W p l e rm_c_X5_layWays s m args below meth c H locs 0 0 Q (F0 m 220 ls []) := by
                              intro n_
                              induction n_ with
                              | zero =>
                                intro k o2 hm_ hk ho2
                                exact absurd hm_ (by omega)
                              | succ n_ ih_ =>
                                intro k o2 hm_ hk ho2 H locs ls hP hD hS hl
                                have ih13 := ih_
                                clear ih_
                                refine lv_iload_n hx hb dX5_layWays_220 rfl (lv_at hl 3 rfl) ?_
                                refine lv_bipush (v := 64) hx hb dX5_layWays_221 (by decide) ?_
                                refine lv_icmp_ge (tgt := 320) hx hb dX5_layWays_223 (by decide) (fun c223_14 => ?_) (fun c223_14 => ?_)
                                · skip
                                  have ht_ : k = 64 := by have := (nI_leI (a := 64) (b := k) (by omega) (by omega)).mp c223_14; omega
                                  refine lv_iinc (v := pI (d - 1)) (lv' := [(2, .int (pI (d - 1))), (0, .ref m0), (1, .int (nI nb)), (3, .int (nI k))]) hx hb dX5_layWays_320 hl (k := 2) rfl (z_pdec (d - 1)) (by decide) rfl (fun ls hl => ?_)
                                  refine lv_goto (tgt := 214) hx hb dX5_layWays_323 (by decide) ?_
                                  exact ih11 (d - 1) o2 (by omega) (by first | assumption | omega) (by clear hret hl hS hD hP hK hA hN hts hx hb hr hml hown hlocks hiX5 ih1 ih7 ih9 ih11 ih13; rw [show nb - (d - 1) = (nb - d) + 1 from by omega, mO3, ← ho1, show nb - 1 - (nb - d) = d - 1 from by omega, ho2, ht_]) _ _ _ hP hD hS (lv_sub hl [1, 2, 0] rfl)
                                · skip
                                  have hltk : k < 64 := Nat.lt_of_not_le (fun q_ => c223_14 ((nI_leI (a := 64) (b := k) (by omega) (by omega)).mpr q_))
                                  refine lv_iconst (v := nI 0) hx hb dX5_layWays_226 (by decide) ?_
                                  refine lv_istore (lv' := [(4, .int (nI 0)), (0, .ref m0), (1, .int (nI nb)), (2, .int (nI (d - 1))), (3, .int (nI k))]) hx hb dX5_layWays_227 hl (by decide) rfl (fun ls hl => ?_)
                                  have L229 : ∀ (n_ : Nat) (sx : Nat) (o3 : Nat → Int32) (hm_ : N + 1 ≤ sx + n_) (hs : sx ≤ N) (ho3 : o3 = mO1 r N ou he_ t (d - 1) k o2 sx) (H : Heap) (locs : List Loc) (ls : Array Slot), va_P D vwCl [(m0, .inr (5, [.ref pg, .int (nI n), .ref rd, .int rmy, .int rpt, .int sta, .int (nI N), .int pt, .int (nI k0), .int ou, .int si, .int en, .int w0, .int w1, .int br, .int cr, .ref ro, .ref fa, .ref wo, .ref ah, .int pf, .int (nI t), .ref he, .ref wy, .ref on_, .ref pa, .ref kr, .ref kn, .ref kh, .int kt, .int kc, .int sd, .ref sr, .ref sn, .long ha])), (ro, .inl (cA, 15, .inl r)), (he, .inl (cA, 16, .inl he_)), (wy, .inl (cA, 448, .inl g)), (on_, .inl (cA, 448, .inl o3))] H → va_D A [(m0, .inr (5, [.ref pg, .int (nI n), .ref rd, .int rmy, .int rpt, .int sta, .int (nI N), .int pt, .int (nI k0), .int ou, .int si, .int en, .int w0, .int w1, .int br, .int cr, .ref ro, .ref fa, .ref wo, .ref ah, .int pf, .int (nI t), .ref he, .ref wy, .ref on_, .ref pa, .ref kr, .ref kn, .ref kh, .int kt, .int kc, .int sd, .ref sr, .ref sn, .long ha])), (ro, .inl (cA, 15, .inl r)), (he, .inl (cA, 16, .inl he_)), (wy, .inl (cA, 448, .inl g)), (on_, .inl (cA, 448, .inl o3))] → va_S A H0 H locs → lv_has ls 5 [(0, .ref m0), (1, .int (nI nb)), (2, .int (nI (d - 1))), (3, .int (nI k)), (4, .int (nI sx))] → W p l e rm_c_X5_layWays s m args below meth c H locs 0 0 Q (F0 m 229 ls []) := by
                                    intro n_
                                    induction n_ with
                                    | zero =>
                                      intro sx o3 hm_ hs ho3
                                      exact absurd hm_ (by omega)
                                    | succ n_ ih_ =>
                                      intro sx o3 hm_ hs ho3 H locs ls hP hD hS hl
                                      have ih15 := ih_
                                      clear ih_
                                      refine lv_iload hx hb dX5_layWays_229 (lv_at hl 4 rfl) ?_
                                      refine lv_aload_n hx hb dX5_layWays_231 rfl (lv_at hl 0 rfl) ?_
                                      refine va_get (D := D) (ci := 5) (v := .int (nI N)) (C := RX5) (T := TX5) (N := 35) hx hb hts hiX5 hown hK hP 0 rfl rfl 6 (by decide) (hts (.fieldLink RX5 94 "HeardSecondModel" "seats" "I") (by decide +kernel)) (fun _ h9 => h9) rfl dX5_layWays_232 ?_
                                      refine lv_icmp_ge (tgt := 314) hx hb dX5_layWays_235 (by decide) (fun c235_16 => ?_) (fun c235_16 => ?_)
                                      · skip
                                        have ht_ : sx = N := by have := (nI_leI (a := N) (b := sx) (by omega) (by omega)).mp c235_16; omega
                                        refine lv_iinc (v := nI (k + 1)) (lv' := [(3, .int (nI (k + 1))), (0, .ref m0), (1, .int (nI nb)), (2, .int (nI (d - 1))), (4, .int (nI sx))]) hx hb dX5_layWays_314 hl (k := 3) rfl (nI_1 k) (by decide) rfl (fun ls hl => ?_)
                                        refine lv_goto (tgt := 220) hx hb dX5_layWays_317 (by decide) ?_
                                        exact ih13 (k + 1) o3 (by omega) (by first | assumption | omega) (by clear hret hl hS hD hP hK hA hN hts hx hb hr hml hown hlocks hiX5 ih1 ih7 ih9 ih11 ih13 ih15; rw [mO2, ← ho2]; exact ho3.trans (congrArg (mO1 r N ou he_ t (d - 1) k o2) ht_)) _ _ _ hP hD hS (lv_sub hl [1, 2, 3, 0] rfl)
                                      · skip
                                        have hltsx : sx < N := Nat.lt_of_not_le (fun q_ => c235_16 ((nI_leI (a := N) (b := sx) (by omega) (by omega)).mpr q_))
                                        refine lv_aload_n hx hb dX5_layWays_238 rfl (lv_at hl 0 rfl) ?_
                                        refine lv_iload hx hb dX5_layWays_239 (lv_at hl 4 rfl) ?_
                                        refine lv_iload_n hx hb dX5_layWays_241 rfl (lv_at hl 3 rfl) ?_
                                        refine z_bri (z_runV (As := [.int (nI sx), .int (nI k)]) (rest := []) (ci := 5) ⟨hx, hb, hml, hown, hts⟩ (c_X5_counts (m0 := m0) (pg := pg) (rd := rd) (ro := ro) (fa := fa) (wo := wo) (ah := ah) (he := he) (wy := wy) (on_ := on_) (pa := pa) (kr := kr) (kn := kn) (kh := kh) (sr := sr) (sn := sn) (n := n) (N := N) (t := t) (rmy := rmy) (rpt := rpt) (sta := sta) (pt := pt) (nw := nI k0) (ou := ou) (si := si) (en := en) (w0 := w0) (w1 := w1) (br := br) (cr := cr) (pf := pf) (kt := kt) (kc := kc) (sd := sd) (ha := ha) (r := r) (sx := sx) (k := k) (by first | assumption | omega) (by first | assumption | omega) _) (cwV 2 hts gX5_layWays_X5_counts rfl rfl rfl (by decide +kernel) ⟨Nat.le_of_ble_eq_true rfl, Nat.le_of_ble_eq_true rfl⟩) hK hP hD hN [0, 1] rfl rfl rfl rfl rfl hl.1 rfl (Nat.le_of_ble_eq_true rfl) dX5_layWays_242 ⟨Nat.zero_le _, Nat.zero_le _⟩) hP hD hS hA [0, 1] rfl (fun r_18 u_19 H locs hq_17 hP hS => ?_)
                                        obtain rfl : r_18 = bI (mCounts r ou sx k) := hq_17
                                        refine lv_if_eq (tgt := 308) hx hb dX5_layWays_245 (by decide) (fun c245_20 => ?_) (fun c245_20 => ?_)
                                        · skip
                                          have c245_20 := bI_0.mp c245_20
                                          refine lv_iinc (v := nI (sx + 1)) (lv' := [(4, .int (nI (sx + 1))), (0, .ref m0), (1, .int (nI nb)), (2, .int (nI (d - 1))), (3, .int (nI k))]) hx hb dX5_layWays_308 hl (k := 4) rfl (nI_1 sx) (by decide) rfl (fun ls hl => ?_)
                                          refine lv_goto (tgt := 229) hx hb dX5_layWays_311 (by decide) ?_
                                          exact ih15 (sx + 1) o3 (by omega) (by first | assumption | omega) (by clear hret hl hS hD hP hK hA hN hts hx hb hr hml hown hlocks hiX5 ih1 ih7 ih9 ih11 ih13 ih15; rw [mO1, ← ho3]; first | (rw [if_pos (by simp_all [mOk])]; done) | (rw [if_neg (by simp_all [mOk])]; done)) _ _ _ hP hD hS (lv_sub hl [1, 2, 3, 4, 0] rfl)
                                        · skip
                                          have c245_20 := bI_n0.mp c245_20
                                          refine lv_iload_n hx hb dX5_layWays_248 rfl (lv_at hl 3 rfl) ?_
                                          refine lv_bipush (v := 8) hx hb dX5_layWays_249 (by decide) ?_
                                          refine lv_idiv hx hb dX5_layWays_251 (by decide) ?_
                                          refine z_top (y := nI (k / 8)) (z_d8 k (by omega)) ?_
                                          refine lv_iload hx hb dX5_layWays_252 (lv_at hl 4 rfl) ?_
                                          refine lv_icmp_eq (tgt := 308) hx hb dX5_layWays_254 (by decide) (fun c254_21 => ?_) (fun c254_21 => ?_)
                                          · skip
                                            have e8_ := (nI_eq (a := k / 8) (b := sx) (by omega) (by omega)).mp c254_21
                                            refine lv_iinc (v := nI (sx + 1)) (lv' := [(4, .int (nI (sx + 1))), (0, .ref m0), (1, .int (nI nb)), (2, .int (nI (d - 1))), (3, .int (nI k))]) hx hb dX5_layWays_308 hl (k := 4) rfl (nI_1 sx) (by decide) rfl (fun ls hl => ?_)
                                            refine lv_goto (tgt := 229) hx hb dX5_layWays_311 (by decide) ?_
                                            exact ih15 (sx + 1) o3 (by omega) (by first | assumption | omega) (by clear hret hl hS hD hP hK hA hN hts hx hb hr hml hown hlocks hiX5 ih1 ih7 ih9 ih11 ih13 ih15; rw [mO1, ← ho3]; first | (rw [if_pos (by simp_all [mOk])]; done) | (rw [if_neg (by simp_all [mOk])]; done)) _ _ _ hP hD hS (lv_sub hl [1, 2, 3, 4, 0] rfl)
                                          · skip
                                            have e8_ : ¬ k / 8 = sx := fun q_ => c254_21 (by rw [q_]; try rfl)
                                            refine lv_aload_n hx hb dX5_layWays_257 rfl (lv_at hl 0 rfl) ?_
                                            refine lv_iload_n hx hb dX5_layWays_258 rfl (lv_at hl 2 rfl) ?_
                                            refine lv_iconst (v := 1) hx hb dX5_layWays_259 (by decide) ?_
                                            refine lv_iadd hx hb dX5_layWays_260 ?_
                                            refine z_top (y := nI (d - 1 + 1)) (nI_1 (d - 1)) ?_
                                            refine lv_aload_n hx hb dX5_layWays_261 rfl (lv_at hl 0 rfl) ?_
                                            refine lv_iload hx hb dX5_layWays_262 (lv_at hl 4 rfl) ?_
                                            refine lv_iload_n hx hb dX5_layWays_264 rfl (lv_at hl 3 rfl) ?_
                                            refine z_bri (z_runV (As := [.int (nI sx), .int (nI k)]) (rest := [.int (nI (d - 1 + 1)), .ref m0]) (ci := 5) ⟨hx, hb, hml, hown, hts⟩ (c_X5_behind (m0 := m0) (pg := pg) (rd := rd) (ro := ro) (fa := fa) (wo := wo) (ah := ah) (he := he) (wy := wy) (on_ := on_) (pa := pa) (kr := kr) (kn := kn) (kh := kh) (sr := sr) (sn := sn) (n := n) (N := N) (t := t) (rmy := rmy) (rpt := rpt) (sta := sta) (pt := pt) (nw := nI k0) (ou := ou) (si := si) (en := en) (w0 := w0) (w1 := w1) (br := br) (cr := cr) (pf := pf) (kt := kt) (kc := kc) (sd := sd) (ha := ha) (r := r) (sx := sx) (k := k) (by first | assumption | omega) (by first | assumption | omega) (by first | assumption | omega) _) (cwV 2 hts gX5_layWays_X5_behind rfl rfl rfl (by decide +kernel) ⟨Nat.le_of_ble_eq_true rfl, Nat.le_of_ble_eq_true rfl⟩) hK hP hD hN [0, 1] rfl rfl rfl rfl rfl hl.1 rfl (Nat.le_of_ble_eq_true rfl) dX5_layWays_265 ⟨Nat.zero_le _, Nat.zero_le _⟩) hP hD hS hA [0, 1] rfl (fun r_23 u_24 H locs hq_22 hP hS => ?_)
                                            obtain rfl : r_23 = nI (mBeh r N sx k) := hq_22
                                            refine z_bri (z_runV (As := [.int (nI (d - 1 + 1)), .int (nI (mBeh r N sx k))]) (rest := []) (ci := 5) ⟨hx, hb, hml, hown, hts⟩ (c_X5_isHeard (m0 := m0) (pg := pg) (rd := rd) (ro := ro) (fa := fa) (wo := wo) (ah := ah) (he := he) (wy := wy) (on_ := on_) (pa := pa) (kr := kr) (kn := kn) (kh := kh) (sr := sr) (sn := sn) (n := n) (N := N) (t := t) (rmy := rmy) (rpt := rpt) (sta := sta) (pt := pt) (nw := nI k0) (ou := ou) (si := si) (en := en) (w0 := w0) (w1 := w1) (br := br) (cr := cr) (pf := pf) (kt := kt) (kc := kc) (sd := sd) (ha := ha) (he_ := he_) (x := nI (d - 1 + 1)) (k := mBeh r N sx k) (by first | assumption | omega) (by exact mBeh_64 (r := r) (show k < 64 by omega) (show sx < N by omega) h5) _) (cwV 2 hts gX5_layWays_X5_isHeard rfl rfl rfl (by decide +kernel) ⟨Nat.le_of_ble_eq_true rfl, Nat.le_of_ble_eq_true rfl⟩) hK hP hD hN [0, 2] rfl rfl rfl rfl rfl hl.1 rfl (Nat.le_of_ble_eq_true rfl) dX5_layWays_268 ⟨Nat.zero_le _, Nat.zero_le _⟩) hP hD hS hA [0, 2] rfl (fun r_26 u_27 H locs hq_25 hP hS => ?_)
                                            obtain rfl : r_26 = bI (mHeard he_ (nI (d - 1 + 1)) (mBeh r N sx k) t) := hq_25
                                            refine lv_if_eq (tgt := 308) hx hb dX5_layWays_271 (by decide) (fun c271_28 => ?_) (fun c271_28 => ?_)
                                            · skip
                                              have c271_28 := bI_0.mp c271_28
                                              refine lv_iinc (v := nI (sx + 1)) (lv' := [(4, .int (nI (sx + 1))), (0, .ref m0), (1, .int (nI nb)), (2, .int (nI (d - 1))), (3, .int (nI k))]) hx hb dX5_layWays_308 hl (k := 4) rfl (nI_1 sx) (by decide) rfl (fun ls hl => ?_)
                                              refine lv_goto (tgt := 229) hx hb dX5_layWays_311 (by decide) ?_
                                              exact ih15 (sx + 1) o3 (by omega) (by first | assumption | omega) (by clear hret hl hS hD hP hK hA hN hts hx hb hr hml hown hlocks hiX5 ih1 ih7 ih9 ih11 ih13 ih15; rw [mO1, ← ho3]; first | (rw [if_pos (by simp_all [mOk])]; done) | (rw [if_neg (by simp_all [mOk])]; done)) _ _ _ hP hD hS (lv_sub hl [1, 2, 3, 4, 0] rfl)
                                            · skip
                                              have c271_28 := bI_n0.mp c271_28
                                              refine lv_aload_n hx hb dX5_layWays_274 rfl (lv_at hl 0 rfl) ?_
                                              refine va_get (D := D) (ci := 5) (v := .ref on_) (C := RX5) (T := TX5) (N := 35) hx hb hts hiX5 hown hK hP 0 rfl rfl 24 (by decide) (hts (.fieldLink RX5 34 "HeardSecondModel" "onward" "[I") (by decide +kernel)) (fun _ h9 => h9) rfl dX5_layWays_275 ?_
                                              refine lv_bipush (v := 64) hx hb dX5_layWays_278 (by decide) ?_
                                              refine lv_iload_n hx hb dX5_layWays_280 rfl (lv_at hl 2 rfl) ?_
                                              refine lv_imul hx hb dX5_layWays_281 ?_
                                              refine lv_iload_n hx hb dX5_layWays_282 rfl (lv_at hl 3 rfl) ?_
                                              refine lv_iadd hx hb dX5_layWays_283 ?_
                                              refine z_top (y := nI (64 * (d - 1) + k)) (z_64 (d - 1) k) ?_
                                              refine lv_dup2_11 hx hb dX5_layWays_284 rfl rfl ?_
                                              refine va_iald hx hb hK hP 4 0 rfl rfl (z_inN (by omega) (by decide)) dX5_layWays_285 ?_
                                              refine z_top (y := o3 (64 * (d - 1) + k)) (by rw [z_nat (by omega)]) ?_
                                              refine lv_aload_n hx hb dX5_layWays_286 rfl (lv_at hl 0 rfl) ?_
                                              refine va_get (D := D) (ci := 5) (v := .ref on_) (C := RX5) (T := TX5) (N := 35) hx hb hts hiX5 hown hK hP 0 rfl rfl 24 (by decide) (hts (.fieldLink RX5 34 "HeardSecondModel" "onward" "[I") (by decide +kernel)) (fun _ h9 => h9) rfl dX5_layWays_287 ?_
                                              refine lv_bipush (v := 64) hx hb dX5_layWays_290 (by decide) ?_
                                              refine lv_iload_n hx hb dX5_layWays_292 rfl (lv_at hl 2 rfl) ?_
                                              refine lv_imul hx hb dX5_layWays_293 ?_
                                              refine lv_bipush (v := 64) hx hb dX5_layWays_294 (by decide) ?_
                                              refine lv_iadd hx hb dX5_layWays_296 ?_
                                              refine lv_aload_n hx hb dX5_layWays_297 rfl (lv_at hl 0 rfl) ?_
                                              refine lv_iload hx hb dX5_layWays_298 (lv_at hl 4 rfl) ?_
                                              refine lv_iload_n hx hb dX5_layWays_300 rfl (lv_at hl 3 rfl) ?_
                                              refine z_bri (z_runV (As := [.int (nI sx), .int (nI k)]) (rest := [.int ((64 * (nI (d - 1))) + 64), .ref on_, .int (o3 (64 * (d - 1) + k)), .int (nI (64 * (d - 1) + k)), .ref on_]) (ci := 5) ⟨hx, hb, hml, hown, hts⟩ (c_X5_behind (m0 := m0) (pg := pg) (rd := rd) (ro := ro) (fa := fa) (wo := wo) (ah := ah) (he := he) (wy := wy) (on_ := on_) (pa := pa) (kr := kr) (kn := kn) (kh := kh) (sr := sr) (sn := sn) (n := n) (N := N) (t := t) (rmy := rmy) (rpt := rpt) (sta := sta) (pt := pt) (nw := nI k0) (ou := ou) (si := si) (en := en) (w0 := w0) (w1 := w1) (br := br) (cr := cr) (pf := pf) (kt := kt) (kc := kc) (sd := sd) (ha := ha) (r := r) (sx := sx) (k := k) (by first | assumption | omega) (by first | assumption | omega) (by first | assumption | omega) _) (cwV 2 hts gX5_layWays_X5_behind rfl rfl rfl (by decide +kernel) ⟨Nat.le_of_ble_eq_true rfl, Nat.le_of_ble_eq_true rfl⟩) hK hP hD hN [0, 1] rfl rfl rfl rfl rfl hl.1 rfl (Nat.le_of_ble_eq_true rfl) dX5_layWays_301 ⟨Nat.zero_le _, Nat.zero_le _⟩) hP hD hS hA [0, 1] rfl (fun r_30 u_31 H locs hq_29 hP hS => ?_)
                                              obtain rfl : r_30 = nI (mBeh r N sx k) := hq_29
                                              refine lv_iadd hx hb dX5_layWays_304 ?_
                                              refine z_top (y := nI (64 * (d - 1) + 64 + mBeh r N sx k)) (z_6464 (d - 1) _) ?_
                                              refine va_iald hx hb hK hP 4 0 rfl rfl (z_inN (by have := mBeh_64 (r := r) (show k < 64 by omega) (show sx < N by omega) h5; omega) (by decide)) dX5_layWays_305 ?_
                                              refine z_top (y := o3 (64 * (d - 1) + 64 + mBeh r N sx k)) (by rw [z_nat (by have := mBeh_64 (r := r) (show k < 64 by omega) (show sx < N by omega) h5; omega)]) ?_
                                              refine lv_iadd hx hb dX5_layWays_306 ?_
                                              refine va_iast hx hb hK hP hD hS 4 0 rfl rfl (z_inN (by omega) (by decide)) dX5_layWays_307 (fun H locs hP hD hS => ?_)
                                              have hP : va_P D vwCl [(m0, .inr (5, [.ref pg, .int (nI n), .ref rd, .int rmy, .int rpt, .int sta, .int (nI N), .int pt, .int (nI k0), .int ou, .int si, .int en, .int w0, .int w1, .int br, .int cr, .ref ro, .ref fa, .ref wo, .ref ah, .int pf, .int (nI t), .ref he, .ref wy, .ref on_, .ref pa, .ref kr, .ref kn, .ref kh, .int kt, .int kc, .int sd, .ref sr, .ref sn, .long ha])), (ro, .inl (cA, 15, .inl r)), (he, .inl (cA, 16, .inl he_)), (wy, .inl (cA, 448, .inl g)), (on_, .inl (cA, 448, .inl (upd o3 (Int32.toNatClampNeg (nI (64 * (d - 1) + k))) ((o3 (64 * (d - 1) + k)) + (o3 (64 * (d - 1) + 64 + mBeh r N sx k))))))] H := hP
                                              have hD : va_D A [(m0, .inr (5, [.ref pg, .int (nI n), .ref rd, .int rmy, .int rpt, .int sta, .int (nI N), .int pt, .int (nI k0), .int ou, .int si, .int en, .int w0, .int w1, .int br, .int cr, .ref ro, .ref fa, .ref wo, .ref ah, .int pf, .int (nI t), .ref he, .ref wy, .ref on_, .ref pa, .ref kr, .ref kn, .ref kh, .int kt, .int kc, .int sd, .ref sr, .ref sn, .long ha])), (ro, .inl (cA, 15, .inl r)), (he, .inl (cA, 16, .inl he_)), (wy, .inl (cA, 448, .inl g)), (on_, .inl (cA, 448, .inl (upd o3 (Int32.toNatClampNeg (nI (64 * (d - 1) + k))) ((o3 (64 * (d - 1) + k)) + (o3 (64 * (d - 1) + 64 + mBeh r N sx k))))))] := hD
                                              rw [show upd o3 (Int32.toNatClampNeg (nI (64 * (d - 1) + k))) ((o3 (64 * (d - 1) + k)) + (o3 (64 * (d - 1) + 64 + mBeh r N sx k))) = upd o3 (64 * (d - 1) + k) ((o3 (64 * (d - 1) + k)) + (o3 (64 * (d - 1) + 64 + mBeh r N sx k))) from by rw [z_nat (by omega)]] at hP hD
                                              refine lv_iinc (v := nI (sx + 1)) (lv' := [(4, .int (nI (sx + 1))), (0, .ref m0), (1, .int (nI nb)), (2, .int (nI (d - 1))), (3, .int (nI k))]) hx hb dX5_layWays_308 hl (k := 4) rfl (nI_1 sx) (by decide) rfl (fun ls hl => ?_)
                                              refine lv_goto (tgt := 229) hx hb dX5_layWays_311 (by decide) ?_
                                              exact ih15 (sx + 1) (upd o3 (64 * (d - 1) + k) ((o3 (64 * (d - 1) + k)) + (o3 (64 * (d - 1) + 64 + mBeh r N sx k)))) (by omega) (by first | assumption | omega) (by clear hret hl hS hD hP hK hA hN hts hx hb hr hml hown hlocks hiX5 ih1 ih7 ih9 ih11 ih13 ih15; rw [mO1, ← ho3]; first | (rw [if_pos (by simp_all [mOk])]; done) | (rw [if_neg (by simp_all [mOk])]; done)) _ _ _ hP hD hS (lv_sub hl [1, 2, 3, 4, 0] rfl)
                                  exact L229 (N + 1) 0 o2 (by omega) (by first | assumption | omega) (by rfl) _ _ _ hP hD hS (lv_sub hl [1, 2, 3, 4, 0] rfl)
                            exact L220 65 0 o1 (by omega) (by first | assumption | omega) (by rfl) _ _ _ hP hD hS (lv_sub hl [1, 2, 3, 0] rfl)
                      exact L214 (nb + 1) nb (mO3 r N ou he_ t nb 0) (by omega) (by first | assumption | omega) (by clear hret hl hS hD hP hK hA hN hts hx hb hr hml hown hlocks hiX5 ih1 ih7 ih9 L214; rw [Nat.sub_self]) _ _ _ hP hD hS (lv_sub hl [1, 2, 0] rfl)
                    · skip
                      have hltq : q < 64 := Nat.lt_of_not_le (fun q_ => c189_10 ((nI_leI (a := 64) (b := q) (by omega) (by omega)).mpr q_))
                      refine lv_aload_n hx hb dX5_layWays_192 rfl (lv_at hl 0 rfl) ?_
                      refine va_get (D := D) (ci := 5) (v := .ref on_) (C := RX5) (T := TX5) (N := 35) hx hb hts hiX5 hown hK hP 0 rfl rfl 24 (by decide) (hts (.fieldLink RX5 34 "HeardSecondModel" "onward" "[I") (by decide +kernel)) (fun _ h9 => h9) rfl dX5_layWays_193 ?_
                      refine lv_bipush (v := 64) hx hb dX5_layWays_196 (by decide) ?_
                      refine lv_iload_n hx hb dX5_layWays_198 rfl (lv_at hl 1 rfl) ?_
                      refine lv_imul hx hb dX5_layWays_199 ?_
                      refine lv_iload_n hx hb dX5_layWays_200 rfl (lv_at hl 2 rfl) ?_
                      refine lv_iadd hx hb dX5_layWays_201 ?_
                      refine z_top (y := nI (64 * nb + q)) (z_64 nb q) ?_
                      refine lv_iconst (v := 1) hx hb dX5_layWays_202 (by decide) ?_
                      refine va_iast hx hb hK hP hD hS 4 0 rfl rfl (z_inN (by omega) (by decide)) dX5_layWays_203 (fun H locs hP hD hS => ?_)
                      have hP : va_P D vwCl [(m0, .inr (5, [.ref pg, .int (nI n), .ref rd, .int rmy, .int rpt, .int sta, .int (nI N), .int pt, .int (nI k0), .int ou, .int si, .int en, .int w0, .int w1, .int br, .int cr, .ref ro, .ref fa, .ref wo, .ref ah, .int pf, .int (nI t), .ref he, .ref wy, .ref on_, .ref pa, .ref kr, .ref kn, .ref kh, .int kt, .int kc, .int sd, .ref sr, .ref sn, .long ha])), (ro, .inl (cA, 15, .inl r)), (he, .inl (cA, 16, .inl he_)), (wy, .inl (cA, 448, .inl g)), (on_, .inl (cA, 448, .inl (upd q2 (Int32.toNatClampNeg (nI (64 * nb + q))) 1)))] H := hP
                      have hD : va_D A [(m0, .inr (5, [.ref pg, .int (nI n), .ref rd, .int rmy, .int rpt, .int sta, .int (nI N), .int pt, .int (nI k0), .int ou, .int si, .int en, .int w0, .int w1, .int br, .int cr, .ref ro, .ref fa, .ref wo, .ref ah, .int pf, .int (nI t), .ref he, .ref wy, .ref on_, .ref pa, .ref kr, .ref kn, .ref kh, .int kt, .int kc, .int sd, .ref sr, .ref sn, .long ha])), (ro, .inl (cA, 15, .inl r)), (he, .inl (cA, 16, .inl he_)), (wy, .inl (cA, 448, .inl g)), (on_, .inl (cA, 448, .inl (upd q2 (Int32.toNatClampNeg (nI (64 * nb + q))) 1)))] := hD
                      rw [show upd q2 (Int32.toNatClampNeg (nI (64 * nb + q))) 1 = upd q2 (64 * nb + q) 1 from by rw [z_nat (by omega)]] at hP hD
                      refine lv_iinc (v := nI (q + 1)) (lv' := [(2, .int (nI (q + 1))), (0, .ref m0), (1, .int (nI nb))]) hx hb dX5_layWays_204 hl (k := 2) rfl (nI_1 q) (by decide) rfl (fun ls hl => ?_)
                      refine lv_goto (tgt := 186) hx hb dX5_layWays_207 (by decide) ?_
                      exact ih9 (q + 1) (upd q2 (64 * nb + q) 1) (by omega) (by first | assumption | omega) (by clear hret hl hS hD hP hK hA hN hts hx hb hr hml hown hlocks hiX5 ih1 ih7 ih9; exact mO0_step (nb := nb) (q := q) hq2) _ _ _ hP hD hS (lv_sub hl [1, 2, 0] rfl)
                exact L186 65 0 (fun _ => 0) (by omega) (by first | assumption | omega) (by clear hret hl hS hD hP hK hA hN hts hx hb hr hml hown hlocks hiX5 ih1 ih7 L186; intro j hj; rw [if_neg (by omega)]) _ _ _ hP hD hS (lv_sub hl [1, 2, 0] rfl)
              · skip
                have hltnn : nn < nb := Nat.lt_of_not_le (fun q_ => c59_8 ((nI_leI (a := nb) (b := nn) (by omega) (by omega)).mpr q_))
                refine lv_iconst (v := nI 0) hx hb dX5_layWays_62 (by decide) ?_
                refine lv_istore_n (lv' := [(3, .int (nI 0)), (0, .ref m0), (1, .int (nI nb)), (2, .int (nI nn))]) hx hb dX5_layWays_63 rfl hl (by decide) rfl (fun ls hl => ?_)
                have L64 : ∀ (n_ : Nat) (k : Nat) (g2_ : Nat → Int32) (hm_ : 65 ≤ k + n_) (hk : k ≤ 64) (h2_ : g2_ = mY2 r N ou he_ t nn g k) (H : Heap) (locs : List Loc) (ls : Array Slot), va_P D vwCl [(m0, .inr (5, [.ref pg, .int (nI n), .ref rd, .int rmy, .int rpt, .int sta, .int (nI N), .int pt, .int (nI k0), .int ou, .int si, .int en, .int w0, .int w1, .int br, .int cr, .ref ro, .ref fa, .ref wo, .ref ah, .int pf, .int (nI t), .ref he, .ref wy, .ref on_, .ref pa, .ref kr, .ref kn, .ref kh, .int kt, .int kc, .int sd, .ref sr, .ref sn, .long ha])), (ro, .inl (cA, 15, .inl r)), (he, .inl (cA, 16, .inl he_)), (wy, .inl (cA, 448, .inl g2_)), (on_, .inl (cA, 448, .inl (fun _ => 0)))] H → va_D A [(m0, .inr (5, [.ref pg, .int (nI n), .ref rd, .int rmy, .int rpt, .int sta, .int (nI N), .int pt, .int (nI k0), .int ou, .int si, .int en, .int w0, .int w1, .int br, .int cr, .ref ro, .ref fa, .ref wo, .ref ah, .int pf, .int (nI t), .ref he, .ref wy, .ref on_, .ref pa, .ref kr, .ref kn, .ref kh, .int kt, .int kc, .int sd, .ref sr, .ref sn, .long ha])), (ro, .inl (cA, 15, .inl r)), (he, .inl (cA, 16, .inl he_)), (wy, .inl (cA, 448, .inl g2_)), (on_, .inl (cA, 448, .inl (fun _ => 0)))] → va_S A H0 H locs → lv_has ls 5 [(0, .ref m0), (1, .int (nI nb)), (2, .int (nI nn)), (3, .int (nI k))] → W p l e rm_c_X5_layWays s m args below meth c H locs 0 0 Q (F0 m 64 ls []) := by
                  intro n_
                  induction n_ with
                  | zero =>
                    intro k g2_ hm_ hk h2_
                    exact absurd hm_ (by omega)
                  | succ n_ ih_ =>
                    intro k g2_ hm_ hk h2_ H locs ls hP hD hS hl
                    have ih32 := ih_
                    clear ih_
                    refine lv_iload_n hx hb dX5_layWays_64 rfl (lv_at hl 3 rfl) ?_
                    refine lv_bipush (v := 64) hx hb dX5_layWays_65 (by decide) ?_
                    refine lv_icmp_ge (tgt := 178) hx hb dX5_layWays_67 (by decide) (fun c67_33 => ?_) (fun c67_33 => ?_)
                    · skip
                      have ht_ : k = 64 := by have := (nI_leI (a := 64) (b := k) (by omega) (by omega)).mp c67_33; omega
                      refine lv_iinc (v := nI (nn + 1)) (lv' := [(2, .int (nI (nn + 1))), (0, .ref m0), (1, .int (nI nb)), (3, .int (nI k))]) hx hb dX5_layWays_178 hl (k := 2) rfl (nI_1 nn) (by decide) rfl (fun ls hl => ?_)
                      refine lv_goto (tgt := 57) hx hb dX5_layWays_181 (by decide) ?_
                      exact ih7 (nn + 1) g2_ (by omega) (by first | assumption | omega) (by clear hret hl hS hD hP hK hA hN hts hx hb hr hml hown hlocks hiX5 ih1 ih7 ih32; rw [mY3, ← hg, h2_, ht_]) _ _ _ hP hD hS (lv_sub hl [1, 2, 0] rfl)
                    · skip
                      have hltk : k < 64 := Nat.lt_of_not_le (fun q_ => c67_33 ((nI_leI (a := 64) (b := k) (by omega) (by omega)).mpr q_))
                      refine lv_iconst (v := nI 0) hx hb dX5_layWays_70 (by decide) ?_
                      refine lv_istore (lv' := [(4, .int (nI 0)), (0, .ref m0), (1, .int (nI nb)), (2, .int (nI nn)), (3, .int (nI k))]) hx hb dX5_layWays_71 hl (by decide) rfl (fun ls hl => ?_)
                      have L73 : ∀ (n_ : Nat) (sx : Nat) (g3 : Nat → Int32) (hm_ : N + 1 ≤ sx + n_) (hs : sx ≤ N) (h3_ : g3 = mY1 r N ou he_ t nn k g2_ sx) (H : Heap) (locs : List Loc) (ls : Array Slot), va_P D vwCl [(m0, .inr (5, [.ref pg, .int (nI n), .ref rd, .int rmy, .int rpt, .int sta, .int (nI N), .int pt, .int (nI k0), .int ou, .int si, .int en, .int w0, .int w1, .int br, .int cr, .ref ro, .ref fa, .ref wo, .ref ah, .int pf, .int (nI t), .ref he, .ref wy, .ref on_, .ref pa, .ref kr, .ref kn, .ref kh, .int kt, .int kc, .int sd, .ref sr, .ref sn, .long ha])), (ro, .inl (cA, 15, .inl r)), (he, .inl (cA, 16, .inl he_)), (wy, .inl (cA, 448, .inl g3)), (on_, .inl (cA, 448, .inl (fun _ => 0)))] H → va_D A [(m0, .inr (5, [.ref pg, .int (nI n), .ref rd, .int rmy, .int rpt, .int sta, .int (nI N), .int pt, .int (nI k0), .int ou, .int si, .int en, .int w0, .int w1, .int br, .int cr, .ref ro, .ref fa, .ref wo, .ref ah, .int pf, .int (nI t), .ref he, .ref wy, .ref on_, .ref pa, .ref kr, .ref kn, .ref kh, .int kt, .int kc, .int sd, .ref sr, .ref sn, .long ha])), (ro, .inl (cA, 15, .inl r)), (he, .inl (cA, 16, .inl he_)), (wy, .inl (cA, 448, .inl g3)), (on_, .inl (cA, 448, .inl (fun _ => 0)))] → va_S A H0 H locs → lv_has ls 5 [(0, .ref m0), (1, .int (nI nb)), (2, .int (nI nn)), (3, .int (nI k)), (4, .int (nI sx))] → W p l e rm_c_X5_layWays s m args below meth c H locs 0 0 Q (F0 m 73 ls []) := by
                        intro n_
                        induction n_ with
                        | zero =>
                          intro sx g3 hm_ hs h3_
                          exact absurd hm_ (by omega)
                        | succ n_ ih_ =>
                          intro sx g3 hm_ hs h3_ H locs ls hP hD hS hl
                          have ih34 := ih_
                          clear ih_
                          refine lv_iload hx hb dX5_layWays_73 (lv_at hl 4 rfl) ?_
                          refine lv_aload_n hx hb dX5_layWays_75 rfl (lv_at hl 0 rfl) ?_
                          refine va_get (D := D) (ci := 5) (v := .int (nI N)) (C := RX5) (T := TX5) (N := 35) hx hb hts hiX5 hown hK hP 0 rfl rfl 6 (by decide) (hts (.fieldLink RX5 94 "HeardSecondModel" "seats" "I") (by decide +kernel)) (fun _ h9 => h9) rfl dX5_layWays_76 ?_
                          refine lv_icmp_ge (tgt := 172) hx hb dX5_layWays_79 (by decide) (fun c79_35 => ?_) (fun c79_35 => ?_)
                          · skip
                            have ht_ : sx = N := by have := (nI_leI (a := N) (b := sx) (by omega) (by omega)).mp c79_35; omega
                            refine lv_iinc (v := nI (k + 1)) (lv' := [(3, .int (nI (k + 1))), (0, .ref m0), (1, .int (nI nb)), (2, .int (nI nn)), (4, .int (nI sx))]) hx hb dX5_layWays_172 hl (k := 3) rfl (nI_1 k) (by decide) rfl (fun ls hl => ?_)
                            refine lv_goto (tgt := 64) hx hb dX5_layWays_175 (by decide) ?_
                            exact ih32 (k + 1) g3 (by omega) (by first | assumption | omega) (by clear hret hl hS hD hP hK hA hN hts hx hb hr hml hown hlocks hiX5 ih1 ih7 ih32 ih34; rw [mY2, ← h2_]; first | exact h3_.trans (congrArg (mY1 r N ou he_ t nn k g2_) ht_) | (subst h3_; exact mY1_end hle_ hs)) _ _ _ hP hD hS (lv_sub hl [1, 2, 3, 0] rfl)
                          · skip
                            have hltsx : sx < N := Nat.lt_of_not_le (fun q_ => c79_35 ((nI_leI (a := N) (b := sx) (by omega) (by omega)).mpr q_))
                            refine lv_aload_n hx hb dX5_layWays_82 rfl (lv_at hl 0 rfl) ?_
                            refine va_get (D := D) (ci := 5) (v := .ref wy) (C := RX5) (T := TX5) (N := 35) hx hb hts hiX5 hown hK hP 0 rfl rfl 23 (by decide) (hts (.fieldLink RX5 31 "HeardSecondModel" "ways" "[I") (by decide +kernel)) (fun _ h9 => h9) rfl dX5_layWays_83 ?_
                            refine lv_bipush (v := 64) hx hb dX5_layWays_86 (by decide) ?_
                            refine lv_iload_n hx hb dX5_layWays_88 rfl (lv_at hl 2 rfl) ?_
                            refine lv_imul hx hb dX5_layWays_89 ?_
                            refine lv_iload_n hx hb dX5_layWays_90 rfl (lv_at hl 3 rfl) ?_
                            refine lv_iadd hx hb dX5_layWays_91 ?_
                            refine z_top (y := nI (64 * nn + k)) (z_64 nn k) ?_
                            refine va_iald hx hb hK hP 3 0 rfl rfl (z_inN (by omega) (by decide)) dX5_layWays_92 ?_
                            refine z_top (y := g3 (64 * nn + k)) (by rw [z_nat (by omega)]) ?_
                            refine lv_if_le (tgt := 172) hx hb dX5_layWays_93 (by decide) (fun c93_36 => ?_) (fun c93_36 => ?_)
                            · skip
                              have hle_ : ¬ 0 < g3 (64 * nn + k) := Int32.not_lt.mpr c93_36
                              refine lv_iinc (v := nI (k + 1)) (lv' := [(3, .int (nI (k + 1))), (0, .ref m0), (1, .int (nI nb)), (2, .int (nI nn)), (4, .int (nI sx))]) hx hb dX5_layWays_172 hl (k := 3) rfl (nI_1 k) (by decide) rfl (fun ls hl => ?_)
                              refine lv_goto (tgt := 64) hx hb dX5_layWays_175 (by decide) ?_
                              exact ih32 (k + 1) g3 (by omega) (by first | assumption | omega) (by clear hret hl hS hD hP hK hA hN hts hx hb hr hml hown hlocks hiX5 ih1 ih7 ih32 ih34; rw [mY2, ← h2_]; first | exact h3_.trans (congrArg (mY1 r N ou he_ t nn k g2_) ht_) | (subst h3_; exact mY1_end hle_ hs)) _ _ _ hP hD hS (lv_sub hl [1, 2, 3, 0] rfl)
                            · skip
                              have hgt_ : 0 < g3 (64 * nn + k) := Int32.not_le.mp c93_36
                              refine lv_aload_n hx hb dX5_layWays_96 rfl (lv_at hl 0 rfl) ?_
                              refine lv_iload hx hb dX5_layWays_97 (lv_at hl 4 rfl) ?_
                              refine lv_iload_n hx hb dX5_layWays_99 rfl (lv_at hl 3 rfl) ?_
                              refine z_bri (z_runV (As := [.int (nI sx), .int (nI k)]) (rest := []) (ci := 5) ⟨hx, hb, hml, hown, hts⟩ (c_X5_counts (m0 := m0) (pg := pg) (rd := rd) (ro := ro) (fa := fa) (wo := wo) (ah := ah) (he := he) (wy := wy) (on_ := on_) (pa := pa) (kr := kr) (kn := kn) (kh := kh) (sr := sr) (sn := sn) (n := n) (N := N) (t := t) (rmy := rmy) (rpt := rpt) (sta := sta) (pt := pt) (nw := nI k0) (ou := ou) (si := si) (en := en) (w0 := w0) (w1 := w1) (br := br) (cr := cr) (pf := pf) (kt := kt) (kc := kc) (sd := sd) (ha := ha) (r := r) (sx := sx) (k := k) (by first | assumption | omega) (by first | assumption | omega) _) (cwV 2 hts gX5_layWays_X5_counts rfl rfl rfl (by decide +kernel) ⟨Nat.le_of_ble_eq_true rfl, Nat.le_of_ble_eq_true rfl⟩) hK hP hD hN [0, 1] rfl rfl rfl rfl rfl hl.1 rfl (Nat.le_of_ble_eq_true rfl) dX5_layWays_100 ⟨Nat.zero_le _, Nat.zero_le _⟩) hP hD hS hA [0, 1] rfl (fun r_38 u_39 H locs hq_37 hP hS => ?_)
                              obtain rfl : r_38 = bI (mCounts r ou sx k) := hq_37
                              refine lv_if_eq (tgt := 166) hx hb dX5_layWays_103 (by decide) (fun c103_40 => ?_) (fun c103_40 => ?_)
                              · skip
                                have c103_40 := bI_0.mp c103_40
                                refine lv_iinc (v := nI (sx + 1)) (lv' := [(4, .int (nI (sx + 1))), (0, .ref m0), (1, .int (nI nb)), (2, .int (nI nn)), (3, .int (nI k))]) hx hb dX5_layWays_166 hl (k := 4) rfl (nI_1 sx) (by decide) rfl (fun ls hl => ?_)
                                refine lv_goto (tgt := 73) hx hb dX5_layWays_169 (by decide) ?_
                                exact ih34 (sx + 1) g3 (by omega) (by first | assumption | omega) (by clear hret hl hS hD hP hK hA hN hts hx hb hr hml hown hlocks hiX5 ih1 ih7 ih32 ih34; rw [mY1, ← h3_, if_pos hgt_]; first | (rw [if_pos (by simp_all [mOk])]; done) | (rw [if_neg (by simp_all [mOk])]; done)) _ _ _ hP hD hS (lv_sub hl [1, 2, 3, 4, 0] rfl)
                              · skip
                                have c103_40 := bI_n0.mp c103_40
                                refine lv_iload_n hx hb dX5_layWays_106 rfl (lv_at hl 3 rfl) ?_
                                refine lv_bipush (v := 8) hx hb dX5_layWays_107 (by decide) ?_
                                refine lv_idiv hx hb dX5_layWays_109 (by decide) ?_
                                refine z_top (y := nI (k / 8)) (z_d8 k (by omega)) ?_
                                refine lv_iload hx hb dX5_layWays_110 (lv_at hl 4 rfl) ?_
                                refine lv_icmp_eq (tgt := 166) hx hb dX5_layWays_112 (by decide) (fun c112_41 => ?_) (fun c112_41 => ?_)
                                · skip
                                  have e8_ := (nI_eq (a := k / 8) (b := sx) (by omega) (by omega)).mp c112_41
                                  refine lv_iinc (v := nI (sx + 1)) (lv' := [(4, .int (nI (sx + 1))), (0, .ref m0), (1, .int (nI nb)), (2, .int (nI nn)), (3, .int (nI k))]) hx hb dX5_layWays_166 hl (k := 4) rfl (nI_1 sx) (by decide) rfl (fun ls hl => ?_)
                                  refine lv_goto (tgt := 73) hx hb dX5_layWays_169 (by decide) ?_
                                  exact ih34 (sx + 1) g3 (by omega) (by first | assumption | omega) (by clear hret hl hS hD hP hK hA hN hts hx hb hr hml hown hlocks hiX5 ih1 ih7 ih32 ih34; rw [mY1, ← h3_, if_pos hgt_]; first | (rw [if_pos (by simp_all [mOk])]; done) | (rw [if_neg (by simp_all [mOk])]; done)) _ _ _ hP hD hS (lv_sub hl [1, 2, 3, 4, 0] rfl)
                                · skip
                                  have e8_ : ¬ k / 8 = sx := fun q_ => c112_41 (by rw [q_]; try rfl)
                                  refine lv_aload_n hx hb dX5_layWays_115 rfl (lv_at hl 0 rfl) ?_
                                  refine lv_iload_n hx hb dX5_layWays_116 rfl (lv_at hl 2 rfl) ?_
                                  refine lv_iconst (v := 1) hx hb dX5_layWays_117 (by decide) ?_
                                  refine lv_iadd hx hb dX5_layWays_118 ?_
                                  refine z_top (y := nI (nn + 1)) (nI_1 nn) ?_
                                  refine lv_aload_n hx hb dX5_layWays_119 rfl (lv_at hl 0 rfl) ?_
                                  refine lv_iload hx hb dX5_layWays_120 (lv_at hl 4 rfl) ?_
                                  refine lv_iload_n hx hb dX5_layWays_122 rfl (lv_at hl 3 rfl) ?_
                                  refine z_bri (z_runV (As := [.int (nI sx), .int (nI k)]) (rest := [.int (nI (nn + 1)), .ref m0]) (ci := 5) ⟨hx, hb, hml, hown, hts⟩ (c_X5_behind (m0 := m0) (pg := pg) (rd := rd) (ro := ro) (fa := fa) (wo := wo) (ah := ah) (he := he) (wy := wy) (on_ := on_) (pa := pa) (kr := kr) (kn := kn) (kh := kh) (sr := sr) (sn := sn) (n := n) (N := N) (t := t) (rmy := rmy) (rpt := rpt) (sta := sta) (pt := pt) (nw := nI k0) (ou := ou) (si := si) (en := en) (w0 := w0) (w1 := w1) (br := br) (cr := cr) (pf := pf) (kt := kt) (kc := kc) (sd := sd) (ha := ha) (r := r) (sx := sx) (k := k) (by first | assumption | omega) (by first | assumption | omega) (by first | assumption | omega) _) (cwV 2 hts gX5_layWays_X5_behind rfl rfl rfl (by decide +kernel) ⟨Nat.le_of_ble_eq_true rfl, Nat.le_of_ble_eq_true rfl⟩) hK hP hD hN [0, 1] rfl rfl rfl rfl rfl hl.1 rfl (Nat.le_of_ble_eq_true rfl) dX5_layWays_123 ⟨Nat.zero_le _, Nat.zero_le _⟩) hP hD hS hA [0, 1] rfl (fun r_43 u_44 H locs hq_42 hP hS => ?_)
                                  obtain rfl : r_43 = nI (mBeh r N sx k) := hq_42
                                  refine z_bri (z_runV (As := [.int (nI (nn + 1)), .int (nI (mBeh r N sx k))]) (rest := []) (ci := 5) ⟨hx, hb, hml, hown, hts⟩ (c_X5_isHeard (m0 := m0) (pg := pg) (rd := rd) (ro := ro) (fa := fa) (wo := wo) (ah := ah) (he := he) (wy := wy) (on_ := on_) (pa := pa) (kr := kr) (kn := kn) (kh := kh) (sr := sr) (sn := sn) (n := n) (N := N) (t := t) (rmy := rmy) (rpt := rpt) (sta := sta) (pt := pt) (nw := nI k0) (ou := ou) (si := si) (en := en) (w0 := w0) (w1 := w1) (br := br) (cr := cr) (pf := pf) (kt := kt) (kc := kc) (sd := sd) (ha := ha) (he_ := he_) (x := nI (nn + 1)) (k := mBeh r N sx k) (by first | assumption | omega) (by exact mBeh_64 (r := r) (show k < 64 by omega) (show sx < N by omega) h5) _) (cwV 2 hts gX5_layWays_X5_isHeard rfl rfl rfl (by decide +kernel) ⟨Nat.le_of_ble_eq_true rfl, Nat.le_of_ble_eq_true rfl⟩) hK hP hD hN [0, 2] rfl rfl rfl rfl rfl hl.1 rfl (Nat.le_of_ble_eq_true rfl) dX5_layWays_126 ⟨Nat.zero_le _, Nat.zero_le _⟩) hP hD hS hA [0, 2] rfl (fun r_46 u_47 H locs hq_45 hP hS => ?_)
                                  obtain rfl : r_46 = bI (mHeard he_ (nI (nn + 1)) (mBeh r N sx k) t) := hq_45
                                  refine lv_if_eq (tgt := 166) hx hb dX5_layWays_129 (by decide) (fun c129_48 => ?_) (fun c129_48 => ?_)
                                  · skip
                                    have c129_48 := bI_0.mp c129_48
                                    refine lv_iinc (v := nI (sx + 1)) (lv' := [(4, .int (nI (sx + 1))), (0, .ref m0), (1, .int (nI nb)), (2, .int (nI nn)), (3, .int (nI k))]) hx hb dX5_layWays_166 hl (k := 4) rfl (nI_1 sx) (by decide) rfl (fun ls hl => ?_)
                                    refine lv_goto (tgt := 73) hx hb dX5_layWays_169 (by decide) ?_
                                    exact ih34 (sx + 1) g3 (by omega) (by first | assumption | omega) (by clear hret hl hS hD hP hK hA hN hts hx hb hr hml hown hlocks hiX5 ih1 ih7 ih32 ih34; rw [mY1, ← h3_, if_pos hgt_]; first | (rw [if_pos (by simp_all [mOk])]; done) | (rw [if_neg (by simp_all [mOk])]; done)) _ _ _ hP hD hS (lv_sub hl [1, 2, 3, 4, 0] rfl)
                                  · skip
                                    have c129_48 := bI_n0.mp c129_48
                                    refine lv_aload_n hx hb dX5_layWays_132 rfl (lv_at hl 0 rfl) ?_
                                    refine va_get (D := D) (ci := 5) (v := .ref wy) (C := RX5) (T := TX5) (N := 35) hx hb hts hiX5 hown hK hP 0 rfl rfl 23 (by decide) (hts (.fieldLink RX5 31 "HeardSecondModel" "ways" "[I") (by decide +kernel)) (fun _ h9 => h9) rfl dX5_layWays_133 ?_
                                    refine lv_bipush (v := 64) hx hb dX5_layWays_136 (by decide) ?_
                                    refine lv_iload_n hx hb dX5_layWays_138 rfl (lv_at hl 2 rfl) ?_
                                    refine lv_imul hx hb dX5_layWays_139 ?_
                                    refine lv_bipush (v := 64) hx hb dX5_layWays_140 (by decide) ?_
                                    refine lv_iadd hx hb dX5_layWays_142 ?_
                                    refine lv_aload_n hx hb dX5_layWays_143 rfl (lv_at hl 0 rfl) ?_
                                    refine lv_iload hx hb dX5_layWays_144 (lv_at hl 4 rfl) ?_
                                    refine lv_iload_n hx hb dX5_layWays_146 rfl (lv_at hl 3 rfl) ?_
                                    refine z_bri (z_runV (As := [.int (nI sx), .int (nI k)]) (rest := [.int ((64 * (nI nn)) + 64), .ref wy]) (ci := 5) ⟨hx, hb, hml, hown, hts⟩ (c_X5_behind (m0 := m0) (pg := pg) (rd := rd) (ro := ro) (fa := fa) (wo := wo) (ah := ah) (he := he) (wy := wy) (on_ := on_) (pa := pa) (kr := kr) (kn := kn) (kh := kh) (sr := sr) (sn := sn) (n := n) (N := N) (t := t) (rmy := rmy) (rpt := rpt) (sta := sta) (pt := pt) (nw := nI k0) (ou := ou) (si := si) (en := en) (w0 := w0) (w1 := w1) (br := br) (cr := cr) (pf := pf) (kt := kt) (kc := kc) (sd := sd) (ha := ha) (r := r) (sx := sx) (k := k) (by first | assumption | omega) (by first | assumption | omega) (by first | assumption | omega) _) (cwV 2 hts gX5_layWays_X5_behind rfl rfl rfl (by decide +kernel) ⟨Nat.le_of_ble_eq_true rfl, Nat.le_of_ble_eq_true rfl⟩) hK hP hD hN [0, 1] rfl rfl rfl rfl rfl hl.1 rfl (Nat.le_of_ble_eq_true rfl) dX5_layWays_147 ⟨Nat.zero_le _, Nat.zero_le _⟩) hP hD hS hA [0, 1] rfl (fun r_50 u_51 H locs hq_49 hP hS => ?_)
                                    obtain rfl : r_50 = nI (mBeh r N sx k) := hq_49
                                    refine lv_iadd hx hb dX5_layWays_150 ?_
                                    refine z_top (y := nI (64 * nn + 64 + mBeh r N sx k)) (z_6464 nn _) ?_
                                    refine lv_dup2_11 hx hb dX5_layWays_151 rfl rfl ?_
                                    refine va_iald hx hb hK hP 3 0 rfl rfl (z_inN (by have := mBeh_64 (r := r) (show k < 64 by omega) (show sx < N by omega) h5; omega) (by decide)) dX5_layWays_152 ?_
                                    refine z_top (y := g3 (64 * nn + 64 + mBeh r N sx k)) (by rw [z_nat (by have := mBeh_64 (r := r) (show k < 64 by omega) (show sx < N by omega) h5; omega)]) ?_
                                    refine lv_aload_n hx hb dX5_layWays_153 rfl (lv_at hl 0 rfl) ?_
                                    refine va_get (D := D) (ci := 5) (v := .ref wy) (C := RX5) (T := TX5) (N := 35) hx hb hts hiX5 hown hK hP 0 rfl rfl 23 (by decide) (hts (.fieldLink RX5 31 "HeardSecondModel" "ways" "[I") (by decide +kernel)) (fun _ h9 => h9) rfl dX5_layWays_154 ?_
                                    refine lv_bipush (v := 64) hx hb dX5_layWays_157 (by decide) ?_
                                    refine lv_iload_n hx hb dX5_layWays_159 rfl (lv_at hl 2 rfl) ?_
                                    refine lv_imul hx hb dX5_layWays_160 ?_
                                    refine lv_iload_n hx hb dX5_layWays_161 rfl (lv_at hl 3 rfl) ?_
                                    refine lv_iadd hx hb dX5_layWays_162 ?_
                                    refine z_top (y := nI (64 * nn + k)) (z_64 nn k) ?_
                                    refine va_iald hx hb hK hP 3 0 rfl rfl (z_inN (by omega) (by decide)) dX5_layWays_163 ?_
                                    refine z_top (y := g3 (64 * nn + k)) (by rw [z_nat (by omega)]) ?_
                                    refine lv_iadd hx hb dX5_layWays_164 ?_
                                    refine va_iast hx hb hK hP hD hS 3 0 rfl rfl (z_inN (by have := mBeh_64 (r := r) (show k < 64 by omega) (show sx < N by omega) h5; omega) (by decide)) dX5_layWays_165 (fun H locs hP hD hS => ?_)
                                    have hP : va_P D vwCl [(m0, .inr (5, [.ref pg, .int (nI n), .ref rd, .int rmy, .int rpt, .int sta, .int (nI N), .int pt, .int (nI k0), .int ou, .int si, .int en, .int w0, .int w1, .int br, .int cr, .ref ro, .ref fa, .ref wo, .ref ah, .int pf, .int (nI t), .ref he, .ref wy, .ref on_, .ref pa, .ref kr, .ref kn, .ref kh, .int kt, .int kc, .int sd, .ref sr, .ref sn, .long ha])), (ro, .inl (cA, 15, .inl r)), (he, .inl (cA, 16, .inl he_)), (wy, .inl (cA, 448, .inl (upd g3 (Int32.toNatClampNeg (nI (64 * nn + 64 + mBeh r N sx k))) ((g3 (64 * nn + 64 + mBeh r N sx k)) + (g3 (64 * nn + k)))))), (on_, .inl (cA, 448, .inl (fun _ => 0)))] H := hP
                                    have hD : va_D A [(m0, .inr (5, [.ref pg, .int (nI n), .ref rd, .int rmy, .int rpt, .int sta, .int (nI N), .int pt, .int (nI k0), .int ou, .int si, .int en, .int w0, .int w1, .int br, .int cr, .ref ro, .ref fa, .ref wo, .ref ah, .int pf, .int (nI t), .ref he, .ref wy, .ref on_, .ref pa, .ref kr, .ref kn, .ref kh, .int kt, .int kc, .int sd, .ref sr, .ref sn, .long ha])), (ro, .inl (cA, 15, .inl r)), (he, .inl (cA, 16, .inl he_)), (wy, .inl (cA, 448, .inl (upd g3 (Int32.toNatClampNeg (nI (64 * nn + 64 + mBeh r N sx k))) ((g3 (64 * nn + 64 + mBeh r N sx k)) + (g3 (64 * nn + k)))))), (on_, .inl (cA, 448, .inl (fun _ => 0)))] := hD
                                    rw [show upd g3 (Int32.toNatClampNeg (nI (64 * nn + 64 + mBeh r N sx k))) ((g3 (64 * nn + 64 + mBeh r N sx k)) + (g3 (64 * nn + k))) = upd g3 (64 * nn + 64 + mBeh r N sx k) (g3 (64 * nn + 64 + mBeh r N sx k) + g3 (64 * nn + k)) from by rw [z_nat (by have := mBeh_64 (r := r) (show k < 64 by omega) (show sx < N by omega) h5; omega)]] at hP hD
                                    refine lv_iinc (v := nI (sx + 1)) (lv' := [(4, .int (nI (sx + 1))), (0, .ref m0), (1, .int (nI nb)), (2, .int (nI nn)), (3, .int (nI k))]) hx hb dX5_layWays_166 hl (k := 4) rfl (nI_1 sx) (by decide) rfl (fun ls hl => ?_)
                                    refine lv_goto (tgt := 73) hx hb dX5_layWays_169 (by decide) ?_
                                    exact ih34 (sx + 1) (upd g3 (64 * nn + 64 + mBeh r N sx k) (g3 (64 * nn + 64 + mBeh r N sx k) + g3 (64 * nn + k))) (by omega) (by first | assumption | omega) (by clear hret hl hS hD hP hK hA hN hts hx hb hr hml hown hlocks hiX5 ih1 ih7 ih32 ih34; rw [mY1, ← h3_, if_pos hgt_]; first | (rw [if_pos (by simp_all [mOk])]; done) | (rw [if_neg (by simp_all [mOk])]; done)) _ _ _ hP hD hS (lv_sub hl [1, 2, 3, 4, 0] rfl)
                      exact L73 (N + 1) 0 g2_ (by omega) (by first | assumption | omega) (by rfl) _ _ _ hP hD hS (lv_sub hl [1, 2, 3, 4, 0] rfl)
                exact L64 65 0 g (by omega) (by first | assumption | omega) (by rfl) _ _ _ hP hD hS (lv_sub hl [1, 2, 3, 0] rfl)
          exact L57 (nb + 1) 0 (upd (fun _ => 0) k0 (bI (mHeard he_ 0 k0 t))) (by omega) (by first | assumption | omega) (by rfl) _ _ _ hP hD hS (lv_sub hl [1, 2, 0] rfl)
        · skip
          have c46_6 := bI_n0.mp c46_6
          refine lv_iconst (v := 1) hx hb dX5_layWays_49 (by decide) ?_
          refine lv_goto (tgt := 54) hx hb dX5_layWays_50 (by decide) ?_
          refine z_top (y := bI (mHeard he_ 0 k0 t)) (by first | (rw [show mHeard he_ 0 k0 t = true by assumption]; rfl) | (rw [show mHeard he_ 0 k0 t = false by assumption]; rfl)) ?_
          refine va_iast hx hb hK hP hD hS 3 0 rfl rfl (z_inN (by omega) (by decide)) dX5_layWays_54 (fun H locs hP hD hS => ?_)
          have hP : va_P D vwCl [(m0, .inr (5, [.ref pg, .int (nI n), .ref rd, .int rmy, .int rpt, .int sta, .int (nI N), .int pt, .int (nI k0), .int ou, .int si, .int en, .int w0, .int w1, .int br, .int cr, .ref ro, .ref fa, .ref wo, .ref ah, .int pf, .int (nI t), .ref he, .ref wy, .ref on_, .ref pa, .ref kr, .ref kn, .ref kh, .int kt, .int kc, .int sd, .ref sr, .ref sn, .long ha])), (ro, .inl (cA, 15, .inl r)), (he, .inl (cA, 16, .inl he_)), (wy, .inl (cA, 448, .inl (upd (fun _ => 0) (Int32.toNatClampNeg (nI k0)) (bI (mHeard he_ 0 k0 t))))), (on_, .inl (cA, 448, .inl (fun _ => 0)))] H := hP
          have hD : va_D A [(m0, .inr (5, [.ref pg, .int (nI n), .ref rd, .int rmy, .int rpt, .int sta, .int (nI N), .int pt, .int (nI k0), .int ou, .int si, .int en, .int w0, .int w1, .int br, .int cr, .ref ro, .ref fa, .ref wo, .ref ah, .int pf, .int (nI t), .ref he, .ref wy, .ref on_, .ref pa, .ref kr, .ref kn, .ref kh, .int kt, .int kc, .int sd, .ref sr, .ref sn, .long ha])), (ro, .inl (cA, 15, .inl r)), (he, .inl (cA, 16, .inl he_)), (wy, .inl (cA, 448, .inl (upd (fun _ => 0) (Int32.toNatClampNeg (nI k0)) (bI (mHeard he_ 0 k0 t))))), (on_, .inl (cA, 448, .inl (fun _ => 0)))] := hD
          rw [show upd (fun _ => 0) (Int32.toNatClampNeg (nI k0)) (bI (mHeard he_ 0 k0 t)) = upd (fun _ => 0) k0 (bI (mHeard he_ 0 k0 t)) from by rw [z_nat (by omega)]] at hP hD
          refine lv_iconst (v := nI 0) hx hb dX5_layWays_55 (by decide) ?_
          refine lv_istore_n (lv' := [(2, .int (nI 0)), (0, .ref m0), (1, .int (nI nb))]) hx hb dX5_layWays_56 rfl hl (by decide) rfl (fun ls hl => ?_)
          have L57 : ∀ (n_ : Nat) (nn : Nat) (g : Nat → Int32) (hm_ : nb + 1 ≤ nn + n_) (hnn : nn ≤ nb) (hg : g = mY3 r N ou he_ t k0 nn) (H : Heap) (locs : List Loc) (ls : Array Slot), va_P D vwCl [(m0, .inr (5, [.ref pg, .int (nI n), .ref rd, .int rmy, .int rpt, .int sta, .int (nI N), .int pt, .int (nI k0), .int ou, .int si, .int en, .int w0, .int w1, .int br, .int cr, .ref ro, .ref fa, .ref wo, .ref ah, .int pf, .int (nI t), .ref he, .ref wy, .ref on_, .ref pa, .ref kr, .ref kn, .ref kh, .int kt, .int kc, .int sd, .ref sr, .ref sn, .long ha])), (ro, .inl (cA, 15, .inl r)), (he, .inl (cA, 16, .inl he_)), (wy, .inl (cA, 448, .inl g)), (on_, .inl (cA, 448, .inl (fun _ => 0)))] H → va_D A [(m0, .inr (5, [.ref pg, .int (nI n), .ref rd, .int rmy, .int rpt, .int sta, .int (nI N), .int pt, .int (nI k0), .int ou, .int si, .int en, .int w0, .int w1, .int br, .int cr, .ref ro, .ref fa, .ref wo, .ref ah, .int pf, .int (nI t), .ref he, .ref wy, .ref on_, .ref pa, .ref kr, .ref kn, .ref kh, .int kt, .int kc, .int sd, .ref sr, .ref sn, .long ha])), (ro, .inl (cA, 15, .inl r)), (he, .inl (cA, 16, .inl he_)), (wy, .inl (cA, 448, .inl g)), (on_, .inl (cA, 448, .inl (fun _ => 0)))] → va_S A H0 H locs → lv_has ls 5 [(0, .ref m0), (1, .int (nI nb)), (2, .int (nI nn))] → W p l e rm_c_X5_layWays s m args below meth c H locs 0 0 Q (F0 m 57 ls []) := by
            intro n_
            induction n_ with
            | zero =>
              intro nn g hm_ hnn hg
              exact absurd hm_ (by omega)
            | succ n_ ih_ =>
              intro nn g hm_ hnn hg H locs ls hP hD hS hl
              have ih52 := ih_
              clear ih_
              refine lv_iload_n hx hb dX5_layWays_57 rfl (lv_at hl 2 rfl) ?_
              refine lv_iload_n hx hb dX5_layWays_58 rfl (lv_at hl 1 rfl) ?_
              refine lv_icmp_ge (tgt := 184) hx hb dX5_layWays_59 (by decide) (fun c59_53 => ?_) (fun c59_53 => ?_)
              · skip
                have ht_w : nn = nb := by have := (nI_leI (a := nb) (b := nn) (by omega) (by omega)).mp c59_53; omega
                refine lv_iconst (v := nI 0) hx hb dX5_layWays_184 (by decide) ?_
                refine lv_istore_n (lv' := [(2, .int (nI 0)), (0, .ref m0), (1, .int (nI nb))]) hx hb dX5_layWays_185 rfl hl (by decide) rfl (fun ls hl => ?_)
                have L186 : ∀ (n_ : Nat) (q : Nat) (q2 : Nat → Int32) (hm_ : 65 ≤ q + n_) (hq : q ≤ 64) (hq2 : ∀ j, j < 448 → q2 j = if 64 * nb ≤ j ∧ j < 64 * nb + q then 1 else 0) (H : Heap) (locs : List Loc) (ls : Array Slot), va_P D vwCl [(m0, .inr (5, [.ref pg, .int (nI n), .ref rd, .int rmy, .int rpt, .int sta, .int (nI N), .int pt, .int (nI k0), .int ou, .int si, .int en, .int w0, .int w1, .int br, .int cr, .ref ro, .ref fa, .ref wo, .ref ah, .int pf, .int (nI t), .ref he, .ref wy, .ref on_, .ref pa, .ref kr, .ref kn, .ref kh, .int kt, .int kc, .int sd, .ref sr, .ref sn, .long ha])), (ro, .inl (cA, 15, .inl r)), (he, .inl (cA, 16, .inl he_)), (wy, .inl (cA, 448, .inl g)), (on_, .inl (cA, 448, .inl q2))] H → va_D A [(m0, .inr (5, [.ref pg, .int (nI n), .ref rd, .int rmy, .int rpt, .int sta, .int (nI N), .int pt, .int (nI k0), .int ou, .int si, .int en, .int w0, .int w1, .int br, .int cr, .ref ro, .ref fa, .ref wo, .ref ah, .int pf, .int (nI t), .ref he, .ref wy, .ref on_, .ref pa, .ref kr, .ref kn, .ref kh, .int kt, .int kc, .int sd, .ref sr, .ref sn, .long ha])), (ro, .inl (cA, 15, .inl r)), (he, .inl (cA, 16, .inl he_)), (wy, .inl (cA, 448, .inl g)), (on_, .inl (cA, 448, .inl q2))] → va_S A H0 H locs → lv_has ls 5 [(0, .ref m0), (1, .int (nI nb)), (2, .int (nI q))] → W p l e rm_c_X5_layWays s m args below meth c H locs 0 0 Q (F0 m 186 ls []) := by
                  intro n_
                  induction n_ with
                  | zero =>
                    intro q q2 hm_ hq hq2
                    exact absurd hm_ (by omega)
                  | succ n_ ih_ =>
                    intro q q2 hm_ hq hq2 H locs ls hP hD hS hl
                    have ih54 := ih_
                    clear ih_
                    refine lv_iload_n hx hb dX5_layWays_186 rfl (lv_at hl 2 rfl) ?_
                    refine lv_bipush (v := 64) hx hb dX5_layWays_187 (by decide) ?_
                    refine lv_icmp_ge (tgt := 210) hx hb dX5_layWays_189 (by decide) (fun c189_55 => ?_) (fun c189_55 => ?_)
                    · skip
                      have ht_ : q = 64 := by have := (nI_leI (a := 64) (b := q) (by omega) (by omega)).mp c189_55; omega
                      have hP : va_P D vwCl [(m0, .inr (5, [.ref pg, .int (nI n), .ref rd, .int rmy, .int rpt, .int sta, .int (nI N), .int pt, .int (nI k0), .int ou, .int si, .int en, .int w0, .int w1, .int br, .int cr, .ref ro, .ref fa, .ref wo, .ref ah, .int pf, .int (nI t), .ref he, .ref wy, .ref on_, .ref pa, .ref kr, .ref kn, .ref kh, .int kt, .int kc, .int sd, .ref sr, .ref sn, .long ha])), (ro, .inl (cA, 15, .inl r)), (he, .inl (cA, 16, .inl he_)), (wy, .inl (cA, 448, .inl g)), (on_, .inl (cA, 448, .inl (mO3 r N ou he_ t nb 0)))] H := z_arrP hP 4 (g := (mO3 r N ou he_ t nb 0)) rfl (by intro j hj; rw [hq2 j hj, ht_]; rfl) rfl
                      have hD : va_D A [(m0, .inr (5, [.ref pg, .int (nI n), .ref rd, .int rmy, .int rpt, .int sta, .int (nI N), .int pt, .int (nI k0), .int ou, .int si, .int en, .int w0, .int w1, .int br, .int cr, .ref ro, .ref fa, .ref wo, .ref ah, .int pf, .int (nI t), .ref he, .ref wy, .ref on_, .ref pa, .ref kr, .ref kn, .ref kh, .int kt, .int kc, .int sd, .ref sr, .ref sn, .long ha])), (ro, .inl (cA, 15, .inl r)), (he, .inl (cA, 16, .inl he_)), (wy, .inl (cA, 448, .inl g)), (on_, .inl (cA, 448, .inl (mO3 r N ou he_ t nb 0)))] := z_arrD hD 4 rfl rfl
                      refine lv_iload_n hx hb dX5_layWays_210 rfl (lv_at hl 1 rfl) ?_
                      refine lv_iconst (v := 1) hx hb dX5_layWays_211 (by decide) ?_
                      refine lv_isub hx hb dX5_layWays_212 ?_
                      refine z_top (y := pI nb) (rfl) ?_
                      refine lv_istore_n (lv' := [(2, .int (pI nb)), (0, .ref m0), (1, .int (nI nb))]) hx hb dX5_layWays_213 rfl hl (by decide) rfl (fun ls hl => ?_)
                      have L214 : ∀ (n_ : Nat) (d : Nat) (o1 : Nat → Int32) (hm_ : d + 1 ≤ n_) (hd : d ≤ nb) (ho1 : o1 = mO3 r N ou he_ t nb (nb - d)) (H : Heap) (locs : List Loc) (ls : Array Slot), va_P D vwCl [(m0, .inr (5, [.ref pg, .int (nI n), .ref rd, .int rmy, .int rpt, .int sta, .int (nI N), .int pt, .int (nI k0), .int ou, .int si, .int en, .int w0, .int w1, .int br, .int cr, .ref ro, .ref fa, .ref wo, .ref ah, .int pf, .int (nI t), .ref he, .ref wy, .ref on_, .ref pa, .ref kr, .ref kn, .ref kh, .int kt, .int kc, .int sd, .ref sr, .ref sn, .long ha])), (ro, .inl (cA, 15, .inl r)), (he, .inl (cA, 16, .inl he_)), (wy, .inl (cA, 448, .inl g)), (on_, .inl (cA, 448, .inl o1))] H → va_D A [(m0, .inr (5, [.ref pg, .int (nI n), .ref rd, .int rmy, .int rpt, .int sta, .int (nI N), .int pt, .int (nI k0), .int ou, .int si, .int en, .int w0, .int w1, .int br, .int cr, .ref ro, .ref fa, .ref wo, .ref ah, .int pf, .int (nI t), .ref he, .ref wy, .ref on_, .ref pa, .ref kr, .ref kn, .ref kh, .int kt, .int kc, .int sd, .ref sr, .ref sn, .long ha])), (ro, .inl (cA, 15, .inl r)), (he, .inl (cA, 16, .inl he_)), (wy, .inl (cA, 448, .inl g)), (on_, .inl (cA, 448, .inl o1))] → va_S A H0 H locs → lv_has ls 5 [(0, .ref m0), (1, .int (nI nb)), (2, .int (pI d))] → W p l e rm_c_X5_layWays s m args below meth c H locs 0 0 Q (F0 m 214 ls []) := by
                        intro n_
                        induction n_ with
                        | zero =>
                          intro d o1 hm_ hd ho1
                          exact absurd hm_ (by omega)
                        | succ n_ ih_ =>
                          intro d o1 hm_ hd ho1 H locs ls hP hD hS hl
                          have ih56 := ih_
                          clear ih_
                          refine lv_iload_n hx hb dX5_layWays_214 rfl (lv_at hl 2 rfl) ?_
                          refine lv_if_lt (tgt := 326) hx hb dX5_layWays_215 (by decide) (fun c215_57 => ?_) (fun c215_57 => ?_)
                          · skip
                            have ht_ : d = 0 := (pI_neg d (by omega)).mp c215_57
                            -- path 2
                            have hP : va_P D vwCl [(m0, .inr (5, [.ref pg, .int (nI n), .ref rd, .int rmy, .int rpt, .int sta, .int (nI N), .int pt, .int (nI k0), .int ou, .int si, .int en, .int w0, .int w1, .int br, .int cr, .ref ro, .ref fa, .ref wo, .ref ah, .int pf, .int (nI t), .ref he, .ref wy, .ref on_, .ref pa, .ref kr, .ref kn, .ref kh, .int kt, .int kc, .int sd, .ref sr, .ref sn, .long ha])), (ro, .inl (cA, 15, .inl r)), (he, .inl (cA, 16, .inl he_)), (wy, .inl (cA, 448, .inl (mY3 r N ou he_ t k0 nb))), (on_, .inl (cA, 448, .inl o1))] H := z_arrP hP 3 (g := (mY3 r N ou he_ t k0 nb)) rfl (by clear hret hl hS hD hP hK hA hN hts hx hb hr hml hown hlocks hiX5 ih1 ih52 ih54 ih56; intro j hj; rw [hg, ht_w]) rfl
                            have hD : va_D A [(m0, .inr (5, [.ref pg, .int (nI n), .ref rd, .int rmy, .int rpt, .int sta, .int (nI N), .int pt, .int (nI k0), .int ou, .int si, .int en, .int w0, .int w1, .int br, .int cr, .ref ro, .ref fa, .ref wo, .ref ah, .int pf, .int (nI t), .ref he, .ref wy, .ref on_, .ref pa, .ref kr, .ref kn, .ref kh, .int kt, .int kc, .int sd, .ref sr, .ref sn, .long ha])), (ro, .inl (cA, 15, .inl r)), (he, .inl (cA, 16, .inl he_)), (wy, .inl (cA, 448, .inl (mY3 r N ou he_ t k0 nb))), (on_, .inl (cA, 448, .inl o1))] := z_arrD hD 3 rfl rfl
                            have hP : va_P D vwCl [(m0, .inr (5, [.ref pg, .int (nI n), .ref rd, .int rmy, .int rpt, .int sta, .int (nI N), .int pt, .int (nI k0), .int ou, .int si, .int en, .int w0, .int w1, .int br, .int cr, .ref ro, .ref fa, .ref wo, .ref ah, .int pf, .int (nI t), .ref he, .ref wy, .ref on_, .ref pa, .ref kr, .ref kn, .ref kh, .int kt, .int kc, .int sd, .ref sr, .ref sn, .long ha])), (ro, .inl (cA, 15, .inl r)), (he, .inl (cA, 16, .inl he_)), (wy, .inl (cA, 448, .inl (mY3 r N ou he_ t k0 nb))), (on_, .inl (cA, 448, .inl (mO3 r N ou he_ t nb nb)))] H := z_arrP hP 4 (g := (mO3 r N ou he_ t nb nb)) rfl (by clear hret hl hS hD hP hK hA hN hts hx hb hr hml hown hlocks hiX5 ih1 ih52 ih54 ih56; intro j hj; rw [ho1, ht_, Nat.sub_zero]) rfl
                            have hD : va_D A [(m0, .inr (5, [.ref pg, .int (nI n), .ref rd, .int rmy, .int rpt, .int sta, .int (nI N), .int pt, .int (nI k0), .int ou, .int si, .int en, .int w0, .int w1, .int br, .int cr, .ref ro, .ref fa, .ref wo, .ref ah, .int pf, .int (nI t), .ref he, .ref wy, .ref on_, .ref pa, .ref kr, .ref kn, .ref kh, .int kt, .int kc, .int sd, .ref sr, .ref sn, .long ha])), (ro, .inl (cA, 15, .inl r)), (he, .inl (cA, 16, .inl he_)), (wy, .inl (cA, 448, .inl (mY3 r N ou he_ t k0 nb))), (on_, .inl (cA, 448, .inl (mO3 r N ou he_ t nb nb)))] := z_arrD hD 4 rfl rfl
                            exact hret () _ _ _ _ dX5_layWays_326 (by trivial) hP hD hS
                          · skip
                            have hd0 : 0 < d := Nat.pos_of_ne_zero (fun q_ => c215_57 ((pI_neg d (by omega)).mpr q_))
                            rw [pI_nI hd0] at hl
                            refine lv_iconst (v := nI 0) hx hb dX5_layWays_218 (by decide) ?_
                            refine lv_istore_n (lv' := [(3, .int (nI 0)), (0, .ref m0), (1, .int (nI nb)), (2, .int (nI (d - 1)))]) hx hb dX5_layWays_219 rfl hl (by decide) rfl (fun ls hl => ?_)
                            have L220 : ∀ (n_ : Nat) (k : Nat) (o2 : Nat → Int32) (hm_ : 65 ≤ k + n_) (hk : k ≤ 64) (ho2 : o2 = mO2 r N ou he_ t (d - 1) o1 k) (H : Heap) (locs : List Loc) (ls : Array Slot), va_P D vwCl [(m0, .inr (5, [.ref pg, .int (nI n), .ref rd, .int rmy, .int rpt, .int sta, .int (nI N), .int pt, .int (nI k0), .int ou, .int si, .int en, .int w0, .int w1, .int br, .int cr, .ref ro, .ref fa, .ref wo, .ref ah, .int pf, .int (nI t), .ref he, .ref wy, .ref on_, .ref pa, .ref kr, .ref kn, .ref kh, .int kt, .int kc, .int sd, .ref sr, .ref sn, .long ha])), (ro, .inl (cA, 15, .inl r)), (he, .inl (cA, 16, .inl he_)), (wy, .inl (cA, 448, .inl g)), (on_, .inl (cA, 448, .inl o2))] H → va_D A [(m0, .inr (5, [.ref pg, .int (nI n), .ref rd, .int rmy, .int rpt, .int sta, .int (nI N), .int pt, .int (nI k0), .int ou, .int si, .int en, .int w0, .int w1, .int br, .int cr, .ref ro, .ref fa, .ref wo, .ref ah, .int pf, .int (nI t), .ref he, .ref wy, .ref on_, .ref pa, .ref kr, .ref kn, .ref kh, .int kt, .int kc, .int sd, .ref sr, .ref sn, .long ha])), (ro, .inl (cA, 15, .inl r)), (he, .inl (cA, 16, .inl he_)), (wy, .inl (cA, 448, .inl g)), (on_, .inl (cA, 448, .inl o2))] → va_S A H0 H locs → lv_has ls 5 [(0, .ref m0), (1, .int (nI nb)), (2, .int (nI (d - 1))), (3, .int (nI k))] → W p l e rm_c_X5_layWays s m args below meth c H locs 0 0 Q (F0 m 220 ls []) := by
                              intro n_
                              induction n_ with
                              | zero =>
                                intro k o2 hm_ hk ho2
                                exact absurd hm_ (by omega)
                              | succ n_ ih_ =>
                                intro k o2 hm_ hk ho2 H locs ls hP hD hS hl
                                have ih58 := ih_
                                clear ih_
                                refine lv_iload_n hx hb dX5_layWays_220 rfl (lv_at hl 3 rfl) ?_
                                refine lv_bipush (v := 64) hx hb dX5_layWays_221 (by decide) ?_
                                refine lv_icmp_ge (tgt := 320) hx hb dX5_layWays_223 (by decide) (fun c223_59 => ?_) (fun c223_59 => ?_)
                                · skip
                                  have ht_ : k = 64 := by have := (nI_leI (a := 64) (b := k) (by omega) (by omega)).mp c223_59; omega
                                  refine lv_iinc (v := pI (d - 1)) (lv' := [(2, .int (pI (d - 1))), (0, .ref m0), (1, .int (nI nb)), (3, .int (nI k))]) hx hb dX5_layWays_320 hl (k := 2) rfl (z_pdec (d - 1)) (by decide) rfl (fun ls hl => ?_)
                                  refine lv_goto (tgt := 214) hx hb dX5_layWays_323 (by decide) ?_
                                  exact ih56 (d - 1) o2 (by omega) (by first | assumption | omega) (by clear hret hl hS hD hP hK hA hN hts hx hb hr hml hown hlocks hiX5 ih1 ih52 ih54 ih56 ih58; rw [show nb - (d - 1) = (nb - d) + 1 from by omega, mO3, ← ho1, show nb - 1 - (nb - d) = d - 1 from by omega, ho2, ht_]) _ _ _ hP hD hS (lv_sub hl [1, 2, 0] rfl)
                                · skip
                                  have hltk : k < 64 := Nat.lt_of_not_le (fun q_ => c223_59 ((nI_leI (a := 64) (b := k) (by omega) (by omega)).mpr q_))
                                  refine lv_iconst (v := nI 0) hx hb dX5_layWays_226 (by decide) ?_
                                  refine lv_istore (lv' := [(4, .int (nI 0)), (0, .ref m0), (1, .int (nI nb)), (2, .int (nI (d - 1))), (3, .int (nI k))]) hx hb dX5_layWays_227 hl (by decide) rfl (fun ls hl => ?_)
                                  have L229 : ∀ (n_ : Nat) (sx : Nat) (o3 : Nat → Int32) (hm_ : N + 1 ≤ sx + n_) (hs : sx ≤ N) (ho3 : o3 = mO1 r N ou he_ t (d - 1) k o2 sx) (H : Heap) (locs : List Loc) (ls : Array Slot), va_P D vwCl [(m0, .inr (5, [.ref pg, .int (nI n), .ref rd, .int rmy, .int rpt, .int sta, .int (nI N), .int pt, .int (nI k0), .int ou, .int si, .int en, .int w0, .int w1, .int br, .int cr, .ref ro, .ref fa, .ref wo, .ref ah, .int pf, .int (nI t), .ref he, .ref wy, .ref on_, .ref pa, .ref kr, .ref kn, .ref kh, .int kt, .int kc, .int sd, .ref sr, .ref sn, .long ha])), (ro, .inl (cA, 15, .inl r)), (he, .inl (cA, 16, .inl he_)), (wy, .inl (cA, 448, .inl g)), (on_, .inl (cA, 448, .inl o3))] H → va_D A [(m0, .inr (5, [.ref pg, .int (nI n), .ref rd, .int rmy, .int rpt, .int sta, .int (nI N), .int pt, .int (nI k0), .int ou, .int si, .int en, .int w0, .int w1, .int br, .int cr, .ref ro, .ref fa, .ref wo, .ref ah, .int pf, .int (nI t), .ref he, .ref wy, .ref on_, .ref pa, .ref kr, .ref kn, .ref kh, .int kt, .int kc, .int sd, .ref sr, .ref sn, .long ha])), (ro, .inl (cA, 15, .inl r)), (he, .inl (cA, 16, .inl he_)), (wy, .inl (cA, 448, .inl g)), (on_, .inl (cA, 448, .inl o3))] → va_S A H0 H locs → lv_has ls 5 [(0, .ref m0), (1, .int (nI nb)), (2, .int (nI (d - 1))), (3, .int (nI k)), (4, .int (nI sx))] → W p l e rm_c_X5_layWays s m args below meth c H locs 0 0 Q (F0 m 229 ls []) := by
                                    intro n_
                                    induction n_ with
                                    | zero =>
                                      intro sx o3 hm_ hs ho3
                                      exact absurd hm_ (by omega)
                                    | succ n_ ih_ =>
                                      intro sx o3 hm_ hs ho3 H locs ls hP hD hS hl
                                      have ih60 := ih_
                                      clear ih_
                                      refine lv_iload hx hb dX5_layWays_229 (lv_at hl 4 rfl) ?_
                                      refine lv_aload_n hx hb dX5_layWays_231 rfl (lv_at hl 0 rfl) ?_
                                      refine va_get (D := D) (ci := 5) (v := .int (nI N)) (C := RX5) (T := TX5) (N := 35) hx hb hts hiX5 hown hK hP 0 rfl rfl 6 (by decide) (hts (.fieldLink RX5 94 "HeardSecondModel" "seats" "I") (by decide +kernel)) (fun _ h9 => h9) rfl dX5_layWays_232 ?_
                                      refine lv_icmp_ge (tgt := 314) hx hb dX5_layWays_235 (by decide) (fun c235_61 => ?_) (fun c235_61 => ?_)
                                      · skip
                                        have ht_ : sx = N := by have := (nI_leI (a := N) (b := sx) (by omega) (by omega)).mp c235_61; omega
                                        refine lv_iinc (v := nI (k + 1)) (lv' := [(3, .int (nI (k + 1))), (0, .ref m0), (1, .int (nI nb)), (2, .int (nI (d - 1))), (4, .int (nI sx))]) hx hb dX5_layWays_314 hl (k := 3) rfl (nI_1 k) (by decide) rfl (fun ls hl => ?_)
                                        refine lv_goto (tgt := 220) hx hb dX5_layWays_317 (by decide) ?_
                                        exact ih58 (k + 1) o3 (by omega) (by first | assumption | omega) (by clear hret hl hS hD hP hK hA hN hts hx hb hr hml hown hlocks hiX5 ih1 ih52 ih54 ih56 ih58 ih60; rw [mO2, ← ho2]; exact ho3.trans (congrArg (mO1 r N ou he_ t (d - 1) k o2) ht_)) _ _ _ hP hD hS (lv_sub hl [1, 2, 3, 0] rfl)
                                      · skip
                                        have hltsx : sx < N := Nat.lt_of_not_le (fun q_ => c235_61 ((nI_leI (a := N) (b := sx) (by omega) (by omega)).mpr q_))
                                        refine lv_aload_n hx hb dX5_layWays_238 rfl (lv_at hl 0 rfl) ?_
                                        refine lv_iload hx hb dX5_layWays_239 (lv_at hl 4 rfl) ?_
                                        refine lv_iload_n hx hb dX5_layWays_241 rfl (lv_at hl 3 rfl) ?_
                                        refine z_bri (z_runV (As := [.int (nI sx), .int (nI k)]) (rest := []) (ci := 5) ⟨hx, hb, hml, hown, hts⟩ (c_X5_counts (m0 := m0) (pg := pg) (rd := rd) (ro := ro) (fa := fa) (wo := wo) (ah := ah) (he := he) (wy := wy) (on_ := on_) (pa := pa) (kr := kr) (kn := kn) (kh := kh) (sr := sr) (sn := sn) (n := n) (N := N) (t := t) (rmy := rmy) (rpt := rpt) (sta := sta) (pt := pt) (nw := nI k0) (ou := ou) (si := si) (en := en) (w0 := w0) (w1 := w1) (br := br) (cr := cr) (pf := pf) (kt := kt) (kc := kc) (sd := sd) (ha := ha) (r := r) (sx := sx) (k := k) (by first | assumption | omega) (by first | assumption | omega) _) (cwV 2 hts gX5_layWays_X5_counts rfl rfl rfl (by decide +kernel) ⟨Nat.le_of_ble_eq_true rfl, Nat.le_of_ble_eq_true rfl⟩) hK hP hD hN [0, 1] rfl rfl rfl rfl rfl hl.1 rfl (Nat.le_of_ble_eq_true rfl) dX5_layWays_242 ⟨Nat.zero_le _, Nat.zero_le _⟩) hP hD hS hA [0, 1] rfl (fun r_63 u_64 H locs hq_62 hP hS => ?_)
                                        obtain rfl : r_63 = bI (mCounts r ou sx k) := hq_62
                                        refine lv_if_eq (tgt := 308) hx hb dX5_layWays_245 (by decide) (fun c245_65 => ?_) (fun c245_65 => ?_)
                                        · skip
                                          have c245_65 := bI_0.mp c245_65
                                          refine lv_iinc (v := nI (sx + 1)) (lv' := [(4, .int (nI (sx + 1))), (0, .ref m0), (1, .int (nI nb)), (2, .int (nI (d - 1))), (3, .int (nI k))]) hx hb dX5_layWays_308 hl (k := 4) rfl (nI_1 sx) (by decide) rfl (fun ls hl => ?_)
                                          refine lv_goto (tgt := 229) hx hb dX5_layWays_311 (by decide) ?_
                                          exact ih60 (sx + 1) o3 (by omega) (by first | assumption | omega) (by clear hret hl hS hD hP hK hA hN hts hx hb hr hml hown hlocks hiX5 ih1 ih52 ih54 ih56 ih58 ih60; rw [mO1, ← ho3]; first | (rw [if_pos (by simp_all [mOk])]; done) | (rw [if_neg (by simp_all [mOk])]; done)) _ _ _ hP hD hS (lv_sub hl [1, 2, 3, 4, 0] rfl)
                                        · skip
                                          have c245_65 := bI_n0.mp c245_65
                                          refine lv_iload_n hx hb dX5_layWays_248 rfl (lv_at hl 3 rfl) ?_
                                          refine lv_bipush (v := 8) hx hb dX5_layWays_249 (by decide) ?_
                                          refine lv_idiv hx hb dX5_layWays_251 (by decide) ?_
                                          refine z_top (y := nI (k / 8)) (z_d8 k (by omega)) ?_
                                          refine lv_iload hx hb dX5_layWays_252 (lv_at hl 4 rfl) ?_
                                          refine lv_icmp_eq (tgt := 308) hx hb dX5_layWays_254 (by decide) (fun c254_66 => ?_) (fun c254_66 => ?_)
                                          · skip
                                            have e8_ := (nI_eq (a := k / 8) (b := sx) (by omega) (by omega)).mp c254_66
                                            refine lv_iinc (v := nI (sx + 1)) (lv' := [(4, .int (nI (sx + 1))), (0, .ref m0), (1, .int (nI nb)), (2, .int (nI (d - 1))), (3, .int (nI k))]) hx hb dX5_layWays_308 hl (k := 4) rfl (nI_1 sx) (by decide) rfl (fun ls hl => ?_)
                                            refine lv_goto (tgt := 229) hx hb dX5_layWays_311 (by decide) ?_
                                            exact ih60 (sx + 1) o3 (by omega) (by first | assumption | omega) (by clear hret hl hS hD hP hK hA hN hts hx hb hr hml hown hlocks hiX5 ih1 ih52 ih54 ih56 ih58 ih60; rw [mO1, ← ho3]; first | (rw [if_pos (by simp_all [mOk])]; done) | (rw [if_neg (by simp_all [mOk])]; done)) _ _ _ hP hD hS (lv_sub hl [1, 2, 3, 4, 0] rfl)
                                          · skip
                                            have e8_ : ¬ k / 8 = sx := fun q_ => c254_66 (by rw [q_]; try rfl)
                                            refine lv_aload_n hx hb dX5_layWays_257 rfl (lv_at hl 0 rfl) ?_
                                            refine lv_iload_n hx hb dX5_layWays_258 rfl (lv_at hl 2 rfl) ?_
                                            refine lv_iconst (v := 1) hx hb dX5_layWays_259 (by decide) ?_
                                            refine lv_iadd hx hb dX5_layWays_260 ?_
                                            refine z_top (y := nI (d - 1 + 1)) (nI_1 (d - 1)) ?_
                                            refine lv_aload_n hx hb dX5_layWays_261 rfl (lv_at hl 0 rfl) ?_
                                            refine lv_iload hx hb dX5_layWays_262 (lv_at hl 4 rfl) ?_
                                            refine lv_iload_n hx hb dX5_layWays_264 rfl (lv_at hl 3 rfl) ?_
                                            refine z_bri (z_runV (As := [.int (nI sx), .int (nI k)]) (rest := [.int (nI (d - 1 + 1)), .ref m0]) (ci := 5) ⟨hx, hb, hml, hown, hts⟩ (c_X5_behind (m0 := m0) (pg := pg) (rd := rd) (ro := ro) (fa := fa) (wo := wo) (ah := ah) (he := he) (wy := wy) (on_ := on_) (pa := pa) (kr := kr) (kn := kn) (kh := kh) (sr := sr) (sn := sn) (n := n) (N := N) (t := t) (rmy := rmy) (rpt := rpt) (sta := sta) (pt := pt) (nw := nI k0) (ou := ou) (si := si) (en := en) (w0 := w0) (w1 := w1) (br := br) (cr := cr) (pf := pf) (kt := kt) (kc := kc) (sd := sd) (ha := ha) (r := r) (sx := sx) (k := k) (by first | assumption | omega) (by first | assumption | omega) (by first | assumption | omega) _) (cwV 2 hts gX5_layWays_X5_behind rfl rfl rfl (by decide +kernel) ⟨Nat.le_of_ble_eq_true rfl, Nat.le_of_ble_eq_true rfl⟩) hK hP hD hN [0, 1] rfl rfl rfl rfl rfl hl.1 rfl (Nat.le_of_ble_eq_true rfl) dX5_layWays_265 ⟨Nat.zero_le _, Nat.zero_le _⟩) hP hD hS hA [0, 1] rfl (fun r_68 u_69 H locs hq_67 hP hS => ?_)
                                            obtain rfl : r_68 = nI (mBeh r N sx k) := hq_67
                                            refine z_bri (z_runV (As := [.int (nI (d - 1 + 1)), .int (nI (mBeh r N sx k))]) (rest := []) (ci := 5) ⟨hx, hb, hml, hown, hts⟩ (c_X5_isHeard (m0 := m0) (pg := pg) (rd := rd) (ro := ro) (fa := fa) (wo := wo) (ah := ah) (he := he) (wy := wy) (on_ := on_) (pa := pa) (kr := kr) (kn := kn) (kh := kh) (sr := sr) (sn := sn) (n := n) (N := N) (t := t) (rmy := rmy) (rpt := rpt) (sta := sta) (pt := pt) (nw := nI k0) (ou := ou) (si := si) (en := en) (w0 := w0) (w1 := w1) (br := br) (cr := cr) (pf := pf) (kt := kt) (kc := kc) (sd := sd) (ha := ha) (he_ := he_) (x := nI (d - 1 + 1)) (k := mBeh r N sx k) (by first | assumption | omega) (by exact mBeh_64 (r := r) (show k < 64 by omega) (show sx < N by omega) h5) _) (cwV 2 hts gX5_layWays_X5_isHeard rfl rfl rfl (by decide +kernel) ⟨Nat.le_of_ble_eq_true rfl, Nat.le_of_ble_eq_true rfl⟩) hK hP hD hN [0, 2] rfl rfl rfl rfl rfl hl.1 rfl (Nat.le_of_ble_eq_true rfl) dX5_layWays_268 ⟨Nat.zero_le _, Nat.zero_le _⟩) hP hD hS hA [0, 2] rfl (fun r_71 u_72 H locs hq_70 hP hS => ?_)
                                            obtain rfl : r_71 = bI (mHeard he_ (nI (d - 1 + 1)) (mBeh r N sx k) t) := hq_70
                                            refine lv_if_eq (tgt := 308) hx hb dX5_layWays_271 (by decide) (fun c271_73 => ?_) (fun c271_73 => ?_)
                                            · skip
                                              have c271_73 := bI_0.mp c271_73
                                              refine lv_iinc (v := nI (sx + 1)) (lv' := [(4, .int (nI (sx + 1))), (0, .ref m0), (1, .int (nI nb)), (2, .int (nI (d - 1))), (3, .int (nI k))]) hx hb dX5_layWays_308 hl (k := 4) rfl (nI_1 sx) (by decide) rfl (fun ls hl => ?_)
                                              refine lv_goto (tgt := 229) hx hb dX5_layWays_311 (by decide) ?_
                                              exact ih60 (sx + 1) o3 (by omega) (by first | assumption | omega) (by clear hret hl hS hD hP hK hA hN hts hx hb hr hml hown hlocks hiX5 ih1 ih52 ih54 ih56 ih58 ih60; rw [mO1, ← ho3]; first | (rw [if_pos (by simp_all [mOk])]; done) | (rw [if_neg (by simp_all [mOk])]; done)) _ _ _ hP hD hS (lv_sub hl [1, 2, 3, 4, 0] rfl)
                                            · skip
                                              have c271_73 := bI_n0.mp c271_73
                                              refine lv_aload_n hx hb dX5_layWays_274 rfl (lv_at hl 0 rfl) ?_
                                              refine va_get (D := D) (ci := 5) (v := .ref on_) (C := RX5) (T := TX5) (N := 35) hx hb hts hiX5 hown hK hP 0 rfl rfl 24 (by decide) (hts (.fieldLink RX5 34 "HeardSecondModel" "onward" "[I") (by decide +kernel)) (fun _ h9 => h9) rfl dX5_layWays_275 ?_
                                              refine lv_bipush (v := 64) hx hb dX5_layWays_278 (by decide) ?_
                                              refine lv_iload_n hx hb dX5_layWays_280 rfl (lv_at hl 2 rfl) ?_
                                              refine lv_imul hx hb dX5_layWays_281 ?_
                                              refine lv_iload_n hx hb dX5_layWays_282 rfl (lv_at hl 3 rfl) ?_
                                              refine lv_iadd hx hb dX5_layWays_283 ?_
                                              refine z_top (y := nI (64 * (d - 1) + k)) (z_64 (d - 1) k) ?_
                                              refine lv_dup2_11 hx hb dX5_layWays_284 rfl rfl ?_
                                              refine va_iald hx hb hK hP 4 0 rfl rfl (z_inN (by omega) (by decide)) dX5_layWays_285 ?_
                                              refine z_top (y := o3 (64 * (d - 1) + k)) (by rw [z_nat (by omega)]) ?_
                                              refine lv_aload_n hx hb dX5_layWays_286 rfl (lv_at hl 0 rfl) ?_
                                              refine va_get (D := D) (ci := 5) (v := .ref on_) (C := RX5) (T := TX5) (N := 35) hx hb hts hiX5 hown hK hP 0 rfl rfl 24 (by decide) (hts (.fieldLink RX5 34 "HeardSecondModel" "onward" "[I") (by decide +kernel)) (fun _ h9 => h9) rfl dX5_layWays_287 ?_
                                              refine lv_bipush (v := 64) hx hb dX5_layWays_290 (by decide) ?_
                                              refine lv_iload_n hx hb dX5_layWays_292 rfl (lv_at hl 2 rfl) ?_
                                              refine lv_imul hx hb dX5_layWays_293 ?_
                                              refine lv_bipush (v := 64) hx hb dX5_layWays_294 (by decide) ?_
                                              refine lv_iadd hx hb dX5_layWays_296 ?_
                                              refine lv_aload_n hx hb dX5_layWays_297 rfl (lv_at hl 0 rfl) ?_
                                              refine lv_iload hx hb dX5_layWays_298 (lv_at hl 4 rfl) ?_
                                              refine lv_iload_n hx hb dX5_layWays_300 rfl (lv_at hl 3 rfl) ?_
                                              refine z_bri (z_runV (As := [.int (nI sx), .int (nI k)]) (rest := [.int ((64 * (nI (d - 1))) + 64), .ref on_, .int (o3 (64 * (d - 1) + k)), .int (nI (64 * (d - 1) + k)), .ref on_]) (ci := 5) ⟨hx, hb, hml, hown, hts⟩ (c_X5_behind (m0 := m0) (pg := pg) (rd := rd) (ro := ro) (fa := fa) (wo := wo) (ah := ah) (he := he) (wy := wy) (on_ := on_) (pa := pa) (kr := kr) (kn := kn) (kh := kh) (sr := sr) (sn := sn) (n := n) (N := N) (t := t) (rmy := rmy) (rpt := rpt) (sta := sta) (pt := pt) (nw := nI k0) (ou := ou) (si := si) (en := en) (w0 := w0) (w1 := w1) (br := br) (cr := cr) (pf := pf) (kt := kt) (kc := kc) (sd := sd) (ha := ha) (r := r) (sx := sx) (k := k) (by first | assumption | omega) (by first | assumption | omega) (by first | assumption | omega) _) (cwV 2 hts gX5_layWays_X5_behind rfl rfl rfl (by decide +kernel) ⟨Nat.le_of_ble_eq_true rfl, Nat.le_of_ble_eq_true rfl⟩) hK hP hD hN [0, 1] rfl rfl rfl rfl rfl hl.1 rfl (Nat.le_of_ble_eq_true rfl) dX5_layWays_301 ⟨Nat.zero_le _, Nat.zero_le _⟩) hP hD hS hA [0, 1] rfl (fun r_75 u_76 H locs hq_74 hP hS => ?_)
                                              obtain rfl : r_75 = nI (mBeh r N sx k) := hq_74
                                              refine lv_iadd hx hb dX5_layWays_304 ?_
                                              refine z_top (y := nI (64 * (d - 1) + 64 + mBeh r N sx k)) (z_6464 (d - 1) _) ?_
                                              refine va_iald hx hb hK hP 4 0 rfl rfl (z_inN (by have := mBeh_64 (r := r) (show k < 64 by omega) (show sx < N by omega) h5; omega) (by decide)) dX5_layWays_305 ?_
                                              refine z_top (y := o3 (64 * (d - 1) + 64 + mBeh r N sx k)) (by rw [z_nat (by have := mBeh_64 (r := r) (show k < 64 by omega) (show sx < N by omega) h5; omega)]) ?_
                                              refine lv_iadd hx hb dX5_layWays_306 ?_
                                              refine va_iast hx hb hK hP hD hS 4 0 rfl rfl (z_inN (by omega) (by decide)) dX5_layWays_307 (fun H locs hP hD hS => ?_)
                                              have hP : va_P D vwCl [(m0, .inr (5, [.ref pg, .int (nI n), .ref rd, .int rmy, .int rpt, .int sta, .int (nI N), .int pt, .int (nI k0), .int ou, .int si, .int en, .int w0, .int w1, .int br, .int cr, .ref ro, .ref fa, .ref wo, .ref ah, .int pf, .int (nI t), .ref he, .ref wy, .ref on_, .ref pa, .ref kr, .ref kn, .ref kh, .int kt, .int kc, .int sd, .ref sr, .ref sn, .long ha])), (ro, .inl (cA, 15, .inl r)), (he, .inl (cA, 16, .inl he_)), (wy, .inl (cA, 448, .inl g)), (on_, .inl (cA, 448, .inl (upd o3 (Int32.toNatClampNeg (nI (64 * (d - 1) + k))) ((o3 (64 * (d - 1) + k)) + (o3 (64 * (d - 1) + 64 + mBeh r N sx k))))))] H := hP
                                              have hD : va_D A [(m0, .inr (5, [.ref pg, .int (nI n), .ref rd, .int rmy, .int rpt, .int sta, .int (nI N), .int pt, .int (nI k0), .int ou, .int si, .int en, .int w0, .int w1, .int br, .int cr, .ref ro, .ref fa, .ref wo, .ref ah, .int pf, .int (nI t), .ref he, .ref wy, .ref on_, .ref pa, .ref kr, .ref kn, .ref kh, .int kt, .int kc, .int sd, .ref sr, .ref sn, .long ha])), (ro, .inl (cA, 15, .inl r)), (he, .inl (cA, 16, .inl he_)), (wy, .inl (cA, 448, .inl g)), (on_, .inl (cA, 448, .inl (upd o3 (Int32.toNatClampNeg (nI (64 * (d - 1) + k))) ((o3 (64 * (d - 1) + k)) + (o3 (64 * (d - 1) + 64 + mBeh r N sx k))))))] := hD
                                              rw [show upd o3 (Int32.toNatClampNeg (nI (64 * (d - 1) + k))) ((o3 (64 * (d - 1) + k)) + (o3 (64 * (d - 1) + 64 + mBeh r N sx k))) = upd o3 (64 * (d - 1) + k) ((o3 (64 * (d - 1) + k)) + (o3 (64 * (d - 1) + 64 + mBeh r N sx k))) from by rw [z_nat (by omega)]] at hP hD
                                              refine lv_iinc (v := nI (sx + 1)) (lv' := [(4, .int (nI (sx + 1))), (0, .ref m0), (1, .int (nI nb)), (2, .int (nI (d - 1))), (3, .int (nI k))]) hx hb dX5_layWays_308 hl (k := 4) rfl (nI_1 sx) (by decide) rfl (fun ls hl => ?_)
                                              refine lv_goto (tgt := 229) hx hb dX5_layWays_311 (by decide) ?_
                                              exact ih60 (sx + 1) (upd o3 (64 * (d - 1) + k) ((o3 (64 * (d - 1) + k)) + (o3 (64 * (d - 1) + 64 + mBeh r N sx k)))) (by omega) (by first | assumption | omega) (by clear hret hl hS hD hP hK hA hN hts hx hb hr hml hown hlocks hiX5 ih1 ih52 ih54 ih56 ih58 ih60; rw [mO1, ← ho3]; first | (rw [if_pos (by simp_all [mOk])]; done) | (rw [if_neg (by simp_all [mOk])]; done)) _ _ _ hP hD hS (lv_sub hl [1, 2, 3, 4, 0] rfl)
                                  exact L229 (N + 1) 0 o2 (by omega) (by first | assumption | omega) (by rfl) _ _ _ hP hD hS (lv_sub hl [1, 2, 3, 4, 0] rfl)
                            exact L220 65 0 o1 (by omega) (by first | assumption | omega) (by rfl) _ _ _ hP hD hS (lv_sub hl [1, 2, 3, 0] rfl)
                      exact L214 (nb + 1) nb (mO3 r N ou he_ t nb 0) (by omega) (by first | assumption | omega) (by clear hret hl hS hD hP hK hA hN hts hx hb hr hml hown hlocks hiX5 ih1 ih52 ih54 L214; rw [Nat.sub_self]) _ _ _ hP hD hS (lv_sub hl [1, 2, 0] rfl)
                    · skip
                      have hltq : q < 64 := Nat.lt_of_not_le (fun q_ => c189_55 ((nI_leI (a := 64) (b := q) (by omega) (by omega)).mpr q_))
                      refine lv_aload_n hx hb dX5_layWays_192 rfl (lv_at hl 0 rfl) ?_
                      refine va_get (D := D) (ci := 5) (v := .ref on_) (C := RX5) (T := TX5) (N := 35) hx hb hts hiX5 hown hK hP 0 rfl rfl 24 (by decide) (hts (.fieldLink RX5 34 "HeardSecondModel" "onward" "[I") (by decide +kernel)) (fun _ h9 => h9) rfl dX5_layWays_193 ?_
                      refine lv_bipush (v := 64) hx hb dX5_layWays_196 (by decide) ?_
                      refine lv_iload_n hx hb dX5_layWays_198 rfl (lv_at hl 1 rfl) ?_
                      refine lv_imul hx hb dX5_layWays_199 ?_
                      refine lv_iload_n hx hb dX5_layWays_200 rfl (lv_at hl 2 rfl) ?_
                      refine lv_iadd hx hb dX5_layWays_201 ?_
                      refine z_top (y := nI (64 * nb + q)) (z_64 nb q) ?_
                      refine lv_iconst (v := 1) hx hb dX5_layWays_202 (by decide) ?_
                      refine va_iast hx hb hK hP hD hS 4 0 rfl rfl (z_inN (by omega) (by decide)) dX5_layWays_203 (fun H locs hP hD hS => ?_)
                      have hP : va_P D vwCl [(m0, .inr (5, [.ref pg, .int (nI n), .ref rd, .int rmy, .int rpt, .int sta, .int (nI N), .int pt, .int (nI k0), .int ou, .int si, .int en, .int w0, .int w1, .int br, .int cr, .ref ro, .ref fa, .ref wo, .ref ah, .int pf, .int (nI t), .ref he, .ref wy, .ref on_, .ref pa, .ref kr, .ref kn, .ref kh, .int kt, .int kc, .int sd, .ref sr, .ref sn, .long ha])), (ro, .inl (cA, 15, .inl r)), (he, .inl (cA, 16, .inl he_)), (wy, .inl (cA, 448, .inl g)), (on_, .inl (cA, 448, .inl (upd q2 (Int32.toNatClampNeg (nI (64 * nb + q))) 1)))] H := hP
                      have hD : va_D A [(m0, .inr (5, [.ref pg, .int (nI n), .ref rd, .int rmy, .int rpt, .int sta, .int (nI N), .int pt, .int (nI k0), .int ou, .int si, .int en, .int w0, .int w1, .int br, .int cr, .ref ro, .ref fa, .ref wo, .ref ah, .int pf, .int (nI t), .ref he, .ref wy, .ref on_, .ref pa, .ref kr, .ref kn, .ref kh, .int kt, .int kc, .int sd, .ref sr, .ref sn, .long ha])), (ro, .inl (cA, 15, .inl r)), (he, .inl (cA, 16, .inl he_)), (wy, .inl (cA, 448, .inl g)), (on_, .inl (cA, 448, .inl (upd q2 (Int32.toNatClampNeg (nI (64 * nb + q))) 1)))] := hD
                      rw [show upd q2 (Int32.toNatClampNeg (nI (64 * nb + q))) 1 = upd q2 (64 * nb + q) 1 from by rw [z_nat (by omega)]] at hP hD
                      refine lv_iinc (v := nI (q + 1)) (lv' := [(2, .int (nI (q + 1))), (0, .ref m0), (1, .int (nI nb))]) hx hb dX5_layWays_204 hl (k := 2) rfl (nI_1 q) (by decide) rfl (fun ls hl => ?_)
                      refine lv_goto (tgt := 186) hx hb dX5_layWays_207 (by decide) ?_
                      exact ih54 (q + 1) (upd q2 (64 * nb + q) 1) (by omega) (by first | assumption | omega) (by clear hret hl hS hD hP hK hA hN hts hx hb hr hml hown hlocks hiX5 ih1 ih52 ih54; exact mO0_step (nb := nb) (q := q) hq2) _ _ _ hP hD hS (lv_sub hl [1, 2, 0] rfl)
                exact L186 65 0 (fun _ => 0) (by omega) (by first | assumption | omega) (by clear hret hl hS hD hP hK hA hN hts hx hb hr hml hown hlocks hiX5 ih1 ih52 L186; intro j hj; rw [if_neg (by omega)]) _ _ _ hP hD hS (lv_sub hl [1, 2, 0] rfl)
              · skip
                have hltnn : nn < nb := Nat.lt_of_not_le (fun q_ => c59_53 ((nI_leI (a := nb) (b := nn) (by omega) (by omega)).mpr q_))
                refine lv_iconst (v := nI 0) hx hb dX5_layWays_62 (by decide) ?_
                refine lv_istore_n (lv' := [(3, .int (nI 0)), (0, .ref m0), (1, .int (nI nb)), (2, .int (nI nn))]) hx hb dX5_layWays_63 rfl hl (by decide) rfl (fun ls hl => ?_)
                have L64 : ∀ (n_ : Nat) (k : Nat) (g2_ : Nat → Int32) (hm_ : 65 ≤ k + n_) (hk : k ≤ 64) (h2_ : g2_ = mY2 r N ou he_ t nn g k) (H : Heap) (locs : List Loc) (ls : Array Slot), va_P D vwCl [(m0, .inr (5, [.ref pg, .int (nI n), .ref rd, .int rmy, .int rpt, .int sta, .int (nI N), .int pt, .int (nI k0), .int ou, .int si, .int en, .int w0, .int w1, .int br, .int cr, .ref ro, .ref fa, .ref wo, .ref ah, .int pf, .int (nI t), .ref he, .ref wy, .ref on_, .ref pa, .ref kr, .ref kn, .ref kh, .int kt, .int kc, .int sd, .ref sr, .ref sn, .long ha])), (ro, .inl (cA, 15, .inl r)), (he, .inl (cA, 16, .inl he_)), (wy, .inl (cA, 448, .inl g2_)), (on_, .inl (cA, 448, .inl (fun _ => 0)))] H → va_D A [(m0, .inr (5, [.ref pg, .int (nI n), .ref rd, .int rmy, .int rpt, .int sta, .int (nI N), .int pt, .int (nI k0), .int ou, .int si, .int en, .int w0, .int w1, .int br, .int cr, .ref ro, .ref fa, .ref wo, .ref ah, .int pf, .int (nI t), .ref he, .ref wy, .ref on_, .ref pa, .ref kr, .ref kn, .ref kh, .int kt, .int kc, .int sd, .ref sr, .ref sn, .long ha])), (ro, .inl (cA, 15, .inl r)), (he, .inl (cA, 16, .inl he_)), (wy, .inl (cA, 448, .inl g2_)), (on_, .inl (cA, 448, .inl (fun _ => 0)))] → va_S A H0 H locs → lv_has ls 5 [(0, .ref m0), (1, .int (nI nb)), (2, .int (nI nn)), (3, .int (nI k))] → W p l e rm_c_X5_layWays s m args below meth c H locs 0 0 Q (F0 m 64 ls []) := by
                  intro n_
                  induction n_ with
                  | zero =>
                    intro k g2_ hm_ hk h2_
                    exact absurd hm_ (by omega)
                  | succ n_ ih_ =>
                    intro k g2_ hm_ hk h2_ H locs ls hP hD hS hl
                    have ih77 := ih_
                    clear ih_
                    refine lv_iload_n hx hb dX5_layWays_64 rfl (lv_at hl 3 rfl) ?_
                    refine lv_bipush (v := 64) hx hb dX5_layWays_65 (by decide) ?_
                    refine lv_icmp_ge (tgt := 178) hx hb dX5_layWays_67 (by decide) (fun c67_78 => ?_) (fun c67_78 => ?_)
                    · skip
                      have ht_ : k = 64 := by have := (nI_leI (a := 64) (b := k) (by omega) (by omega)).mp c67_78; omega
                      refine lv_iinc (v := nI (nn + 1)) (lv' := [(2, .int (nI (nn + 1))), (0, .ref m0), (1, .int (nI nb)), (3, .int (nI k))]) hx hb dX5_layWays_178 hl (k := 2) rfl (nI_1 nn) (by decide) rfl (fun ls hl => ?_)
                      refine lv_goto (tgt := 57) hx hb dX5_layWays_181 (by decide) ?_
                      exact ih52 (nn + 1) g2_ (by omega) (by first | assumption | omega) (by clear hret hl hS hD hP hK hA hN hts hx hb hr hml hown hlocks hiX5 ih1 ih52 ih77; rw [mY3, ← hg, h2_, ht_]) _ _ _ hP hD hS (lv_sub hl [1, 2, 0] rfl)
                    · skip
                      have hltk : k < 64 := Nat.lt_of_not_le (fun q_ => c67_78 ((nI_leI (a := 64) (b := k) (by omega) (by omega)).mpr q_))
                      refine lv_iconst (v := nI 0) hx hb dX5_layWays_70 (by decide) ?_
                      refine lv_istore (lv' := [(4, .int (nI 0)), (0, .ref m0), (1, .int (nI nb)), (2, .int (nI nn)), (3, .int (nI k))]) hx hb dX5_layWays_71 hl (by decide) rfl (fun ls hl => ?_)
                      have L73 : ∀ (n_ : Nat) (sx : Nat) (g3 : Nat → Int32) (hm_ : N + 1 ≤ sx + n_) (hs : sx ≤ N) (h3_ : g3 = mY1 r N ou he_ t nn k g2_ sx) (H : Heap) (locs : List Loc) (ls : Array Slot), va_P D vwCl [(m0, .inr (5, [.ref pg, .int (nI n), .ref rd, .int rmy, .int rpt, .int sta, .int (nI N), .int pt, .int (nI k0), .int ou, .int si, .int en, .int w0, .int w1, .int br, .int cr, .ref ro, .ref fa, .ref wo, .ref ah, .int pf, .int (nI t), .ref he, .ref wy, .ref on_, .ref pa, .ref kr, .ref kn, .ref kh, .int kt, .int kc, .int sd, .ref sr, .ref sn, .long ha])), (ro, .inl (cA, 15, .inl r)), (he, .inl (cA, 16, .inl he_)), (wy, .inl (cA, 448, .inl g3)), (on_, .inl (cA, 448, .inl (fun _ => 0)))] H → va_D A [(m0, .inr (5, [.ref pg, .int (nI n), .ref rd, .int rmy, .int rpt, .int sta, .int (nI N), .int pt, .int (nI k0), .int ou, .int si, .int en, .int w0, .int w1, .int br, .int cr, .ref ro, .ref fa, .ref wo, .ref ah, .int pf, .int (nI t), .ref he, .ref wy, .ref on_, .ref pa, .ref kr, .ref kn, .ref kh, .int kt, .int kc, .int sd, .ref sr, .ref sn, .long ha])), (ro, .inl (cA, 15, .inl r)), (he, .inl (cA, 16, .inl he_)), (wy, .inl (cA, 448, .inl g3)), (on_, .inl (cA, 448, .inl (fun _ => 0)))] → va_S A H0 H locs → lv_has ls 5 [(0, .ref m0), (1, .int (nI nb)), (2, .int (nI nn)), (3, .int (nI k)), (4, .int (nI sx))] → W p l e rm_c_X5_layWays s m args below meth c H locs 0 0 Q (F0 m 73 ls []) := by
                        intro n_
                        induction n_ with
                        | zero =>
                          intro sx g3 hm_ hs h3_
                          exact absurd hm_ (by omega)
                        | succ n_ ih_ =>
                          intro sx g3 hm_ hs h3_ H locs ls hP hD hS hl
                          have ih79 := ih_
                          clear ih_
                          refine lv_iload hx hb dX5_layWays_73 (lv_at hl 4 rfl) ?_
                          refine lv_aload_n hx hb dX5_layWays_75 rfl (lv_at hl 0 rfl) ?_
                          refine va_get (D := D) (ci := 5) (v := .int (nI N)) (C := RX5) (T := TX5) (N := 35) hx hb hts hiX5 hown hK hP 0 rfl rfl 6 (by decide) (hts (.fieldLink RX5 94 "HeardSecondModel" "seats" "I") (by decide +kernel)) (fun _ h9 => h9) rfl dX5_layWays_76 ?_
                          refine lv_icmp_ge (tgt := 172) hx hb dX5_layWays_79 (by decide) (fun c79_80 => ?_) (fun c79_80 => ?_)
                          · skip
                            have ht_ : sx = N := by have := (nI_leI (a := N) (b := sx) (by omega) (by omega)).mp c79_80; omega
                            refine lv_iinc (v := nI (k + 1)) (lv' := [(3, .int (nI (k + 1))), (0, .ref m0), (1, .int (nI nb)), (2, .int (nI nn)), (4, .int (nI sx))]) hx hb dX5_layWays_172 hl (k := 3) rfl (nI_1 k) (by decide) rfl (fun ls hl => ?_)
                            refine lv_goto (tgt := 64) hx hb dX5_layWays_175 (by decide) ?_
                            exact ih77 (k + 1) g3 (by omega) (by first | assumption | omega) (by clear hret hl hS hD hP hK hA hN hts hx hb hr hml hown hlocks hiX5 ih1 ih52 ih77 ih79; rw [mY2, ← h2_]; first | exact h3_.trans (congrArg (mY1 r N ou he_ t nn k g2_) ht_) | (subst h3_; exact mY1_end hle_ hs)) _ _ _ hP hD hS (lv_sub hl [1, 2, 3, 0] rfl)
                          · skip
                            have hltsx : sx < N := Nat.lt_of_not_le (fun q_ => c79_80 ((nI_leI (a := N) (b := sx) (by omega) (by omega)).mpr q_))
                            refine lv_aload_n hx hb dX5_layWays_82 rfl (lv_at hl 0 rfl) ?_
                            refine va_get (D := D) (ci := 5) (v := .ref wy) (C := RX5) (T := TX5) (N := 35) hx hb hts hiX5 hown hK hP 0 rfl rfl 23 (by decide) (hts (.fieldLink RX5 31 "HeardSecondModel" "ways" "[I") (by decide +kernel)) (fun _ h9 => h9) rfl dX5_layWays_83 ?_
                            refine lv_bipush (v := 64) hx hb dX5_layWays_86 (by decide) ?_
                            refine lv_iload_n hx hb dX5_layWays_88 rfl (lv_at hl 2 rfl) ?_
                            refine lv_imul hx hb dX5_layWays_89 ?_
                            refine lv_iload_n hx hb dX5_layWays_90 rfl (lv_at hl 3 rfl) ?_
                            refine lv_iadd hx hb dX5_layWays_91 ?_
                            refine z_top (y := nI (64 * nn + k)) (z_64 nn k) ?_
                            refine va_iald hx hb hK hP 3 0 rfl rfl (z_inN (by omega) (by decide)) dX5_layWays_92 ?_
                            refine z_top (y := g3 (64 * nn + k)) (by rw [z_nat (by omega)]) ?_
                            refine lv_if_le (tgt := 172) hx hb dX5_layWays_93 (by decide) (fun c93_81 => ?_) (fun c93_81 => ?_)
                            · skip
                              have hle_ : ¬ 0 < g3 (64 * nn + k) := Int32.not_lt.mpr c93_81
                              refine lv_iinc (v := nI (k + 1)) (lv' := [(3, .int (nI (k + 1))), (0, .ref m0), (1, .int (nI nb)), (2, .int (nI nn)), (4, .int (nI sx))]) hx hb dX5_layWays_172 hl (k := 3) rfl (nI_1 k) (by decide) rfl (fun ls hl => ?_)
                              refine lv_goto (tgt := 64) hx hb dX5_layWays_175 (by decide) ?_
                              exact ih77 (k + 1) g3 (by omega) (by first | assumption | omega) (by clear hret hl hS hD hP hK hA hN hts hx hb hr hml hown hlocks hiX5 ih1 ih52 ih77 ih79; rw [mY2, ← h2_]; first | exact h3_.trans (congrArg (mY1 r N ou he_ t nn k g2_) ht_) | (subst h3_; exact mY1_end hle_ hs)) _ _ _ hP hD hS (lv_sub hl [1, 2, 3, 0] rfl)
                            · skip
                              have hgt_ : 0 < g3 (64 * nn + k) := Int32.not_le.mp c93_81
                              refine lv_aload_n hx hb dX5_layWays_96 rfl (lv_at hl 0 rfl) ?_
                              refine lv_iload hx hb dX5_layWays_97 (lv_at hl 4 rfl) ?_
                              refine lv_iload_n hx hb dX5_layWays_99 rfl (lv_at hl 3 rfl) ?_
                              refine z_bri (z_runV (As := [.int (nI sx), .int (nI k)]) (rest := []) (ci := 5) ⟨hx, hb, hml, hown, hts⟩ (c_X5_counts (m0 := m0) (pg := pg) (rd := rd) (ro := ro) (fa := fa) (wo := wo) (ah := ah) (he := he) (wy := wy) (on_ := on_) (pa := pa) (kr := kr) (kn := kn) (kh := kh) (sr := sr) (sn := sn) (n := n) (N := N) (t := t) (rmy := rmy) (rpt := rpt) (sta := sta) (pt := pt) (nw := nI k0) (ou := ou) (si := si) (en := en) (w0 := w0) (w1 := w1) (br := br) (cr := cr) (pf := pf) (kt := kt) (kc := kc) (sd := sd) (ha := ha) (r := r) (sx := sx) (k := k) (by first | assumption | omega) (by first | assumption | omega) _) (cwV 2 hts gX5_layWays_X5_counts rfl rfl rfl (by decide +kernel) ⟨Nat.le_of_ble_eq_true rfl, Nat.le_of_ble_eq_true rfl⟩) hK hP hD hN [0, 1] rfl rfl rfl rfl rfl hl.1 rfl (Nat.le_of_ble_eq_true rfl) dX5_layWays_100 ⟨Nat.zero_le _, Nat.zero_le _⟩) hP hD hS hA [0, 1] rfl (fun r_83 u_84 H locs hq_82 hP hS => ?_)
                              obtain rfl : r_83 = bI (mCounts r ou sx k) := hq_82
                              refine lv_if_eq (tgt := 166) hx hb dX5_layWays_103 (by decide) (fun c103_85 => ?_) (fun c103_85 => ?_)
                              · skip
                                have c103_85 := bI_0.mp c103_85
                                refine lv_iinc (v := nI (sx + 1)) (lv' := [(4, .int (nI (sx + 1))), (0, .ref m0), (1, .int (nI nb)), (2, .int (nI nn)), (3, .int (nI k))]) hx hb dX5_layWays_166 hl (k := 4) rfl (nI_1 sx) (by decide) rfl (fun ls hl => ?_)
                                refine lv_goto (tgt := 73) hx hb dX5_layWays_169 (by decide) ?_
                                exact ih79 (sx + 1) g3 (by omega) (by first | assumption | omega) (by clear hret hl hS hD hP hK hA hN hts hx hb hr hml hown hlocks hiX5 ih1 ih52 ih77 ih79; rw [mY1, ← h3_, if_pos hgt_]; first | (rw [if_pos (by simp_all [mOk])]; done) | (rw [if_neg (by simp_all [mOk])]; done)) _ _ _ hP hD hS (lv_sub hl [1, 2, 3, 4, 0] rfl)
                              · skip
                                have c103_85 := bI_n0.mp c103_85
                                refine lv_iload_n hx hb dX5_layWays_106 rfl (lv_at hl 3 rfl) ?_
                                refine lv_bipush (v := 8) hx hb dX5_layWays_107 (by decide) ?_
                                refine lv_idiv hx hb dX5_layWays_109 (by decide) ?_
                                refine z_top (y := nI (k / 8)) (z_d8 k (by omega)) ?_
                                refine lv_iload hx hb dX5_layWays_110 (lv_at hl 4 rfl) ?_
                                refine lv_icmp_eq (tgt := 166) hx hb dX5_layWays_112 (by decide) (fun c112_86 => ?_) (fun c112_86 => ?_)
                                · skip
                                  have e8_ := (nI_eq (a := k / 8) (b := sx) (by omega) (by omega)).mp c112_86
                                  refine lv_iinc (v := nI (sx + 1)) (lv' := [(4, .int (nI (sx + 1))), (0, .ref m0), (1, .int (nI nb)), (2, .int (nI nn)), (3, .int (nI k))]) hx hb dX5_layWays_166 hl (k := 4) rfl (nI_1 sx) (by decide) rfl (fun ls hl => ?_)
                                  refine lv_goto (tgt := 73) hx hb dX5_layWays_169 (by decide) ?_
                                  exact ih79 (sx + 1) g3 (by omega) (by first | assumption | omega) (by clear hret hl hS hD hP hK hA hN hts hx hb hr hml hown hlocks hiX5 ih1 ih52 ih77 ih79; rw [mY1, ← h3_, if_pos hgt_]; first | (rw [if_pos (by simp_all [mOk])]; done) | (rw [if_neg (by simp_all [mOk])]; done)) _ _ _ hP hD hS (lv_sub hl [1, 2, 3, 4, 0] rfl)
                                · skip
                                  have e8_ : ¬ k / 8 = sx := fun q_ => c112_86 (by rw [q_]; try rfl)
                                  refine lv_aload_n hx hb dX5_layWays_115 rfl (lv_at hl 0 rfl) ?_
                                  refine lv_iload_n hx hb dX5_layWays_116 rfl (lv_at hl 2 rfl) ?_
                                  refine lv_iconst (v := 1) hx hb dX5_layWays_117 (by decide) ?_
                                  refine lv_iadd hx hb dX5_layWays_118 ?_
                                  refine z_top (y := nI (nn + 1)) (nI_1 nn) ?_
                                  refine lv_aload_n hx hb dX5_layWays_119 rfl (lv_at hl 0 rfl) ?_
                                  refine lv_iload hx hb dX5_layWays_120 (lv_at hl 4 rfl) ?_
                                  refine lv_iload_n hx hb dX5_layWays_122 rfl (lv_at hl 3 rfl) ?_
                                  refine z_bri (z_runV (As := [.int (nI sx), .int (nI k)]) (rest := [.int (nI (nn + 1)), .ref m0]) (ci := 5) ⟨hx, hb, hml, hown, hts⟩ (c_X5_behind (m0 := m0) (pg := pg) (rd := rd) (ro := ro) (fa := fa) (wo := wo) (ah := ah) (he := he) (wy := wy) (on_ := on_) (pa := pa) (kr := kr) (kn := kn) (kh := kh) (sr := sr) (sn := sn) (n := n) (N := N) (t := t) (rmy := rmy) (rpt := rpt) (sta := sta) (pt := pt) (nw := nI k0) (ou := ou) (si := si) (en := en) (w0 := w0) (w1 := w1) (br := br) (cr := cr) (pf := pf) (kt := kt) (kc := kc) (sd := sd) (ha := ha) (r := r) (sx := sx) (k := k) (by first | assumption | omega) (by first | assumption | omega) (by first | assumption | omega) _) (cwV 2 hts gX5_layWays_X5_behind rfl rfl rfl (by decide +kernel) ⟨Nat.le_of_ble_eq_true rfl, Nat.le_of_ble_eq_true rfl⟩) hK hP hD hN [0, 1] rfl rfl rfl rfl rfl hl.1 rfl (Nat.le_of_ble_eq_true rfl) dX5_layWays_123 ⟨Nat.zero_le _, Nat.zero_le _⟩) hP hD hS hA [0, 1] rfl (fun r_88 u_89 H locs hq_87 hP hS => ?_)
                                  obtain rfl : r_88 = nI (mBeh r N sx k) := hq_87
                                  refine z_bri (z_runV (As := [.int (nI (nn + 1)), .int (nI (mBeh r N sx k))]) (rest := []) (ci := 5) ⟨hx, hb, hml, hown, hts⟩ (c_X5_isHeard (m0 := m0) (pg := pg) (rd := rd) (ro := ro) (fa := fa) (wo := wo) (ah := ah) (he := he) (wy := wy) (on_ := on_) (pa := pa) (kr := kr) (kn := kn) (kh := kh) (sr := sr) (sn := sn) (n := n) (N := N) (t := t) (rmy := rmy) (rpt := rpt) (sta := sta) (pt := pt) (nw := nI k0) (ou := ou) (si := si) (en := en) (w0 := w0) (w1 := w1) (br := br) (cr := cr) (pf := pf) (kt := kt) (kc := kc) (sd := sd) (ha := ha) (he_ := he_) (x := nI (nn + 1)) (k := mBeh r N sx k) (by first | assumption | omega) (by exact mBeh_64 (r := r) (show k < 64 by omega) (show sx < N by omega) h5) _) (cwV 2 hts gX5_layWays_X5_isHeard rfl rfl rfl (by decide +kernel) ⟨Nat.le_of_ble_eq_true rfl, Nat.le_of_ble_eq_true rfl⟩) hK hP hD hN [0, 2] rfl rfl rfl rfl rfl hl.1 rfl (Nat.le_of_ble_eq_true rfl) dX5_layWays_126 ⟨Nat.zero_le _, Nat.zero_le _⟩) hP hD hS hA [0, 2] rfl (fun r_91 u_92 H locs hq_90 hP hS => ?_)
                                  obtain rfl : r_91 = bI (mHeard he_ (nI (nn + 1)) (mBeh r N sx k) t) := hq_90
                                  refine lv_if_eq (tgt := 166) hx hb dX5_layWays_129 (by decide) (fun c129_93 => ?_) (fun c129_93 => ?_)
                                  · skip
                                    have c129_93 := bI_0.mp c129_93
                                    refine lv_iinc (v := nI (sx + 1)) (lv' := [(4, .int (nI (sx + 1))), (0, .ref m0), (1, .int (nI nb)), (2, .int (nI nn)), (3, .int (nI k))]) hx hb dX5_layWays_166 hl (k := 4) rfl (nI_1 sx) (by decide) rfl (fun ls hl => ?_)
                                    refine lv_goto (tgt := 73) hx hb dX5_layWays_169 (by decide) ?_
                                    exact ih79 (sx + 1) g3 (by omega) (by first | assumption | omega) (by clear hret hl hS hD hP hK hA hN hts hx hb hr hml hown hlocks hiX5 ih1 ih52 ih77 ih79; rw [mY1, ← h3_, if_pos hgt_]; first | (rw [if_pos (by simp_all [mOk])]; done) | (rw [if_neg (by simp_all [mOk])]; done)) _ _ _ hP hD hS (lv_sub hl [1, 2, 3, 4, 0] rfl)
                                  · skip
                                    have c129_93 := bI_n0.mp c129_93
                                    refine lv_aload_n hx hb dX5_layWays_132 rfl (lv_at hl 0 rfl) ?_
                                    refine va_get (D := D) (ci := 5) (v := .ref wy) (C := RX5) (T := TX5) (N := 35) hx hb hts hiX5 hown hK hP 0 rfl rfl 23 (by decide) (hts (.fieldLink RX5 31 "HeardSecondModel" "ways" "[I") (by decide +kernel)) (fun _ h9 => h9) rfl dX5_layWays_133 ?_
                                    refine lv_bipush (v := 64) hx hb dX5_layWays_136 (by decide) ?_
                                    refine lv_iload_n hx hb dX5_layWays_138 rfl (lv_at hl 2 rfl) ?_
                                    refine lv_imul hx hb dX5_layWays_139 ?_
                                    refine lv_bipush (v := 64) hx hb dX5_layWays_140 (by decide) ?_
                                    refine lv_iadd hx hb dX5_layWays_142 ?_
                                    refine lv_aload_n hx hb dX5_layWays_143 rfl (lv_at hl 0 rfl) ?_
                                    refine lv_iload hx hb dX5_layWays_144 (lv_at hl 4 rfl) ?_
                                    refine lv_iload_n hx hb dX5_layWays_146 rfl (lv_at hl 3 rfl) ?_
                                    refine z_bri (z_runV (As := [.int (nI sx), .int (nI k)]) (rest := [.int ((64 * (nI nn)) + 64), .ref wy]) (ci := 5) ⟨hx, hb, hml, hown, hts⟩ (c_X5_behind (m0 := m0) (pg := pg) (rd := rd) (ro := ro) (fa := fa) (wo := wo) (ah := ah) (he := he) (wy := wy) (on_ := on_) (pa := pa) (kr := kr) (kn := kn) (kh := kh) (sr := sr) (sn := sn) (n := n) (N := N) (t := t) (rmy := rmy) (rpt := rpt) (sta := sta) (pt := pt) (nw := nI k0) (ou := ou) (si := si) (en := en) (w0 := w0) (w1 := w1) (br := br) (cr := cr) (pf := pf) (kt := kt) (kc := kc) (sd := sd) (ha := ha) (r := r) (sx := sx) (k := k) (by first | assumption | omega) (by first | assumption | omega) (by first | assumption | omega) _) (cwV 2 hts gX5_layWays_X5_behind rfl rfl rfl (by decide +kernel) ⟨Nat.le_of_ble_eq_true rfl, Nat.le_of_ble_eq_true rfl⟩) hK hP hD hN [0, 1] rfl rfl rfl rfl rfl hl.1 rfl (Nat.le_of_ble_eq_true rfl) dX5_layWays_147 ⟨Nat.zero_le _, Nat.zero_le _⟩) hP hD hS hA [0, 1] rfl (fun r_95 u_96 H locs hq_94 hP hS => ?_)
                                    obtain rfl : r_95 = nI (mBeh r N sx k) := hq_94
                                    refine lv_iadd hx hb dX5_layWays_150 ?_
                                    refine z_top (y := nI (64 * nn + 64 + mBeh r N sx k)) (z_6464 nn _) ?_
                                    refine lv_dup2_11 hx hb dX5_layWays_151 rfl rfl ?_
                                    refine va_iald hx hb hK hP 3 0 rfl rfl (z_inN (by have := mBeh_64 (r := r) (show k < 64 by omega) (show sx < N by omega) h5; omega) (by decide)) dX5_layWays_152 ?_
                                    refine z_top (y := g3 (64 * nn + 64 + mBeh r N sx k)) (by rw [z_nat (by have := mBeh_64 (r := r) (show k < 64 by omega) (show sx < N by omega) h5; omega)]) ?_
                                    refine lv_aload_n hx hb dX5_layWays_153 rfl (lv_at hl 0 rfl) ?_
                                    refine va_get (D := D) (ci := 5) (v := .ref wy) (C := RX5) (T := TX5) (N := 35) hx hb hts hiX5 hown hK hP 0 rfl rfl 23 (by decide) (hts (.fieldLink RX5 31 "HeardSecondModel" "ways" "[I") (by decide +kernel)) (fun _ h9 => h9) rfl dX5_layWays_154 ?_
                                    refine lv_bipush (v := 64) hx hb dX5_layWays_157 (by decide) ?_
                                    refine lv_iload_n hx hb dX5_layWays_159 rfl (lv_at hl 2 rfl) ?_
                                    refine lv_imul hx hb dX5_layWays_160 ?_
                                    refine lv_iload_n hx hb dX5_layWays_161 rfl (lv_at hl 3 rfl) ?_
                                    refine lv_iadd hx hb dX5_layWays_162 ?_
                                    refine z_top (y := nI (64 * nn + k)) (z_64 nn k) ?_
                                    refine va_iald hx hb hK hP 3 0 rfl rfl (z_inN (by omega) (by decide)) dX5_layWays_163 ?_
                                    refine z_top (y := g3 (64 * nn + k)) (by rw [z_nat (by omega)]) ?_
                                    refine lv_iadd hx hb dX5_layWays_164 ?_
                                    refine va_iast hx hb hK hP hD hS 3 0 rfl rfl (z_inN (by have := mBeh_64 (r := r) (show k < 64 by omega) (show sx < N by omega) h5; omega) (by decide)) dX5_layWays_165 (fun H locs hP hD hS => ?_)
                                    have hP : va_P D vwCl [(m0, .inr (5, [.ref pg, .int (nI n), .ref rd, .int rmy, .int rpt, .int sta, .int (nI N), .int pt, .int (nI k0), .int ou, .int si, .int en, .int w0, .int w1, .int br, .int cr, .ref ro, .ref fa, .ref wo, .ref ah, .int pf, .int (nI t), .ref he, .ref wy, .ref on_, .ref pa, .ref kr, .ref kn, .ref kh, .int kt, .int kc, .int sd, .ref sr, .ref sn, .long ha])), (ro, .inl (cA, 15, .inl r)), (he, .inl (cA, 16, .inl he_)), (wy, .inl (cA, 448, .inl (upd g3 (Int32.toNatClampNeg (nI (64 * nn + 64 + mBeh r N sx k))) ((g3 (64 * nn + 64 + mBeh r N sx k)) + (g3 (64 * nn + k)))))), (on_, .inl (cA, 448, .inl (fun _ => 0)))] H := hP
                                    have hD : va_D A [(m0, .inr (5, [.ref pg, .int (nI n), .ref rd, .int rmy, .int rpt, .int sta, .int (nI N), .int pt, .int (nI k0), .int ou, .int si, .int en, .int w0, .int w1, .int br, .int cr, .ref ro, .ref fa, .ref wo, .ref ah, .int pf, .int (nI t), .ref he, .ref wy, .ref on_, .ref pa, .ref kr, .ref kn, .ref kh, .int kt, .int kc, .int sd, .ref sr, .ref sn, .long ha])), (ro, .inl (cA, 15, .inl r)), (he, .inl (cA, 16, .inl he_)), (wy, .inl (cA, 448, .inl (upd g3 (Int32.toNatClampNeg (nI (64 * nn + 64 + mBeh r N sx k))) ((g3 (64 * nn + 64 + mBeh r N sx k)) + (g3 (64 * nn + k)))))), (on_, .inl (cA, 448, .inl (fun _ => 0)))] := hD
                                    rw [show upd g3 (Int32.toNatClampNeg (nI (64 * nn + 64 + mBeh r N sx k))) ((g3 (64 * nn + 64 + mBeh r N sx k)) + (g3 (64 * nn + k))) = upd g3 (64 * nn + 64 + mBeh r N sx k) (g3 (64 * nn + 64 + mBeh r N sx k) + g3 (64 * nn + k)) from by rw [z_nat (by have := mBeh_64 (r := r) (show k < 64 by omega) (show sx < N by omega) h5; omega)]] at hP hD
                                    refine lv_iinc (v := nI (sx + 1)) (lv' := [(4, .int (nI (sx + 1))), (0, .ref m0), (1, .int (nI nb)), (2, .int (nI nn)), (3, .int (nI k))]) hx hb dX5_layWays_166 hl (k := 4) rfl (nI_1 sx) (by decide) rfl (fun ls hl => ?_)
                                    refine lv_goto (tgt := 73) hx hb dX5_layWays_169 (by decide) ?_
                                    exact ih79 (sx + 1) (upd g3 (64 * nn + 64 + mBeh r N sx k) (g3 (64 * nn + 64 + mBeh r N sx k) + g3 (64 * nn + k))) (by omega) (by first | assumption | omega) (by clear hret hl hS hD hP hK hA hN hts hx hb hr hml hown hlocks hiX5 ih1 ih52 ih77 ih79; rw [mY1, ← h3_, if_pos hgt_]; first | (rw [if_pos (by simp_all [mOk])]; done) | (rw [if_neg (by simp_all [mOk])]; done)) _ _ _ hP hD hS (lv_sub hl [1, 2, 3, 4, 0] rfl)
                      exact L73 (N + 1) 0 g2_ (by omega) (by first | assumption | omega) (by rfl) _ _ _ hP hD hS (lv_sub hl [1, 2, 3, 4, 0] rfl)
                exact L64 65 0 g (by omega) (by first | assumption | omega) (by rfl) _ _ _ hP hD hS (lv_sub hl [1, 2, 3, 0] rfl)
          exact L57 (nb + 1) 0 (upd (fun _ => 0) k0 (bI (mHeard he_ 0 k0 t))) (by omega) (by first | assumption | omega) (by rfl) _ _ _ hP hD hS (lv_sub hl [1, 2, 0] rfl)
      · skip
        have hlti : i < 448 := Nat.lt_of_not_le (fun q_ => c6_2 ((nI_leI (a := 448) (b := i) (by omega) (by omega)).mpr q_))
        refine lv_aload_n hx hb dX5_layWays_9 rfl (lv_at hl 0 rfl) ?_
        refine va_get (D := D) (ci := 5) (v := .ref wy) (C := RX5) (T := TX5) (N := 35) hx hb hts hiX5 hown hK hP 0 rfl rfl 23 (by decide) (hts (.fieldLink RX5 31 "HeardSecondModel" "ways" "[I") (by decide +kernel)) (fun _ h9 => h9) rfl dX5_layWays_10 ?_
        refine lv_iload_n hx hb dX5_layWays_13 rfl (lv_at hl 2 rfl) ?_
        refine lv_iconst (v := 0) hx hb dX5_layWays_14 (by decide) ?_
        refine va_iast hx hb hK hP hD hS 3 0 rfl rfl (z_inN (by omega) (by decide)) dX5_layWays_15 (fun H locs hP hD hS => ?_)
        have hP : va_P D vwCl [(m0, .inr (5, [.ref pg, .int (nI n), .ref rd, .int rmy, .int rpt, .int sta, .int (nI N), .int pt, .int (nI k0), .int ou, .int si, .int en, .int w0, .int w1, .int br, .int cr, .ref ro, .ref fa, .ref wo, .ref ah, .int pf, .int (nI t), .ref he, .ref wy, .ref on_, .ref pa, .ref kr, .ref kn, .ref kh, .int kt, .int kc, .int sd, .ref sr, .ref sn, .long ha])), (ro, .inl (cA, 15, .inl r)), (he, .inl (cA, 16, .inl he_)), (wy, .inl (cA, 448, .inl (upd g1 (Int32.toNatClampNeg (nI i)) 0))), (on_, .inl (cA, 448, .inl g2))] H := hP
        have hD : va_D A [(m0, .inr (5, [.ref pg, .int (nI n), .ref rd, .int rmy, .int rpt, .int sta, .int (nI N), .int pt, .int (nI k0), .int ou, .int si, .int en, .int w0, .int w1, .int br, .int cr, .ref ro, .ref fa, .ref wo, .ref ah, .int pf, .int (nI t), .ref he, .ref wy, .ref on_, .ref pa, .ref kr, .ref kn, .ref kh, .int kt, .int kc, .int sd, .ref sr, .ref sn, .long ha])), (ro, .inl (cA, 15, .inl r)), (he, .inl (cA, 16, .inl he_)), (wy, .inl (cA, 448, .inl (upd g1 (Int32.toNatClampNeg (nI i)) 0))), (on_, .inl (cA, 448, .inl g2))] := hD
        rw [show upd g1 (Int32.toNatClampNeg (nI i)) 0 = upd g1 i 0 from by rw [z_nat (by omega)]] at hP hD
        refine lv_aload_n hx hb dX5_layWays_16 rfl (lv_at hl 0 rfl) ?_
        refine va_get (D := D) (ci := 5) (v := .ref on_) (C := RX5) (T := TX5) (N := 35) hx hb hts hiX5 hown hK hP 0 rfl rfl 24 (by decide) (hts (.fieldLink RX5 34 "HeardSecondModel" "onward" "[I") (by decide +kernel)) (fun _ h9 => h9) rfl dX5_layWays_17 ?_
        refine lv_iload_n hx hb dX5_layWays_20 rfl (lv_at hl 2 rfl) ?_
        refine lv_iconst (v := 0) hx hb dX5_layWays_21 (by decide) ?_
        refine va_iast hx hb hK hP hD hS 4 0 rfl rfl (z_inN (by omega) (by decide)) dX5_layWays_22 (fun H locs hP hD hS => ?_)
        have hP : va_P D vwCl [(m0, .inr (5, [.ref pg, .int (nI n), .ref rd, .int rmy, .int rpt, .int sta, .int (nI N), .int pt, .int (nI k0), .int ou, .int si, .int en, .int w0, .int w1, .int br, .int cr, .ref ro, .ref fa, .ref wo, .ref ah, .int pf, .int (nI t), .ref he, .ref wy, .ref on_, .ref pa, .ref kr, .ref kn, .ref kh, .int kt, .int kc, .int sd, .ref sr, .ref sn, .long ha])), (ro, .inl (cA, 15, .inl r)), (he, .inl (cA, 16, .inl he_)), (wy, .inl (cA, 448, .inl (upd g1 i 0))), (on_, .inl (cA, 448, .inl (upd g2 (Int32.toNatClampNeg (nI i)) 0)))] H := hP
        have hD : va_D A [(m0, .inr (5, [.ref pg, .int (nI n), .ref rd, .int rmy, .int rpt, .int sta, .int (nI N), .int pt, .int (nI k0), .int ou, .int si, .int en, .int w0, .int w1, .int br, .int cr, .ref ro, .ref fa, .ref wo, .ref ah, .int pf, .int (nI t), .ref he, .ref wy, .ref on_, .ref pa, .ref kr, .ref kn, .ref kh, .int kt, .int kc, .int sd, .ref sr, .ref sn, .long ha])), (ro, .inl (cA, 15, .inl r)), (he, .inl (cA, 16, .inl he_)), (wy, .inl (cA, 448, .inl (upd g1 i 0))), (on_, .inl (cA, 448, .inl (upd g2 (Int32.toNatClampNeg (nI i)) 0)))] := hD
        rw [show upd g2 (Int32.toNatClampNeg (nI i)) 0 = upd g2 i 0 from by rw [z_nat (by omega)]] at hP hD
        refine lv_iinc (v := nI (i + 1)) (lv' := [(2, .int (nI (i + 1))), (0, .ref m0), (1, .int (nI nb))]) hx hb dX5_layWays_23 hl (k := 2) rfl (nI_1 i) (by decide) rfl (fun ls hl => ?_)
        refine lv_goto (tgt := 2) hx hb dX5_layWays_26 (by decide) ?_
        exact ih1 (i + 1) (upd g1 i 0) (upd g2 i 0) (by omega) (by first | assumption | omega) (by clear hret hl hS hD hP hK hA hN hts hx hb hr hml hown hlocks hiX5 ih1; intro j hj; unfold upd; split <;> first | rfl | exact hg1 j (by omega)) (by clear hret hl hS hD hP hK hA hN hts hx hb hr hml hown hlocks hiX5 ih1; intro j hj; unfold upd; split <;> first | rfl | exact hg2 j (by omega)) _ _ _ hP hD hS (lv_sub hl [1, 2, 0] rfl)
  exact L2 449 0 y z (by omega) (by first | assumption | omega) (by clear hret hl hS hD hP hK hA hN hts hx hb hr hml hown hlocks hiX5 L2; intro j hj; omega) (by clear hret hl hS hD hP hK hA hN hts hx hb hr hml hown hlocks hiX5 L2; intro j hj; omega) _ _ _ hP hD hS (lv_sub hl [1, 2, 0] rfl)
