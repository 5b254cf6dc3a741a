abbrev rm_c_X5_worthAtEnd : Room := { frames := 2, cells := 0, slots := 0, locals := 46 }
set_option maxHeartbeats 400000 in
set_option maxRecDepth 20000 in
theorem c_X5_worthAtEnd {l : Launch} {D : va_G} {cA : ClassId} {m0 : Nat} {pg : Nat} {rd : Nat} {ro : Nat} {fa : Nat} {wo : Nat} {ah : Nat} {he : Nat} {wy : Nat} {on_ : Nat} {pa : Nat} {kr : Nat} {kn : Nat} {kh : Nat} {sr : Nat} {sn : Nat} {n : Nat} {N : Nat} {t : Nat} {rmy : Int32} {rpt : Int32} {sta : Int32} {pt : Int32} {nw : Int32} {ou : Int32} {si : Int32} {en : Int32} {w0 : Int32} {w1 : Int32} {br : Int32} {cr : Int32} {pf : Int32} {kt : Int32} {kc : Int32} {sd : Int32} {ha : Int64} {r : Nat → Int32} {k : Nat} (h5 : N ≤ 5) (hk : k < 64) : zMi l yX5_worthAtEnd wsX5_worthAtEnd rm_c_X5_worthAtEnd D cA [(m0, .inr (5, [.ref pg, .int (nI n), .ref rd, .int rmy, .int rpt, .int sta, .int (nI N), .int pt, .int nw, .int ou, .int si, .int en, .int w0, .int w1, .int br, .int cr, .ref ro, .ref fa, .ref wo, .ref ah, .int pf, .int (nI t), .ref he, .ref wy, .ref on_, .ref pa, .ref kr, .ref kn, .ref kh, .int kt, .int kc, .int sd, .ref sr, .ref sn, .long ha])), (ro, .inl (cA, 15, .inl r))] [.ref m0, .int (nI k)] (fun (ret_ : Int32) (_ : Unit) => ret_ = mWE r N k) (fun (_ : Unit) => [(m0, .inr (5, [.ref pg, .int (nI n), .ref rd, .int rmy, .int rpt, .int sta, .int (nI N), .int pt, .int nw, .int ou, .int si, .int en, .int w0, .int w1, .int br, .int cr, .ref ro, .ref fa, .ref wo, .ref ah, .int pf, .int (nI t), .ref he, .ref wy, .ref on_, .ref pa, .ref kr, .ref kn, .ref kh, .int kt, .int kc, .int sd, .ref sr, .ref sn, .long ha])), (ro, .inl (cA, 15, .inl r))]) := by
  refine z_enteri (cc := cX5_worthAtEnd) (maxL := 3) (ty := .int) (by decide) rfl (Nat.le_of_ble_eq_true rfl) (fun p e s m args below meth c ls A H0 H locs Q hi_ hA hK hP hD hS hl hret => ?_)
  obtain ⟨hx, hb, hr, hml, hown, hts, hlocks, hN⟩ := hi_
  have hl : lv_has ls 3 [(0, .ref m0), (1, .int (nI k))] := hl
  have hiX5 : ∀ w ∈ wsX50, w ∈ wsX5_worthAtEnd := by decide +kernel
  refine lv_iload_n hx hb dX5_worthAtEnd_0 rfl (lv_at hl 1 rfl) ?_
  refine lv_bipush (v := 8) hx hb dX5_worthAtEnd_1 (by decide) ?_
  refine lv_irem hx hb dX5_worthAtEnd_3 (by decide) ?_
  refine z_top (y := nI (k % 8)) (z_m8 k hk) ?_
  refine lv_istore_n (lv' := [(2, .int (nI (k % 8))), (0, .ref m0), (1, .int (nI k))]) hx hb dX5_worthAtEnd_4 rfl hl (by decide) rfl (fun ls hl => ?_)
  refine lv_aload_n hx hb dX5_worthAtEnd_5 rfl (lv_at hl 1 rfl) ?_
  refine lv_iload_n hx hb dX5_worthAtEnd_6 rfl (lv_at hl 0 rfl) ?_
  refine z_bri (z_runV (As := [.int (nI (k % 8))]) (rest := []) (ci := 5) ⟨hx, hb, hml, hown, hts⟩ (c_X5_isSeat (m0 := m0) (pg := pg) (rd := rd) (ro := ro) (fa := fa) (wo := wo) (ah := ah) (he := he) (wy := wy) (on_ := on_) (pa := pa) (kr := kr) (kn := kn) (kh := kh) (sr := sr) (sn := sn) (n := n) (N := N) (t := t) (rmy := rmy) (rpt := rpt) (sta := sta) (pt := pt) (nw := nw) (ou := ou) (si := si) (en := en) (w0 := w0) (w1 := w1) (br := br) (cr := cr) (pf := pf) (kt := kt) (kc := kc) (sd := sd) (ha := ha) (x := nI (k % 8)) _) (cwV 1 hts gX5_worthAtEnd_X5_isSeat rfl rfl rfl (by decide +kernel) ⟨Nat.le_of_ble_eq_true rfl, Nat.le_of_ble_eq_true rfl⟩) hK hP hD hN [0] rfl rfl rfl rfl rfl hl.1 rfl (Nat.le_of_ble_eq_true rfl) dX5_worthAtEnd_7 ⟨Nat.zero_le _, Nat.zero_le _⟩) hP hD hS hA [0] rfl (fun r_2 u_3 H locs hq_1 hP hS => ?_)
  obtain rfl : r_2 = bI (mIn (nI (k % 8)) 0 (nI N - 1)) := hq_1
  refine lv_if_ne (tgt := 17) hx hb dX5_worthAtEnd_10 (by decide) (fun c10_4 => ?_) (fun c10_4 => ?_)
  · skip
    have c10_4 := bI_n0.mp c10_4
    have hk8_ : k % 8 < N := by obtain ⟨a_, ha_, hb_⟩ := mIn_seat (show mIn (nI (k % 8)) 0 (nI N - 1) = true by assumption) h5; rw [nI_eq (by omega) (by omega)] at hb_; omega
    refine lv_aload_n hx hb dX5_worthAtEnd_17 rfl (lv_at hl 1 rfl) ?_
    refine va_get (D := D) (ci := 5) (v := .ref ro) (C := RX5) (T := TX5) (N := 35) hx hb hts hiX5 hown hK hP 0 rfl rfl 16 (by decide) (hts (.fieldLink RX5 16 "HeardSecondModel" "rows" "[I") (by decide +kernel)) (fun _ h9 => h9) rfl dX5_worthAtEnd_18 ?_
    refine lv_iconst (v := 3) hx hb dX5_worthAtEnd_21 (by decide) ?_
    refine lv_iload_n hx hb dX5_worthAtEnd_22 rfl (lv_at hl 0 rfl) ?_
    refine lv_imul hx hb dX5_worthAtEnd_23 ?_
    refine lv_iconst (v := 1) hx hb dX5_worthAtEnd_24 (by decide) ?_
    refine lv_iadd hx hb dX5_worthAtEnd_25 ?_
    refine z_top (y := nI (3 * (k % 8) + 1)) (nI_31 (k % 8)) ?_
    refine va_iald hx hb hK hP 1 0 rfl rfl (z_inN (by omega) (by decide)) dX5_worthAtEnd_26 ?_
    refine z_top (y := r (3 * (k % 8) + 1)) (by rw [z_nat (by omega)]) ?_
    refine lv_if_ne (tgt := 34) hx hb dX5_worthAtEnd_27 (by decide) (fun c27_5 => ?_) (fun c27_5 => ?_)
    · skip
      refine lv_iconst (v := 0) hx hb dX5_worthAtEnd_34 (by decide) ?_
      -- path 1
      exact hret (0) () _ _ _ _ dX5_worthAtEnd_35 (rfl) (by clear hret hl hS hD hP hK hA hN hts hx hb hr hml hown hlocks hiX5; simp_all [mWE]) hP hD hS
    · skip
      refine lv_iconst (v := 2) hx hb dX5_worthAtEnd_30 (by decide) ?_
      refine lv_goto (tgt := 35) hx hb dX5_worthAtEnd_31 (by decide) ?_
      -- path 2
      exact hret (2) () _ _ _ _ dX5_worthAtEnd_35 (rfl) (by clear hret hl hS hD hP hK hA hN hts hx hb hr hml hown hlocks hiX5; simp_all [mWE]) hP hD hS
  · skip
    have c10_4 := bI_0.mp c10_4
    refine lv_iconst (v := 1) hx hb dX5_worthAtEnd_13 (by decide) ?_
    refine lv_goto (tgt := 35) hx hb dX5_worthAtEnd_14 (by decide) ?_
    -- path 3
    exact hret (1) () _ _ _ _ dX5_worthAtEnd_35 (rfl) (by clear hret hl hS hD hP hK hA hN hts hx hb hr hml hown hlocks hiX5; simp_all [mWE]) hP hD hS
abbrev rm_c_X5_layPlay : Room := { frames := 3, cells := 0, slots := 0, locals := 68 }
set_option maxHeartbeats 4000000 in
set_option maxRecDepth 20000 in
theorem c_X5_layPlay {l : Launch} {D : va_G} {cA : ClassId} {m0 : Nat} {pg : Nat} {rd : Nat} {ro : Nat} {fa : Nat} {wo : Nat} {ah : Nat} {he : Nat} {wy : Nat} {on_ : Nat} {pa : Nat} {kr : Nat} {kn : Nat} {kh : Nat} {sr : Nat} {sn : Nat} {n : Nat} {N : Nat} {t : Nat} {rmy : Int32} {rpt : Int32} {sta : Int32} {pt : Int32} {ou : Int32} {si : Int32} {en : Int32} {w0 : Int32} {w1 : Int32} {br : Int32} {cr : Int32} {pf : Int32} {kt : Int32} {kc : Int32} {sd : Int32} {ha : Int64} {r : Nat → Int32} {w : Nat → Int32} {we : Nat → Int32} {k0 : Nat} {b : Nat} (h5 : N ≤ 5) (hk0 : k0 < 64) (hb1 : 1 ≤ b) (hb6 : b ≤ 6) : zMi l yX5_layPlay wsX5_layPlay rm_c_X5_layPlay D cA [(m0, .inr (5, [.ref pg, .int (nI n), .ref rd, .int rmy, .int rpt, .int sta, .int (nI N), .int pt, .int (nI k0), .int ou, .int si, .int en, .int w0, .int w1, .int br, .int cr, .ref ro, .ref fa, .ref wo, .ref ah, .int pf, .int (nI t), .ref he, .ref wy, .ref on_, .ref pa, .ref kr, .ref kn, .ref kh, .int kt, .int kc, .int sd, .ref sr, .ref sn, .long ha])), (ro, .inl (cA, 15, .inl r)), (wo, .inl (cA, 64, .inl w)), (ah, .inl (cA, 64, .inl we))] [.ref m0, .int (nI b)] (fun (ret_ : Int32) (u : Nat → Int32) => ret_ = mPW r N ou b b k0) (fun (u : Nat → Int32) => [(m0, .inr (5, [.ref pg, .int (nI n), .ref rd, .int rmy, .int rpt, .int sta, .int (nI N), .int pt, .int (nI k0), .int ou, .int si, .int en, .int w0, .int w1, .int br, .int cr, .ref ro, .ref fa, .ref wo, .ref ah, .int (mPF r N ou b k0), .int (nI t), .ref he, .ref wy, .ref on_, .ref pa, .ref kr, .ref kn, .ref kh, .int kt, .int kc, .int sd, .ref sr, .ref sn, .long ha])), (ro, .inl (cA, 15, .inl r)), (wo, .inl (cA, 64, .inl (mPW r N ou b b))), (ah, .inl (cA, 64, .inl u))]) := by
  refine z_enteri (cc := cX5_layPlay) (maxL := 10) (ty := .int) (by decide) rfl (Nat.le_of_ble_eq_true rfl) (fun p e s m args below meth c ls A H0 H locs Q hi_ hA hK hP hD hS hl hret => ?_)
  obtain ⟨hx, hb, hr, hml, hown, hts, hlocks, hN⟩ := hi_
  have hl : lv_has ls 10 [(0, .ref m0), (1, .int (nI b))] := hl
  have hiX5 : ∀ w ∈ wsX50, w ∈ wsX5_layPlay := by decide +kernel
  refine lv_iconst (v := nI 0) hx hb dX5_layPlay_0 (by decide) ?_
  refine lv_istore_n (lv' := [(2, .int (nI 0)), (0, .ref m0), (1, .int (nI b))]) hx hb dX5_layPlay_1 rfl hl (by decide) rfl (fun ls hl => ?_)
  have L2 : ∀ (n_ : Nat) (k : Nat) (g : Nat → Int32) (hm_ : 65 ≤ k + n_) (hk : k ≤ 64) (hg : ∀ j, j < k → g j = mWE r N j) (H : Heap) (locs : List Loc) (ls : Array Slot), va_P D vwCl [(m0, .inr (5, [.ref pg, .int (nI n), .ref rd, .int rmy, .int rpt, .int sta, .int (nI N), .int pt, .int (nI k0), .int ou, .int si, .int en, .int w0, .int w1, .int br, .int cr, .ref ro, .ref fa, .ref wo, .ref ah, .int pf, .int (nI t), .ref he, .ref wy, .ref on_, .ref pa, .ref kr, .ref kn, .ref kh, .int kt, .int kc, .int sd, .ref sr, .ref sn, .long ha])), (ro, .inl (cA, 15, .inl r)), (wo, .inl (cA, 64, .inl g)), (ah, .inl (cA, 64, .inl we))] H → va_D A [(m0, .inr (5, [.ref pg, .int (nI n), .ref rd, .int rmy, .int rpt, .int sta, .int (nI N), .int pt, .int (nI k0), .int ou, .int si, .int en, .int w0, .int w1, .int br, .int cr, .ref ro, .ref fa, .ref wo, .ref ah, .int pf, .int (nI t), .ref he, .ref wy, .ref on_, .ref pa, .ref kr, .ref kn, .ref kh, .int kt, .int kc, .int sd, .ref sr, .ref sn, .long ha])), (ro, .inl (cA, 15, .inl r)), (wo, .inl (cA, 64, .inl g)), (ah, .inl (cA, 64, .inl we))] → va_S A H0 H locs → lv_has ls 10 [(0, .ref m0), (1, .int (nI b)), (2, .int (nI k))] → W p l e rm_c_X5_layPlay s m args below meth c H locs 0 0 Q (F0 m 2 ls []) := by
    intro n_
    induction n_ with
    | zero =>
      intro k g hm_ hk hg
      exact absurd hm_ (by omega)
    | succ n_ ih_ =>
      intro k g hm_ hk hg H locs ls hP hD hS hl
      have ih1 := ih_
      clear ih_
      refine lv_iload_n hx hb dX5_layPlay_2 rfl (lv_at hl 2 rfl) ?_
      refine lv_bipush (v := 64) hx hb dX5_layPlay_3 (by decide) ?_
      refine lv_icmp_ge (tgt := 25) hx hb dX5_layPlay_5 (by decide) (fun c5_2 => ?_) (fun c5_2 => ?_)
      · skip
        have ht_ : k = 64 := by have := (nI_leI (a := 64) (b := k) (by omega) (by omega)).mp c5_2; omega
        refine lv_iconst (v := nI 1) hx hb dX5_layPlay_25 (by decide) ?_
        refine lv_istore_n (lv' := [(2, .int (nI 1)), (0, .ref m0), (1, .int (nI b))]) hx hb dX5_layPlay_26 rfl hl (by decide) rfl (fun ls hl => ?_)
        have L27 : ∀ (n_ : Nat) (lf : Nat) (wx : Nat → Int32) (a1 : Nat → Int32) (pf1 : Int32) (hm_ : b + 2 ≤ lf + n_) (hl1 : 1 ≤ lf) (hlb : lf ≤ b + 1) (hw1 : ∀ j, j < 64 → wx j = mPW r N ou b (lf - 1) j) (hpf : 2 ≤ lf → pf1 = (mP1 r N ou (nI ((b - (lf - 1)) % 2)) (mPW r N ou b (lf - 2)) k0 N).2) (H : Heap) (locs : List Loc) (ls : Array Slot), va_P D vwCl [(m0, .inr (5, [.ref pg, .int (nI n), .ref rd, .int rmy, .int rpt, .int sta, .int (nI N), .int pt, .int (nI k0), .int ou, .int si, .int en, .int w0, .int w1, .int br, .int cr, .ref ro, .ref fa, .ref wo, .ref ah, .int pf1, .int (nI t), .ref he, .ref wy, .ref on_, .ref pa, .ref kr, .ref kn, .ref kh, .int kt, .int kc, .int sd, .ref sr, .ref sn, .long ha])), (ro, .inl (cA, 15, .inl r)), (wo, .inl (cA, 64, .inl wx)), (ah, .inl (cA, 64, .inl a1))] H → va_D A [(m0, .inr (5, [.ref pg, .int (nI n), .ref rd, .int rmy, .int rpt, .int sta, .int (nI N), .int pt, .int (nI k0), .int ou, .int si, .int en, .int w0, .int w1, .int br, .int cr, .ref ro, .ref fa, .ref wo, .ref ah, .int pf1, .int (nI t), .ref he, .ref wy, .ref on_, .ref pa, .ref kr, .ref kn, .ref kh, .int kt, .int kc, .int sd, .ref sr, .ref sn, .long ha])), (ro, .inl (cA, 15, .inl r)), (wo, .inl (cA, 64, .inl wx)), (ah, .inl (cA, 64, .inl a1))] → va_S A H0 H locs → lv_has ls 10 [(0, .ref m0), (1, .int (nI b)), (2, .int (nI lf))] → W p l e rm_c_X5_layPlay s m args below meth c H locs 0 0 Q (F0 m 27 ls []) := by
          intro n_
          induction n_ with
          | zero =>
            intro lf wx a1 pf1 hm_ hl1 hlb hw1 hpf
            exact absurd hm_ (by omega)
          | succ n_ ih_ =>
            intro lf wx a1 pf1 hm_ hl1 hlb hw1 hpf H locs ls hP hD hS hl
            have ih3 := ih_
            clear ih_
            refine lv_iload_n hx hb dX5_layPlay_27 rfl (lv_at hl 2 rfl) ?_
            refine lv_iload_n hx hb dX5_layPlay_28 rfl (lv_at hl 1 rfl) ?_
            refine lv_icmp_gt (tgt := 244) hx hb dX5_layPlay_29 (by decide) (fun c29_4 => ?_) (fun c29_4 => ?_)
            · skip
              have ht_ : lf = b + 1 := by have := (nI_ltI (a := b) (b := lf) (by omega) (by omega)).mp c29_4; omega
              refine lv_aload_n hx hb dX5_layPlay_244 rfl (lv_at hl 0 rfl) ?_
              refine va_get (D := D) (ci := 5) (v := .ref wo) (C := RX5) (T := TX5) (N := 35) hx hb hts hiX5 hown hK hP 0 rfl rfl 18 (by decide) (hts (.fieldLink RX5 22 "HeardSecondModel" "worth" "[I") (by decide +kernel)) (fun _ h9 => h9) rfl dX5_layPlay_245 ?_
              refine lv_aload_n hx hb dX5_layPlay_248 rfl (lv_at hl 0 rfl) ?_
              refine va_get (D := D) (ci := 5) (v := .int (nI k0)) (C := RX5) (T := TX5) (N := 35) hx hb hts hiX5 hown hK hP 0 rfl rfl 8 (by decide) (hts (.fieldLink RX5 59 "HeardSecondModel" "now" "I") (by decide +kernel)) (fun _ h9 => h9) rfl dX5_layPlay_249 ?_
              refine va_iald hx hb hK hP 2 0 rfl rfl (z_inN (by omega) (by decide)) dX5_layPlay_252 ?_
              refine z_top (y := wx k0) (by rw [z_nat (by omega)]) ?_
              -- path 1
              have hP : va_P D vwCl [(m0, .inr (5, [.ref pg, .int (nI n), .ref rd, .int rmy, .int rpt, .int sta, .int (nI N), .int pt, .int (nI k0), .int ou, .int si, .int en, .int w0, .int w1, .int br, .int cr, .ref ro, .ref fa, .ref wo, .ref ah, .int (mPF r N ou b k0), .int (nI t), .ref he, .ref wy, .ref on_, .ref pa, .ref kr, .ref kn, .ref kh, .int kt, .int kc, .int sd, .ref sr, .ref sn, .long ha])), (ro, .inl (cA, 15, .inl r)), (wo, .inl (cA, 64, .inl wx)), (ah, .inl (cA, 64, .inl a1))] H := by have e_ : pf1 = mPF r N ou b k0 := (by clear hret hl hS hD hP hK hA hN hts hx hb hr hml hown hlocks hiX5 ih1 ih3; first | (intro j hj; rw [hw1 j hj, show lf - 1 = b from by omega]) | (rw [hpf (by omega), show b - (lf - 1) = b - b from by omega, show lf - 2 = b - 1 from by omega]; rfl)); rw [← e_]; exact hP
              have hD : va_D A [(m0, .inr (5, [.ref pg, .int (nI n), .ref rd, .int rmy, .int rpt, .int sta, .int (nI N), .int pt, .int (nI k0), .int ou, .int si, .int en, .int w0, .int w1, .int br, .int cr, .ref ro, .ref fa, .ref wo, .ref ah, .int (mPF r N ou b k0), .int (nI t), .ref he, .ref wy, .ref on_, .ref pa, .ref kr, .ref kn, .ref kh, .int kt, .int kc, .int sd, .ref sr, .ref sn, .long ha])), (ro, .inl (cA, 15, .inl r)), (wo, .inl (cA, 64, .inl wx)), (ah, .inl (cA, 64, .inl a1))] := by have e_ : pf1 = mPF r N ou b k0 := (by clear hret hl hS hD hP hK hA hN hts hx hb hr hml hown hlocks hiX5 ih1 ih3; first | (intro j hj; rw [hw1 j hj, show lf - 1 = b from by omega]) | (rw [hpf (by omega), show b - (lf - 1) = b - b from by omega, show lf - 2 = b - 1 from by omega]; rfl)); rw [← e_]; exact hD
              have hP : va_P D vwCl [(m0, .inr (5, [.ref pg, .int (nI n), .ref rd, .int rmy, .int rpt, .int sta, .int (nI N), .int pt, .int (nI k0), .int ou, .int si, .int en, .int w0, .int w1, .int br, .int cr, .ref ro, .ref fa, .ref wo, .ref ah, .int (mPF r N ou b k0), .int (nI t), .ref he, .ref wy, .ref on_, .ref pa, .ref kr, .ref kn, .ref kh, .int kt, .int kc, .int sd, .ref sr, .ref sn, .long ha])), (ro, .inl (cA, 15, .inl r)), (wo, .inl (cA, 64, .inl (mPW r N ou b b))), (ah, .inl (cA, 64, .inl a1))] H := z_arrP hP 2 (g := (mPW r N ou b b)) rfl (by clear hret hl hS hD hP hK hA hN hts hx hb hr hml hown hlocks hiX5 ih1 ih3; first | (intro j hj; rw [hw1 j hj, show lf - 1 = b from by omega]) | (rw [hpf (by omega), show b - (lf - 1) = b - b from by omega, show lf - 2 = b - 1 from by omega]; rfl)) rfl
              have hD : va_D A [(m0, .inr (5, [.ref pg, .int (nI n), .ref rd, .int rmy, .int rpt, .int sta, .int (nI N), .int pt, .int (nI k0), .int ou, .int si, .int en, .int w0, .int w1, .int br, .int cr, .ref ro, .ref fa, .ref wo, .ref ah, .int (mPF r N ou b k0), .int (nI t), .ref he, .ref wy, .ref on_, .ref pa, .ref kr, .ref kn, .ref kh, .int kt, .int kc, .int sd, .ref sr, .ref sn, .long ha])), (ro, .inl (cA, 15, .inl r)), (wo, .inl (cA, 64, .inl (mPW r N ou b b))), (ah, .inl (cA, 64, .inl a1))] := z_arrD hD 2 rfl rfl
              exact hret (wx k0) a1 _ _ _ _ dX5_layPlay_253 (rfl) (by clear hret hl hS hD hP hK hA hN hts hx hb hr hml hown hlocks hiX5 ih1 ih3; rw [hw1 k0 hk0, show lf - 1 = b from by omega]) hP hD hS
            · skip
              have hltlf : lf ≤ b := Nat.le_of_not_lt (fun q_ => c29_4 ((nI_ltI (a := b) (b := lf) (by omega) (by omega)).mpr q_))
              refine lv_iload_n hx hb dX5_layPlay_32 rfl (lv_at hl 1 rfl) ?_
              refine lv_iload_n hx hb dX5_layPlay_33 rfl (lv_at hl 2 rfl) ?_
              refine lv_isub hx hb dX5_layPlay_34 ?_
              refine z_top (y := nI (b - lf)) (z_sub (by omega)) ?_
              refine lv_iconst (v := 2) hx hb dX5_layPlay_35 (by decide) ?_
              refine lv_irem hx hb dX5_layPlay_36 (by decide) ?_
              refine z_top (y := nI ((b - lf) % 2)) (z_mod2 _ (by omega)) ?_
              refine lv_istore_n (lv' := [(3, .int (nI ((b - lf) % 2))), (0, .ref m0), (1, .int (nI b)), (2, .int (nI lf))]) hx hb dX5_layPlay_37 rfl hl (by decide) rfl (fun ls hl => ?_)
              refine lv_iconst (v := nI 0) hx hb dX5_layPlay_38 (by decide) ?_
              refine lv_istore (lv' := [(4, .int (nI 0)), (3, .int (nI ((b - lf) % 2))), (0, .ref m0), (1, .int (nI b)), (2, .int (nI lf))]) hx hb dX5_layPlay_39 hl (by decide) rfl (fun ls hl => ?_)
              have L41 : ∀ (n_ : Nat) (q : Nat) (g2 : Nat → Int32) (pf2 : Int32) (hm_ : 65 ≤ q + n_) (hq : q ≤ 64) (hg2 : ∀ j, j < q → g2 j = (mP1 r N ou (nI ((b - lf) % 2)) wx j N).1) (hpf2 : k0 < q → pf2 = (mP1 r N ou (nI ((b - lf) % 2)) wx k0 N).2) (H : Heap) (locs : List Loc) (ls : Array Slot), va_P D vwCl [(m0, .inr (5, [.ref pg, .int (nI n), .ref rd, .int rmy, .int rpt, .int sta, .int (nI N), .int pt, .int (nI k0), .int ou, .int si, .int en, .int w0, .int w1, .int br, .int cr, .ref ro, .ref fa, .ref wo, .ref ah, .int pf2, .int (nI t), .ref he, .ref wy, .ref on_, .ref pa, .ref kr, .ref kn, .ref kh, .int kt, .int kc, .int sd, .ref sr, .ref sn, .long ha])), (ro, .inl (cA, 15, .inl r)), (wo, .inl (cA, 64, .inl wx)), (ah, .inl (cA, 64, .inl g2))] H → va_D A [(m0, .inr (5, [.ref pg, .int (nI n), .ref rd, .int rmy, .int rpt, .int sta, .int (nI N), .int pt, .int (nI k0), .int ou, .int si, .int en, .int w0, .int w1, .int br, .int cr, .ref ro, .ref fa, .ref wo, .ref ah, .int pf2, .int (nI t), .ref he, .ref wy, .ref on_, .ref pa, .ref kr, .ref kn, .ref kh, .int kt, .int kc, .int sd, .ref sr, .ref sn, .long ha])), (ro, .inl (cA, 15, .inl r)), (wo, .inl (cA, 64, .inl wx)), (ah, .inl (cA, 64, .inl g2))] → va_S A H0 H locs → lv_has ls 10 [(0, .ref m0), (1, .int (nI b)), (2, .int (nI lf)), (3, .int (nI ((b - lf) % 2))), (4, .int (nI q))] → W p l e rm_c_X5_layPlay s m args below meth c H locs 0 0 Q (F0 m 41 ls []) := by
                intro n_
                induction n_ with
                | zero =>
                  intro q g2 pf2 hm_ hq hg2 hpf2
                  exact absurd hm_ (by omega)
                | succ n_ ih_ =>
                  intro q g2 pf2 hm_ hq hg2 hpf2 H locs ls hP hD hS hl
                  have ih5 := ih_
                  clear ih_
                  refine lv_iload hx hb dX5_layPlay_41 (lv_at hl 4 rfl) ?_
                  refine lv_bipush (v := 64) hx hb dX5_layPlay_43 (by decide) ?_
                  refine lv_icmp_ge (tgt := 227) hx hb dX5_layPlay_45 (by decide) (fun c45_6 => ?_) (fun c45_6 => ?_)
                  · skip
                    have ht_ : q = 64 := by have := (nI_leI (a := 64) (b := q) (by omega) (by omega)).mp c45_6; omega
                    refine lv_aload_n hx hb dX5_layPlay_227 rfl (lv_at hl 0 rfl) ?_
                    refine va_get (D := D) (ci := 5) (v := .ref ah) (C := RX5) (T := TX5) (N := 35) hx hb hts hiX5 hown hK hP 0 rfl rfl 19 (by decide) (hts (.fieldLink RX5 25 "HeardSecondModel" "ahead" "[I") (by decide +kernel)) (fun _ h9 => h9) rfl dX5_layPlay_228 ?_
                    refine lv_aload_n hx hb dX5_layPlay_231 rfl (lv_at hl 0 rfl) ?_
                    refine va_get (D := D) (ci := 5) (v := .ref wo) (C := RX5) (T := TX5) (N := 35) hx hb hts hiX5 hown hK hP 0 rfl rfl 18 (by decide) (hts (.fieldLink RX5 22 "HeardSecondModel" "worth" "[I") (by decide +kernel)) (fun _ h9 => h9) rfl dX5_layPlay_232 ?_
                    refine z_bwv (wr := [(m0, .inr (5, [.ref pg, .int (nI n), .ref rd, .int rmy, .int rpt, .int sta, .int (nI N), .int pt, .int (nI k0), .int ou, .int si, .int en, .int w0, .int w1, .int br, .int cr, .ref ro, .ref fa, .ref wo, .ref ah, .int pf2, .int (nI t), .ref he, .ref wy, .ref on_, .ref pa, .ref kr, .ref kn, .ref kh, .int kt, .int kc, .int sd, .ref sr, .ref sn, .long ha])), (ro, .inl (cA, 15, .inl r))]) (ws' := fun (_ : Unit) => [(m0, .inr (5, [.ref pg, .int (nI n), .ref rd, .int rmy, .int rpt, .int sta, .int (nI N), .int pt, .int (nI k0), .int ou, .int si, .int en, .int w0, .int w1, .int br, .int cr, .ref ro, .ref fa, .ref wo, .ref ah, .int pf2, .int (nI t), .ref he, .ref wy, .ref on_, .ref pa, .ref kr, .ref kn, .ref kh, .int kt, .int kc, .int sd, .ref sr, .ref sn, .long ha])), (ro, .inl (cA, 15, .inl r)), (wo, .inl (cA, 64, .inl g2)), (ah, .inl (cA, 64, .inl g2))]) (z_runS (As := [.ref ah, .ref wo]) (rest := []) ⟨hx, hb, hml, hown, hts⟩ (c_X5_copy (n := 64) (q := ah) (q2 := wo) (f := g2) (f2 := wx) (by first | assumption | omega) _) (va_cwS 2 hts gX5_layPlay_X5_copy rfl rfl rfl (by decide +kernel) ⟨Nat.le_of_ble_eq_true rfl, Nat.le_of_ble_eq_true rfl⟩) hK hP hD hN [3, 2] rfl rfl rfl hl.1 rfl (Nat.le_of_ble_eq_true rfl) dX5_layPlay_235 ⟨Nat.zero_le _, Nat.zero_le _⟩) hP hD hS hA [3, 2] [0, 1] [0, 1, 3, 2] rfl rfl rfl (by decide) rfl (fun _ => rfl) (fun u_9 H locs hq_7 hP hD hS => ?_)
                    have hP : va_P D vwCl [(m0, .inr (5, [.ref pg, .int (nI n), .ref rd, .int rmy, .int rpt, .int sta, .int (nI N), .int pt, .int (nI k0), .int ou, .int si, .int en, .int w0, .int w1, .int br, .int cr, .ref ro, .ref fa, .ref wo, .ref ah, .int pf2, .int (nI t), .ref he, .ref wy, .ref on_, .ref pa, .ref kr, .ref kn, .ref kh, .int kt, .int kc, .int sd, .ref sr, .ref sn, .long ha])), (ro, .inl (cA, 15, .inl r)), (wo, .inl (cA, 64, .inl g2)), (ah, .inl (cA, 64, .inl g2))] H := hP
                    have hD : va_D A [(m0, .inr (5, [.ref pg, .int (nI n), .ref rd, .int rmy, .int rpt, .int sta, .int (nI N), .int pt, .int (nI k0), .int ou, .int si, .int en, .int w0, .int w1, .int br, .int cr, .ref ro, .ref fa, .ref wo, .ref ah, .int pf2, .int (nI t), .ref he, .ref wy, .ref on_, .ref pa, .ref kr, .ref kn, .ref kh, .int kt, .int kc, .int sd, .ref sr, .ref sn, .long ha])), (ro, .inl (cA, 15, .inl r)), (wo, .inl (cA, 64, .inl g2)), (ah, .inl (cA, 64, .inl g2))] := hD
                    refine lv_iinc (v := nI (lf + 1)) (lv' := [(2, .int (nI (lf + 1))), (0, .ref m0), (1, .int (nI b)), (3, .int (nI ((b - lf) % 2))), (4, .int (nI q))]) hx hb dX5_layPlay_238 hl (k := 2) rfl (nI_1 lf) (by decide) rfl (fun ls hl => ?_)
                    refine lv_goto (tgt := 27) hx hb dX5_layPlay_241 (by decide) ?_
                    exact ih3 (lf + 1) g2 g2 pf2 (by omega) (by first | assumption | omega) (by first | assumption | omega) (by clear hret hl hS hD hP hK hA hN hts hx hb hr hml hown hlocks hiX5 ih1 ih3 ih5; intro j hj; rw [show lf + 1 - 1 = (lf - 1) + 1 from by omega, mPW, hg2 j (by omega), show b - (lf - 1 + 1) = b - lf from by omega]; exact congrArg Prod.fst (mP1_congr h5 hj hw1 N (Nat.le_refl N))) (by clear hret hl hS hD hP hK hA hN hts hx hb hr hml hown hlocks hiX5 ih1 ih3 ih5; intro _; rw [hpf2 (by omega), show b - (lf + 1 - 1) = b - lf from by omega, show lf + 1 - 2 = lf - 1 from by omega]; exact congrArg Prod.snd (mP1_congr h5 hk0 hw1 N (Nat.le_refl N))) _ _ _ hP hD hS (lv_sub hl [1, 2, 0] rfl)
                  · skip
                    have hltq : q < 64 := Nat.lt_of_not_le (fun q_ => c45_6 ((nI_leI (a := 64) (b := q) (by omega) (by omega)).mpr q_))
                    refine lv_aload_n hx hb dX5_layPlay_48 rfl (lv_at hl 0 rfl) ?_
                    refine va_get (D := D) (ci := 5) (v := .ref wo) (C := RX5) (T := TX5) (N := 35) hx hb hts hiX5 hown hK hP 0 rfl rfl 18 (by decide) (hts (.fieldLink RX5 22 "HeardSecondModel" "worth" "[I") (by decide +kernel)) (fun _ h9 => h9) rfl dX5_layPlay_49 ?_
                    refine lv_iload hx hb dX5_layPlay_52 (lv_at hl 4 rfl) ?_
                    refine va_iald hx hb hK hP 2 0 rfl rfl (z_inN (by omega) (by decide)) dX5_layPlay_54 ?_
                    refine z_top (y := wx q) (by rw [z_nat (by omega)]) ?_
                    refine lv_istore (lv' := [(5, .int (wx q)), (0, .ref m0), (1, .int (nI b)), (2, .int (nI lf)), (3, .int (nI ((b - lf) % 2))), (4, .int (nI q))]) hx hb dX5_layPlay_55 hl (by decide) rfl (fun ls hl => ?_)
                    refine lv_iconst (v := (-1)) hx hb dX5_layPlay_57 (by decide) ?_
                    refine lv_istore (lv' := [(6, .int (-1)), (5, .int (wx q)), (0, .ref m0), (1, .int (nI b)), (2, .int (nI lf)), (3, .int (nI ((b - lf) % 2))), (4, .int (nI q))]) hx hb dX5_layPlay_58 hl (by decide) rfl (fun ls hl => ?_)
                    refine lv_iconst (v := nI 0) hx hb dX5_layPlay_60 (by decide) ?_
                    refine lv_istore (lv' := [(7, .int (nI 0)), (6, .int (-1)), (5, .int (wx q)), (0, .ref m0), (1, .int (nI b)), (2, .int (nI lf)), (3, .int (nI ((b - lf) % 2))), (4, .int (nI q))]) hx hb dX5_layPlay_61 hl (by decide) rfl (fun ls hl => ?_)
                    have L63 : ∀ (n_ : Nat) (sx : Nat) (bs : Int32) (fi : Int32) (hm_ : N + 1 ≤ sx + n_) (hs : sx ≤ N) (hv : (bs, fi) = mP1 r N ou (nI ((b - lf) % 2)) wx q sx) (H : Heap) (locs : List Loc) (ls : Array Slot), va_P D vwCl [(m0, .inr (5, [.ref pg, .int (nI n), .ref rd, .int rmy, .int rpt, .int sta, .int (nI N), .int pt, .int (nI k0), .int ou, .int si, .int en, .int w0, .int w1, .int br, .int cr, .ref ro, .ref fa, .ref wo, .ref ah, .int pf2, .int (nI t), .ref he, .ref wy, .ref on_, .ref pa, .ref kr, .ref kn, .ref kh, .int kt, .int kc, .int sd, .ref sr, .ref sn, .long ha])), (ro, .inl (cA, 15, .inl r)), (wo, .inl (cA, 64, .inl wx)), (ah, .inl (cA, 64, .inl g2))] H → va_D A [(m0, .inr (5, [.ref pg, .int (nI n), .ref rd, .int rmy, .int rpt, .int sta, .int (nI N), .int pt, .int (nI k0), .int ou, .int si, .int en, .int w0, .int w1, .int br, .int cr, .ref ro, .ref fa, .ref wo, .ref ah, .int pf2, .int (nI t), .ref he, .ref wy, .ref on_, .ref pa, .ref kr, .ref kn, .ref kh, .int kt, .int kc, .int sd, .ref sr, .ref sn, .long ha])), (ro, .inl (cA, 15, .inl r)), (wo, .inl (cA, 64, .inl wx)), (ah, .inl (cA, 64, .inl g2))] → va_S A H0 H locs → lv_has ls 10 [(0, .ref m0), (1, .int (nI b)), (2, .int (nI lf)), (3, .int (nI ((b - lf) % 2))), (4, .int (nI q)), (5, .int bs), (6, .int fi), (7, .int (nI sx))] → W p l e rm_c_X5_layPlay s m args below meth c H locs 0 0 Q (F0 m 63 ls []) := by
                      intro n_
                      induction n_ with
                      | zero =>
                        intro sx bs fi hm_ hs hv
                        exact absurd hm_ (by omega)
                      | succ n_ ih_ =>
                        intro sx bs fi hm_ hs hv H locs ls hP hD hS hl
                        have ih10 := ih_
                        clear ih_
                        refine lv_iload hx hb dX5_layPlay_63 (lv_at hl 7 rfl) ?_
                        refine lv_aload_n hx hb dX5_layPlay_65 rfl (lv_at hl 0 rfl) ?_
                        refine va_get (D := D) (ci := 5) (v := .int (nI N)) (C := RX5) (T := TX5) (N := 35) hx hb hts hiX5 hown hK hP 0 rfl rfl 6 (by decide) (hts (.fieldLink RX5 94 "HeardSecondModel" "seats" "I") (by decide +kernel)) (fun _ h9 => h9) rfl dX5_layPlay_66 ?_
                        refine lv_icmp_ge (tgt := 190) hx hb dX5_layPlay_69 (by decide) (fun c69_11 => ?_) (fun c69_11 => ?_)
                        · skip
                          have ht_ : sx = N := by have := (nI_leI (a := N) (b := sx) (by omega) (by omega)).mp c69_11; omega
                          refine lv_aload_n hx hb dX5_layPlay_190 rfl (lv_at hl 0 rfl) ?_
                          refine va_get (D := D) (ci := 5) (v := .ref ah) (C := RX5) (T := TX5) (N := 35) hx hb hts hiX5 hown hK hP 0 rfl rfl 19 (by decide) (hts (.fieldLink RX5 25 "HeardSecondModel" "ahead" "[I") (by decide +kernel)) (fun _ h9 => h9) rfl dX5_layPlay_191 ?_
                          refine lv_iload hx hb dX5_layPlay_194 (lv_at hl 4 rfl) ?_
                          refine lv_iload hx hb dX5_layPlay_196 (lv_at hl 5 rfl) ?_
                          refine va_iast hx hb hK hP hD hS 3 0 rfl rfl (z_inN (by omega) (by decide)) dX5_layPlay_198 (fun H locs hP hD hS => ?_)
                          have hP : va_P D vwCl [(m0, .inr (5, [.ref pg, .int (nI n), .ref rd, .int rmy, .int rpt, .int sta, .int (nI N), .int pt, .int (nI k0), .int ou, .int si, .int en, .int w0, .int w1, .int br, .int cr, .ref ro, .ref fa, .ref wo, .ref ah, .int pf2, .int (nI t), .ref he, .ref wy, .ref on_, .ref pa, .ref kr, .ref kn, .ref kh, .int kt, .int kc, .int sd, .ref sr, .ref sn, .long ha])), (ro, .inl (cA, 15, .inl r)), (wo, .inl (cA, 64, .inl wx)), (ah, .inl (cA, 64, .inl (upd g2 (Int32.toNatClampNeg (nI q)) bs)))] H := hP
                          have hD : va_D A [(m0, .inr (5, [.ref pg, .int (nI n), .ref rd, .int rmy, .int rpt, .int sta, .int (nI N), .int pt, .int (nI k0), .int ou, .int si, .int en, .int w0, .int w1, .int br, .int cr, .ref ro, .ref fa, .ref wo, .ref ah, .int pf2, .int (nI t), .ref he, .ref wy, .ref on_, .ref pa, .ref kr, .ref kn, .ref kh, .int kt, .int kc, .int sd, .ref sr, .ref sn, .long ha])), (ro, .inl (cA, 15, .inl r)), (wo, .inl (cA, 64, .inl wx)), (ah, .inl (cA, 64, .inl (upd g2 (Int32.toNatClampNeg (nI q)) bs)))] := hD
                          rw [show upd g2 (Int32.toNatClampNeg (nI q)) bs = upd g2 q bs from by rw [z_nat (by omega)]] at hP hD
                          refine lv_aload_n hx hb dX5_layPlay_199 rfl (lv_at hl 0 rfl) ?_
                          refine lv_iload hx hb dX5_layPlay_200 (lv_at hl 4 rfl) ?_
                          refine lv_aload_n hx hb dX5_layPlay_202 rfl (lv_at hl 0 rfl) ?_
                          refine va_get (D := D) (ci := 5) (v := .int (nI k0)) (C := RX5) (T := TX5) (N := 35) hx hb hts hiX5 hown hK hP 0 rfl rfl 8 (by decide) (hts (.fieldLink RX5 59 "HeardSecondModel" "now" "I") (by decide +kernel)) (fun _ h9 => h9) rfl dX5_layPlay_203 ?_
                          refine lv_icmp_ne (tgt := 214) hx hb dX5_layPlay_206 (by decide) (fun c206_12 => ?_) (fun c206_12 => ?_)
                          · skip
                            have eq0_ : ¬ q = k0 := fun q_ => c206_12 (by rw [q_]; try rfl)
                            refine lv_aload_n hx hb dX5_layPlay_214 rfl (lv_at hl 0 rfl) ?_
                            refine va_get (D := D) (ci := 5) (v := .int pf2) (C := RX5) (T := TX5) (N := 35) hx hb hts hiX5 hown hK hP 0 rfl rfl 20 (by decide) (hts (.fieldLink RX5 169 "HeardSecondModel" "playFirst" "I") (by decide +kernel)) (fun _ h9 => h9) rfl dX5_layPlay_215 ?_
                            refine va_put (D := D) (ci := 5) (v := .int pf2) (ty := .int) (C := RX5) (T := TX5) (N := 35) hx hb hts hiX5 tyX5 tyX5_ok nmX5 hown hK hP hD hS 0 rfl rfl 20 (by decide) (hts (.fieldLink RX5 169 "HeardSecondModel" "playFirst" "I") (by decide +kernel)) (fun _ h9 => h9) rfl (by decide +kernel) (rfl) rfl (Nat.le_of_ble_eq_true rfl) dX5_layPlay_218 (fun H locs hP hD hS => ?_)
                            have hP : va_P D vwCl [(m0, .inr (5, [.ref pg, .int (nI n), .ref rd, .int rmy, .int rpt, .int sta, .int (nI N), .int pt, .int (nI k0), .int ou, .int si, .int en, .int w0, .int w1, .int br, .int cr, .ref ro, .ref fa, .ref wo, .ref ah, .int pf2, .int (nI t), .ref he, .ref wy, .ref on_, .ref pa, .ref kr, .ref kn, .ref kh, .int kt, .int kc, .int sd, .ref sr, .ref sn, .long ha])), (ro, .inl (cA, 15, .inl r)), (wo, .inl (cA, 64, .inl wx)), (ah, .inl (cA, 64, .inl (upd g2 q bs)))] H := hP
                            have hD : va_D A [(m0, .inr (5, [.ref pg, .int (nI n), .ref rd, .int rmy, .int rpt, .int sta, .int (nI N), .int pt, .int (nI k0), .int ou, .int si, .int en, .int w0, .int w1, .int br, .int cr, .ref ro, .ref fa, .ref wo, .ref ah, .int pf2, .int (nI t), .ref he, .ref wy, .ref on_, .ref pa, .ref kr, .ref kn, .ref kh, .int kt, .int kc, .int sd, .ref sr, .ref sn, .long ha])), (ro, .inl (cA, 15, .inl r)), (wo, .inl (cA, 64, .inl wx)), (ah, .inl (cA, 64, .inl (upd g2 q bs)))] := hD
                            refine lv_iinc (v := nI (q + 1)) (lv' := [(4, .int (nI (q + 1))), (0, .ref m0), (1, .int (nI b)), (2, .int (nI lf)), (3, .int (nI ((b - lf) % 2))), (5, .int bs), (6, .int fi), (7, .int (nI sx))]) hx hb dX5_layPlay_221 hl (k := 4) rfl (nI_1 q) (by decide) rfl (fun ls hl => ?_)
                            refine lv_goto (tgt := 41) hx hb dX5_layPlay_224 (by decide) ?_
                            exact ih5 (q + 1) (upd g2 q bs) pf2 (by omega) (by first | assumption | omega) (by clear hret hl hS hD hP hK hA hN hts hx hb hr hml hown hlocks hiX5 ih1 ih3 ih5 ih10; intro j hj; unfold upd; split <;> first | exact hg2 j (by omega) | (rename_i e_; rw [e_]; exact congrArg Prod.fst (hv.trans (congrArg (mP1 r N ou (nI ((b - lf) % 2)) wx q) ht_)))) (by clear hret hl hS hD hP hK hA hN hts hx hb hr hml hown hlocks hiX5 ih1 ih3 ih5 ih10; intro hq_; first | exact hpf2 (by omega) | (rw [← eq0_]; exact congrArg Prod.snd (hv.trans (congrArg (mP1 r N ou (nI ((b - lf) % 2)) wx q) ht_)))) _ _ _ hP hD hS (lv_sub hl [1, 2, 3, 4, 0] rfl)
                          · skip
                            have eq0_ := (nI_eq (a := q) (b := k0) (by omega) (by omega)).mp c206_12
                            refine lv_iload hx hb dX5_layPlay_209 (lv_at hl 6 rfl) ?_
                            refine lv_goto (tgt := 218) hx hb dX5_layPlay_211 (by decide) ?_
                            refine va_put (D := D) (ci := 5) (v := .int fi) (ty := .int) (C := RX5) (T := TX5) (N := 35) hx hb hts hiX5 tyX5 tyX5_ok nmX5 hown hK hP hD hS 0 rfl rfl 20 (by decide) (hts (.fieldLink RX5 169 "HeardSecondModel" "playFirst" "I") (by decide +kernel)) (fun _ h9 => h9) rfl (by decide +kernel) (rfl) rfl (Nat.le_of_ble_eq_true rfl) dX5_layPlay_218 (fun H locs hP hD hS => ?_)
                            have hP : va_P D vwCl [(m0, .inr (5, [.ref pg, .int (nI n), .ref rd, .int rmy, .int rpt, .int sta, .int (nI N), .int pt, .int (nI k0), .int ou, .int si, .int en, .int w0, .int w1, .int br, .int cr, .ref ro, .ref fa, .ref wo, .ref ah, .int fi, .int (nI t), .ref he, .ref wy, .ref on_, .ref pa, .ref kr, .ref kn, .ref kh, .int kt, .int kc, .int sd, .ref sr, .ref sn, .long ha])), (ro, .inl (cA, 15, .inl r)), (wo, .inl (cA, 64, .inl wx)), (ah, .inl (cA, 64, .inl (upd g2 q bs)))] H := hP
                            have hD : va_D A [(m0, .inr (5, [.ref pg, .int (nI n), .ref rd, .int rmy, .int rpt, .int sta, .int (nI N), .int pt, .int (nI k0), .int ou, .int si, .int en, .int w0, .int w1, .int br, .int cr, .ref ro, .ref fa, .ref wo, .ref ah, .int fi, .int (nI t), .ref he, .ref wy, .ref on_, .ref pa, .ref kr, .ref kn, .ref kh, .int kt, .int kc, .int sd, .ref sr, .ref sn, .long ha])), (ro, .inl (cA, 15, .inl r)), (wo, .inl (cA, 64, .inl wx)), (ah, .inl (cA, 64, .inl (upd g2 q bs)))] := hD
                            refine lv_iinc (v := nI (q + 1)) (lv' := [(4, .int (nI (q + 1))), (0, .ref m0), (1, .int (nI b)), (2, .int (nI lf)), (3, .int (nI ((b - lf) % 2))), (5, .int bs), (6, .int fi), (7, .int (nI sx))]) hx hb dX5_layPlay_221 hl (k := 4) rfl (nI_1 q) (by decide) rfl (fun ls hl => ?_)
                            refine lv_goto (tgt := 41) hx hb dX5_layPlay_224 (by decide) ?_
                            exact ih5 (q + 1) (upd g2 q bs) fi (by omega) (by first | assumption | omega) (by clear hret hl hS hD hP hK hA hN hts hx hb hr hml hown hlocks hiX5 ih1 ih3 ih5 ih10; intro j hj; unfold upd; split <;> first | exact hg2 j (by omega) | (rename_i e_; rw [e_]; exact congrArg Prod.fst (hv.trans (congrArg (mP1 r N ou (nI ((b - lf) % 2)) wx q) ht_)))) (by clear hret hl hS hD hP hK hA hN hts hx hb hr hml hown hlocks hiX5 ih1 ih3 ih5 ih10; intro hq_; first | exact hpf2 (by omega) | (rw [← eq0_]; exact congrArg Prod.snd (hv.trans (congrArg (mP1 r N ou (nI ((b - lf) % 2)) wx q) ht_)))) _ _ _ hP hD hS (lv_sub hl [1, 2, 3, 4, 0] rfl)
                        · skip
                          have hltsx : sx < N := Nat.lt_of_not_le (fun q_ => c69_11 ((nI_leI (a := N) (b := sx) (by omega) (by omega)).mpr q_))
                          refine lv_aload_n hx hb dX5_layPlay_72 rfl (lv_at hl 0 rfl) ?_
                          refine va_get (D := D) (ci := 5) (v := .ref ro) (C := RX5) (T := TX5) (N := 35) hx hb hts hiX5 hown hK hP 0 rfl rfl 16 (by decide) (hts (.fieldLink RX5 16 "HeardSecondModel" "rows" "[I") (by decide +kernel)) (fun _ h9 => h9) rfl dX5_layPlay_73 ?_
                          refine lv_iconst (v := 3) hx hb dX5_layPlay_76 (by decide) ?_
                          refine lv_iload hx hb dX5_layPlay_77 (lv_at hl 7 rfl) ?_
                          refine lv_imul hx hb dX5_layPlay_79 ?_
                          refine lv_iconst (v := 1) hx hb dX5_layPlay_80 (by decide) ?_
                          refine lv_iadd hx hb dX5_layPlay_81 ?_
                          refine z_top (y := nI (3 * sx + 1)) (nI_31 sx) ?_
                          refine va_iald hx hb hK hP 1 0 rfl rfl (z_inN (by omega) (by decide)) dX5_layPlay_82 ?_
                          refine z_top (y := r (3 * sx + 1)) (by rw [z_nat (by omega)]) ?_
                          refine lv_iload_n hx hb dX5_layPlay_83 rfl (lv_at hl 3 rfl) ?_
                          refine lv_icmp_ne (tgt := 114) hx hb dX5_layPlay_84 (by decide) (fun c84_13 => ?_) (fun c84_13 => ?_)
                          · skip
                            refine lv_aload_n hx hb dX5_layPlay_114 rfl (lv_at hl 0 rfl) ?_
                            refine va_get (D := D) (ci := 5) (v := .ref wo) (C := RX5) (T := TX5) (N := 35) hx hb hts hiX5 hown hK hP 0 rfl rfl 18 (by decide) (hts (.fieldLink RX5 22 "HeardSecondModel" "worth" "[I") (by decide +kernel)) (fun _ h9 => h9) rfl dX5_layPlay_115 ?_
                            refine lv_iload hx hb dX5_layPlay_118 (lv_at hl 4 rfl) ?_
                            refine va_iald hx hb hK hP 2 0 rfl rfl (z_inN (by omega) (by decide)) dX5_layPlay_120 ?_
                            refine z_top (y := wx q) (by rw [z_nat (by omega)]) ?_
                            refine lv_istore (lv' := [(8, .int (wx q)), (0, .ref m0), (1, .int (nI b)), (2, .int (nI lf)), (3, .int (nI ((b - lf) % 2))), (4, .int (nI q)), (5, .int bs), (6, .int fi), (7, .int (nI sx))]) hx hb dX5_layPlay_121 hl (by decide) rfl (fun ls hl => ?_)
                            refine lv_iload_n hx hb dX5_layPlay_123 rfl (lv_at hl 4 rfl) ?_
                            refine lv_if_ne (tgt := 142) hx hb dX5_layPlay_124 (by decide) (fun c124_14 => ?_) (fun c124_14 => ?_)
                            · skip
                              refine lv_iload hx hb dX5_layPlay_142 (lv_at hl 0 rfl) ?_
                              refine lv_iload hx hb dX5_layPlay_144 (lv_at hl 6 rfl) ?_
                              refine lv_icmp_ge (tgt := 153) hx hb dX5_layPlay_146 (by decide) (fun c146_15 => ?_) (fun c146_15 => ?_)
                              · skip
                                refine lv_iconst (v := 0) hx hb dX5_layPlay_153 (by decide) ?_
                                refine lv_istore (lv' := [(9, .int 0), (8, .int (wx q)), (0, .ref m0), (1, .int (nI b)), (2, .int (nI lf)), (3, .int (nI ((b - lf) % 2))), (4, .int (nI q)), (5, .int bs), (6, .int fi), (7, .int (nI sx))]) hx hb dX5_layPlay_154 hl (by decide) rfl (fun ls hl => ?_)
                                refine lv_iload hx hb dX5_layPlay_156 (lv_at hl 0 rfl) ?_
                                refine lv_if_eq (tgt := 166) hx hb dX5_layPlay_158 (by decide) (fun c158_16 => ?_) (fun c158_16 => ?_)
                                · skip
                                  refine lv_iload hx hb dX5_layPlay_166 (lv_at hl 7 rfl) ?_
                                  refine lv_istore (lv' := [(5, .int bs), (9, .int 0), (8, .int (wx q)), (0, .ref m0), (1, .int (nI b)), (2, .int (nI lf)), (3, .int (nI ((b - lf) % 2))), (4, .int (nI q)), (6, .int fi), (7, .int (nI sx))]) hx hb dX5_layPlay_168 hl (by decide) rfl (fun ls hl => ?_)
                                  refine lv_iload hx hb dX5_layPlay_170 (lv_at hl 1 rfl) ?_
                                  refine lv_if_eq (tgt := 180) hx hb dX5_layPlay_172 (by decide) (fun c172_17 => ?_) (fun c172_17 => ?_)
                                  · skip
                                    refine lv_iload hx hb dX5_layPlay_180 (lv_at hl 8 rfl) ?_
                                    refine lv_istore (lv' := [(6, .int fi), (5, .int bs), (9, .int 0), (8, .int (wx q)), (0, .ref m0), (1, .int (nI b)), (2, .int (nI lf)), (3, .int (nI ((b - lf) % 2))), (4, .int (nI q)), (7, .int (nI sx))]) hx hb dX5_layPlay_182 hl (by decide) rfl (fun ls hl => ?_)
                                    refine lv_iinc (v := nI (sx + 1)) (lv' := [(7, .int (nI (sx + 1))), (6, .int fi), (5, .int bs), (9, .int 0), (8, .int (wx q)), (0, .ref m0), (1, .int (nI b)), (2, .int (nI lf)), (3, .int (nI ((b - lf) % 2))), (4, .int (nI q))]) hx hb dX5_layPlay_184 hl (k := 9) rfl (nI_1 sx) (by decide) rfl (fun ls hl => ?_)
                                    refine lv_goto (tgt := 63) hx hb dX5_layPlay_187 (by decide) ?_
                                    exact ih10 (sx + 1) bs fi (by omega) (by first | assumption | omega) (by clear hret hl hS hD hP hK hA hN hts hx hb hr hml hown hlocks hiX5 ih1 ih3 ih5 ih10; have ev_ : mVv r N ou (nI ((b - lf) % 2)) wx q sx = (wx q) := (by unfold mVv; first | (rw [if_pos ⟨by assumption, by assumption⟩]; done) | (rw [if_neg (by rintro ⟨q1_, q2_⟩; first | exact absurd q1_ (by assumption) | exact absurd (q2_.symm.trans (show mCounts r ou sx q = false by assumption)) (by decide))]; done)); rw [mP1, ← hv, ev_]; dsimp only; first | (rw [if_pos (show (if nI ((b - lf) % 2) = 0 then bs < (wx q) else (wx q) < bs) from by first | (rw [if_pos (by assumption)]; exact Int32.not_le.mp (by assumption)) | (rw [if_neg (by assumption)]; exact Int32.not_le.mp (by assumption)))]; done) | (rw [if_neg (show ¬ (if nI ((b - lf) % 2) = 0 then bs < (wx q) else (wx q) < bs) from by first | (rw [if_pos (by assumption)]; exact Int32.not_lt.mpr (by assumption)) | (rw [if_neg (by assumption)]; exact Int32.not_lt.mpr (by assumption)))]; done)) _ _ _ hP hD hS (lv_sub hl [5, 6, 7, 8, 9, 2, 1, 0] rfl)
                                  · skip
                                    exact absurd (by decide) c172_17
                                · skip
                                  exact absurd (by decide) c158_16
                              · skip
                                refine lv_iconst (v := 1) hx hb dX5_layPlay_149 (by decide) ?_
                                refine lv_goto (tgt := 154) hx hb dX5_layPlay_150 (by decide) ?_
                                refine lv_istore (lv' := [(9, .int 1), (8, .int (wx q)), (0, .ref m0), (1, .int (nI b)), (2, .int (nI lf)), (3, .int (nI ((b - lf) % 2))), (4, .int (nI q)), (5, .int bs), (6, .int fi), (7, .int (nI sx))]) hx hb dX5_layPlay_154 hl (by decide) rfl (fun ls hl => ?_)
                                refine lv_iload hx hb dX5_layPlay_156 (lv_at hl 0 rfl) ?_
                                refine lv_if_eq (tgt := 166) hx hb dX5_layPlay_158 (by decide) (fun c158_18 => ?_) (fun c158_18 => ?_)
                                · skip
                                  exact absurd c158_18 (by decide)
                                · skip
                                  refine lv_iload hx hb dX5_layPlay_161 (lv_at hl 1 rfl) ?_
                                  refine lv_goto (tgt := 168) hx hb dX5_layPlay_163 (by decide) ?_
                                  refine lv_istore (lv' := [(5, .int (wx q)), (9, .int 1), (8, .int (wx q)), (0, .ref m0), (1, .int (nI b)), (2, .int (nI lf)), (3, .int (nI ((b - lf) % 2))), (4, .int (nI q)), (6, .int fi), (7, .int (nI sx))]) hx hb dX5_layPlay_168 hl (by decide) rfl (fun ls hl => ?_)
                                  refine lv_iload hx hb dX5_layPlay_170 (lv_at hl 1 rfl) ?_
                                  refine lv_if_eq (tgt := 180) hx hb dX5_layPlay_172 (by decide) (fun c172_19 => ?_) (fun c172_19 => ?_)
                                  · skip
                                    exact absurd c172_19 (by decide)
                                  · skip
                                    refine lv_iload hx hb dX5_layPlay_175 (lv_at hl 9 rfl) ?_
                                    refine lv_goto (tgt := 182) hx hb dX5_layPlay_177 (by decide) ?_
                                    refine lv_istore (lv' := [(6, .int (nI sx)), (5, .int (wx q)), (9, .int 1), (8, .int (wx q)), (0, .ref m0), (1, .int (nI b)), (2, .int (nI lf)), (3, .int (nI ((b - lf) % 2))), (4, .int (nI q)), (7, .int (nI sx))]) hx hb dX5_layPlay_182 hl (by decide) rfl (fun ls hl => ?_)
                                    refine lv_iinc (v := nI (sx + 1)) (lv' := [(7, .int (nI (sx + 1))), (6, .int (nI sx)), (5, .int (wx q)), (9, .int 1), (8, .int (wx q)), (0, .ref m0), (1, .int (nI b)), (2, .int (nI lf)), (3, .int (nI ((b - lf) % 2))), (4, .int (nI q))]) hx hb dX5_layPlay_184 hl (k := 9) rfl (nI_1 sx) (by decide) rfl (fun ls hl => ?_)
                                    refine lv_goto (tgt := 63) hx hb dX5_layPlay_187 (by decide) ?_
                                    exact ih10 (sx + 1) (wx q) (nI sx) (by omega) (by first | assumption | omega) (by clear hret hl hS hD hP hK hA hN hts hx hb hr hml hown hlocks hiX5 ih1 ih3 ih5 ih10; have ev_ : mVv r N ou (nI ((b - lf) % 2)) wx q sx = (wx q) := (by unfold mVv; first | (rw [if_pos ⟨by assumption, by assumption⟩]; done) | (rw [if_neg (by rintro ⟨q1_, q2_⟩; first | exact absurd q1_ (by assumption) | exact absurd (q2_.symm.trans (show mCounts r ou sx q = false by assumption)) (by decide))]; done)); rw [mP1, ← hv, ev_]; dsimp only; first | (rw [if_pos (show (if nI ((b - lf) % 2) = 0 then bs < (wx q) else (wx q) < bs) from by first | (rw [if_pos (by assumption)]; exact Int32.not_le.mp (by assumption)) | (rw [if_neg (by assumption)]; exact Int32.not_le.mp (by assumption)))]; done) | (rw [if_neg (show ¬ (if nI ((b - lf) % 2) = 0 then bs < (wx q) else (wx q) < bs) from by first | (rw [if_pos (by assumption)]; exact Int32.not_lt.mpr (by assumption)) | (rw [if_neg (by assumption)]; exact Int32.not_lt.mpr (by assumption)))]; done)) _ _ _ hP hD hS (lv_sub hl [5, 6, 7, 8, 9, 2, 1, 0] rfl)
                            · skip
                              refine lv_iload hx hb dX5_layPlay_127 (lv_at hl 0 rfl) ?_
                              refine lv_iload hx hb dX5_layPlay_129 (lv_at hl 6 rfl) ?_
                              refine lv_icmp_le (tgt := 138) hx hb dX5_layPlay_131 (by decide) (fun c131_20 => ?_) (fun c131_20 => ?_)
                              · skip
                                refine lv_iconst (v := 0) hx hb dX5_layPlay_138 (by decide) ?_
                                refine lv_goto (tgt := 154) hx hb dX5_layPlay_139 (by decide) ?_
                                refine lv_istore (lv' := [(9, .int 0), (8, .int (wx q)), (0, .ref m0), (1, .int (nI b)), (2, .int (nI lf)), (3, .int (nI ((b - lf) % 2))), (4, .int (nI q)), (5, .int bs), (6, .int fi), (7, .int (nI sx))]) hx hb dX5_layPlay_154 hl (by decide) rfl (fun ls hl => ?_)
                                refine lv_iload hx hb dX5_layPlay_156 (lv_at hl 0 rfl) ?_
                                refine lv_if_eq (tgt := 166) hx hb dX5_layPlay_158 (by decide) (fun c158_21 => ?_) (fun c158_21 => ?_)
                                · skip
                                  refine lv_iload hx hb dX5_layPlay_166 (lv_at hl 7 rfl) ?_
                                  refine lv_istore (lv' := [(5, .int bs), (9, .int 0), (8, .int (wx q)), (0, .ref m0), (1, .int (nI b)), (2, .int (nI lf)), (3, .int (nI ((b - lf) % 2))), (4, .int (nI q)), (6, .int fi), (7, .int (nI sx))]) hx hb dX5_layPlay_168 hl (by decide) rfl (fun ls hl => ?_)
                                  refine lv_iload hx hb dX5_layPlay_170 (lv_at hl 1 rfl) ?_
                                  refine lv_if_eq (tgt := 180) hx hb dX5_layPlay_172 (by decide) (fun c172_22 => ?_) (fun c172_22 => ?_)
                                  · skip
                                    refine lv_iload hx hb dX5_layPlay_180 (lv_at hl 8 rfl) ?_
                                    refine lv_istore (lv' := [(6, .int fi), (5, .int bs), (9, .int 0), (8, .int (wx q)), (0, .ref m0), (1, .int (nI b)), (2, .int (nI lf)), (3, .int (nI ((b - lf) % 2))), (4, .int (nI q)), (7, .int (nI sx))]) hx hb dX5_layPlay_182 hl (by decide) rfl (fun ls hl => ?_)
                                    refine lv_iinc (v := nI (sx + 1)) (lv' := [(7, .int (nI (sx + 1))), (6, .int fi), (5, .int bs), (9, .int 0), (8, .int (wx q)), (0, .ref m0), (1, .int (nI b)), (2, .int (nI lf)), (3, .int (nI ((b - lf) % 2))), (4, .int (nI q))]) hx hb dX5_layPlay_184 hl (k := 9) rfl (nI_1 sx) (by decide) rfl (fun ls hl => ?_)
                                    refine lv_goto (tgt := 63) hx hb dX5_layPlay_187 (by decide) ?_
                                    exact ih10 (sx + 1) bs fi (by omega) (by first | assumption | omega) (by clear hret hl hS hD hP hK hA hN hts hx hb hr hml hown hlocks hiX5 ih1 ih3 ih5 ih10; have ev_ : mVv r N ou (nI ((b - lf) % 2)) wx q sx = (wx q) := (by unfold mVv; first | (rw [if_pos ⟨by assumption, by assumption⟩]; done) | (rw [if_neg (by rintro ⟨q1_, q2_⟩; first | exact absurd q1_ (by assumption) | exact absurd (q2_.symm.trans (show mCounts r ou sx q = false by assumption)) (by decide))]; done)); rw [mP1, ← hv, ev_]; dsimp only; first | (rw [if_pos (show (if nI ((b - lf) % 2) = 0 then bs < (wx q) else (wx q) < bs) from by first | (rw [if_pos (by assumption)]; exact Int32.not_le.mp (by assumption)) | (rw [if_neg (by assumption)]; exact Int32.not_le.mp (by assumption)))]; done) | (rw [if_neg (show ¬ (if nI ((b - lf) % 2) = 0 then bs < (wx q) else (wx q) < bs) from by first | (rw [if_pos (by assumption)]; exact Int32.not_lt.mpr (by assumption)) | (rw [if_neg (by assumption)]; exact Int32.not_lt.mpr (by assumption)))]; done)) _ _ _ hP hD hS (lv_sub hl [5, 6, 7, 8, 9, 2, 1, 0] rfl)
                                  · skip
                                    exact absurd (by decide) c172_22
                                · skip
                                  exact absurd (by decide) c158_21
                              · skip
                                refine lv_iconst (v := 1) hx hb dX5_layPlay_134 (by decide) ?_
                                refine lv_goto (tgt := 154) hx hb dX5_layPlay_135 (by decide) ?_
                                refine lv_istore (lv' := [(9, .int 1), (8, .int (wx q)), (0, .ref m0), (1, .int (nI b)), (2, .int (nI lf)), (3, .int (nI ((b - lf) % 2))), (4, .int (nI q)), (5, .int bs), (6, .int fi), (7, .int (nI sx))]) hx hb dX5_layPlay_154 hl (by decide) rfl (fun ls hl => ?_)
                                refine lv_iload hx hb dX5_layPlay_156 (lv_at hl 0 rfl) ?_
                                refine lv_if_eq (tgt := 166) hx hb dX5_layPlay_158 (by decide) (fun c158_23 => ?_) (fun c158_23 => ?_)
                                · skip
                                  exact absurd c158_23 (by decide)
                                · skip
                                  refine lv_iload hx hb dX5_layPlay_161 (lv_at hl 1 rfl) ?_
                                  refine lv_goto (tgt := 168) hx hb dX5_layPlay_163 (by decide) ?_
                                  refine lv_istore (lv' := [(5, .int (wx q)), (9, .int 1), (8, .int (wx q)), (0, .ref m0), (1, .int (nI b)), (2, .int (nI lf)), (3, .int (nI ((b - lf) % 2))), (4, .int (nI q)), (6, .int fi), (7, .int (nI sx))]) hx hb dX5_layPlay_168 hl (by decide) rfl (fun ls hl => ?_)
                                  refine lv_iload hx hb dX5_layPlay_170 (lv_at hl 1 rfl) ?_
                                  refine lv_if_eq (tgt := 180) hx hb dX5_layPlay_172 (by decide) (fun c172_24 => ?_) (fun c172_24 => ?_)
                                  · skip
                                    exact absurd c172_24 (by decide)
                                  · skip
                                    refine lv_iload hx hb dX5_layPlay_175 (lv_at hl 9 rfl) ?_
                                    refine lv_goto (tgt := 182) hx hb dX5_layPlay_177 (by decide) ?_
                                    refine lv_istore (lv' := [(6, .int (nI sx)), (5, .int (wx q)), (9, .int 1), (8, .int (wx q)), (0, .ref m0), (1, .int (nI b)), (2, .int (nI lf)), (3, .int (nI ((b - lf) % 2))), (4, .int (nI q)), (7, .int (nI sx))]) hx hb dX5_layPlay_182 hl (by decide) rfl (fun ls hl => ?_)
                                    refine lv_iinc (v := nI (sx + 1)) (lv' := [(7, .int (nI (sx + 1))), (6, .int (nI sx)), (5, .int (wx q)), (9, .int 1), (8, .int (wx q)), (0, .ref m0), (1, .int (nI b)), (2, .int (nI lf)), (3, .int (nI ((b - lf) % 2))), (4, .int (nI q))]) hx hb dX5_layPlay_184 hl (k := 9) rfl (nI_1 sx) (by decide) rfl (fun ls hl => ?_)
                                    refine lv_goto (tgt := 63) hx hb dX5_layPlay_187 (by decide) ?_
                                    exact ih10 (sx + 1) (wx q) (nI sx) (by omega) (by first | assumption | omega) (by clear hret hl hS hD hP hK hA hN hts hx hb hr hml hown hlocks hiX5 ih1 ih3 ih5 ih10; have ev_ : mVv r N ou (nI ((b - lf) % 2)) wx q sx = (wx q) := (by unfold mVv; first | (rw [if_pos ⟨by assumption, by assumption⟩]; done) | (rw [if_neg (by rintro ⟨q1_, q2_⟩; first | exact absurd q1_ (by assumption) | exact absurd (q2_.symm.trans (show mCounts r ou sx q = false by assumption)) (by decide))]; done)); rw [mP1, ← hv, ev_]; dsimp only; first | (rw [if_pos (show (if nI ((b - lf) % 2) = 0 then bs < (wx q) else (wx q) < bs) from by first | (rw [if_pos (by assumption)]; exact Int32.not_le.mp (by assumption)) | (rw [if_neg (by assumption)]; exact Int32.not_le.mp (by assumption)))]; done) | (rw [if_neg (show ¬ (if nI ((b - lf) % 2) = 0 then bs < (wx q) else (wx q) < bs) from by first | (rw [if_pos (by assumption)]; exact Int32.not_lt.mpr (by assumption)) | (rw [if_neg (by assumption)]; exact Int32.not_lt.mpr (by assumption)))]; done)) _ _ _ hP hD hS (lv_sub hl [5, 6, 7, 8, 9, 2, 1, 0] rfl)
                          · skip
                            refine lv_aload_n hx hb dX5_layPlay_87 rfl (lv_at hl 0 rfl) ?_
                            refine lv_iload hx hb dX5_layPlay_88 (lv_at hl 7 rfl) ?_
                            refine lv_iload hx hb dX5_layPlay_90 (lv_at hl 4 rfl) ?_
                            refine z_bri (z_runV (As := [.int (nI sx), .int (nI q)]) (rest := []) (ci := 5) ⟨hx, hb, hml, hown, hts⟩ (c_X5_counts (m0 := m0) (pg := pg) (rd := rd) (ro := ro) (fa := fa) (wo := wo) (ah := ah) (he := he) (wy := wy) (on_ := on_) (pa := pa) (kr := kr) (kn := kn) (kh := kh) (sr := sr) (sn := sn) (n := n) (N := N) (t := t) (rmy := rmy) (rpt := rpt) (sta := sta) (pt := pt) (nw := nI k0) (ou := ou) (si := si) (en := en) (w0 := w0) (w1 := w1) (br := br) (cr := cr) (pf := pf2) (kt := kt) (kc := kc) (sd := sd) (ha := ha) (r := r) (sx := sx) (k := q) (by first | assumption | omega) (by first | assumption | omega) _) (cwV 2 hts gX5_layPlay_X5_counts rfl rfl rfl (by decide +kernel) ⟨Nat.le_of_ble_eq_true rfl, Nat.le_of_ble_eq_true rfl⟩) hK hP hD hN [0, 1] rfl rfl rfl rfl rfl hl.1 rfl (Nat.le_of_ble_eq_true rfl) dX5_layPlay_92 ⟨Nat.zero_le _, Nat.zero_le _⟩) hP hD hS hA [0, 1] rfl (fun r_26 u_27 H locs hq_25 hP hS => ?_)
                            obtain rfl : r_26 = bI (mCounts r ou sx q) := hq_25
                            refine lv_if_eq (tgt := 114) hx hb dX5_layPlay_95 (by decide) (fun c95_28 => ?_) (fun c95_28 => ?_)
                            · skip
                              have c95_28 := bI_0.mp c95_28
                              refine lv_aload_n hx hb dX5_layPlay_114 rfl (lv_at hl 0 rfl) ?_
                              refine va_get (D := D) (ci := 5) (v := .ref wo) (C := RX5) (T := TX5) (N := 35) hx hb hts hiX5 hown hK hP 0 rfl rfl 18 (by decide) (hts (.fieldLink RX5 22 "HeardSecondModel" "worth" "[I") (by decide +kernel)) (fun _ h9 => h9) rfl dX5_layPlay_115 ?_
                              refine lv_iload hx hb dX5_layPlay_118 (lv_at hl 4 rfl) ?_
                              refine va_iald hx hb hK hP 2 0 rfl rfl (z_inN (by omega) (by decide)) dX5_layPlay_120 ?_
                              refine z_top (y := wx q) (by rw [z_nat (by omega)]) ?_
                              refine lv_istore (lv' := [(8, .int (wx q)), (0, .ref m0), (1, .int (nI b)), (2, .int (nI lf)), (3, .int (nI ((b - lf) % 2))), (4, .int (nI q)), (5, .int bs), (6, .int fi), (7, .int (nI sx))]) hx hb dX5_layPlay_121 hl (by decide) rfl (fun ls hl => ?_)
                              refine lv_iload_n hx hb dX5_layPlay_123 rfl (lv_at hl 4 rfl) ?_
                              refine lv_if_ne (tgt := 142) hx hb dX5_layPlay_124 (by decide) (fun c124_29 => ?_) (fun c124_29 => ?_)
                              · skip
                                refine lv_iload hx hb dX5_layPlay_142 (lv_at hl 0 rfl) ?_
                                refine lv_iload hx hb dX5_layPlay_144 (lv_at hl 6 rfl) ?_
                                refine lv_icmp_ge (tgt := 153) hx hb dX5_layPlay_146 (by decide) (fun c146_30 => ?_) (fun c146_30 => ?_)
                                · skip
                                  refine lv_iconst (v := 0) hx hb dX5_layPlay_153 (by decide) ?_
                                  refine lv_istore (lv' := [(9, .int 0), (8, .int (wx q)), (0, .ref m0), (1, .int (nI b)), (2, .int (nI lf)), (3, .int (nI ((b - lf) % 2))), (4, .int (nI q)), (5, .int bs), (6, .int fi), (7, .int (nI sx))]) hx hb dX5_layPlay_154 hl (by decide) rfl (fun ls hl => ?_)
                                  refine lv_iload hx hb dX5_layPlay_156 (lv_at hl 0 rfl) ?_
                                  refine lv_if_eq (tgt := 166) hx hb dX5_layPlay_158 (by decide) (fun c158_31 => ?_) (fun c158_31 => ?_)
                                  · skip
                                    refine lv_iload hx hb dX5_layPlay_166 (lv_at hl 7 rfl) ?_
                                    refine lv_istore (lv' := [(5, .int bs), (9, .int 0), (8, .int (wx q)), (0, .ref m0), (1, .int (nI b)), (2, .int (nI lf)), (3, .int (nI ((b - lf) % 2))), (4, .int (nI q)), (6, .int fi), (7, .int (nI sx))]) hx hb dX5_layPlay_168 hl (by decide) rfl (fun ls hl => ?_)
                                    refine lv_iload hx hb dX5_layPlay_170 (lv_at hl 1 rfl) ?_
                                    refine lv_if_eq (tgt := 180) hx hb dX5_layPlay_172 (by decide) (fun c172_32 => ?_) (fun c172_32 => ?_)
                                    · skip
                                      refine lv_iload hx hb dX5_layPlay_180 (lv_at hl 8 rfl) ?_
                                      refine lv_istore (lv' := [(6, .int fi), (5, .int bs), (9, .int 0), (8, .int (wx q)), (0, .ref m0), (1, .int (nI b)), (2, .int (nI lf)), (3, .int (nI ((b - lf) % 2))), (4, .int (nI q)), (7, .int (nI sx))]) hx hb dX5_layPlay_182 hl (by decide) rfl (fun ls hl => ?_)
                                      refine lv_iinc (v := nI (sx + 1)) (lv' := [(7, .int (nI (sx + 1))), (6, .int fi), (5, .int bs), (9, .int 0), (8, .int (wx q)), (0, .ref m0), (1, .int (nI b)), (2, .int (nI lf)), (3, .int (nI ((b - lf) % 2))), (4, .int (nI q))]) hx hb dX5_layPlay_184 hl (k := 9) rfl (nI_1 sx) (by decide) rfl (fun ls hl => ?_)
                                      refine lv_goto (tgt := 63) hx hb dX5_layPlay_187 (by decide) ?_
                                      exact ih10 (sx + 1) bs fi (by omega) (by first | assumption | omega) (by clear hret hl hS hD hP hK hA hN hts hx hb hr hml hown hlocks hiX5 ih1 ih3 ih5 ih10; have ev_ : mVv r N ou (nI ((b - lf) % 2)) wx q sx = (wx q) := (by unfold mVv; first | (rw [if_pos ⟨by assumption, by assumption⟩]; done) | (rw [if_neg (by rintro ⟨q1_, q2_⟩; first | exact absurd q1_ (by assumption) | exact absurd (q2_.symm.trans (show mCounts r ou sx q = false by assumption)) (by decide))]; done)); rw [mP1, ← hv, ev_]; dsimp only; first | (rw [if_pos (show (if nI ((b - lf) % 2) = 0 then bs < (wx q) else (wx q) < bs) from by first | (rw [if_pos (by assumption)]; exact Int32.not_le.mp (by assumption)) | (rw [if_neg (by assumption)]; exact Int32.not_le.mp (by assumption)))]; done) | (rw [if_neg (show ¬ (if nI ((b - lf) % 2) = 0 then bs < (wx q) else (wx q) < bs) from by first | (rw [if_pos (by assumption)]; exact Int32.not_lt.mpr (by assumption)) | (rw [if_neg (by assumption)]; exact Int32.not_lt.mpr (by assumption)))]; done)) _ _ _ hP hD hS (lv_sub hl [5, 6, 7, 8, 9, 2, 1, 0] rfl)
                                    · skip
                                      exact absurd (by decide) c172_32
                                  · skip
                                    exact absurd (by decide) c158_31
                                · skip
                                  refine lv_iconst (v := 1) hx hb dX5_layPlay_149 (by decide) ?_
                                  refine lv_goto (tgt := 154) hx hb dX5_layPlay_150 (by decide) ?_
                                  refine lv_istore (lv' := [(9, .int 1), (8, .int (wx q)), (0, .ref m0), (1, .int (nI b)), (2, .int (nI lf)), (3, .int (nI ((b - lf) % 2))), (4, .int (nI q)), (5, .int bs), (6, .int fi), (7, .int (nI sx))]) hx hb dX5_layPlay_154 hl (by decide) rfl (fun ls hl => ?_)
                                  refine lv_iload hx hb dX5_layPlay_156 (lv_at hl 0 rfl) ?_
                                  refine lv_if_eq (tgt := 166) hx hb dX5_layPlay_158 (by decide) (fun c158_33 => ?_) (fun c158_33 => ?_)
                                  · skip
                                    exact absurd c158_33 (by decide)
                                  · skip
                                    refine lv_iload hx hb dX5_layPlay_161 (lv_at hl 1 rfl) ?_
                                    refine lv_goto (tgt := 168) hx hb dX5_layPlay_163 (by decide) ?_
                                    refine lv_istore (lv' := [(5, .int (wx q)), (9, .int 1), (8, .int (wx q)), (0, .ref m0), (1, .int (nI b)), (2, .int (nI lf)), (3, .int (nI ((b - lf) % 2))), (4, .int (nI q)), (6, .int fi), (7, .int (nI sx))]) hx hb dX5_layPlay_168 hl (by decide) rfl (fun ls hl => ?_)
                                    refine lv_iload hx hb dX5_layPlay_170 (lv_at hl 1 rfl) ?_
                                    refine lv_if_eq (tgt := 180) hx hb dX5_layPlay_172 (by decide) (fun c172_34 => ?_) (fun c172_34 => ?_)
                                    · skip
                                      exact absurd c172_34 (by decide)
                                    · skip
                                      refine lv_iload hx hb dX5_layPlay_175 (lv_at hl 9 rfl) ?_
                                      refine lv_goto (tgt := 182) hx hb dX5_layPlay_177 (by decide) ?_
                                      refine lv_istore (lv' := [(6, .int (nI sx)), (5, .int (wx q)), (9, .int 1), (8, .int (wx q)), (0, .ref m0), (1, .int (nI b)), (2, .int (nI lf)), (3, .int (nI ((b - lf) % 2))), (4, .int (nI q)), (7, .int (nI sx))]) hx hb dX5_layPlay_182 hl (by decide) rfl (fun ls hl => ?_)
                                      refine lv_iinc (v := nI (sx + 1)) (lv' := [(7, .int (nI (sx + 1))), (6, .int (nI sx)), (5, .int (wx q)), (9, .int 1), (8, .int (wx q)), (0, .ref m0), (1, .int (nI b)), (2, .int (nI lf)), (3, .int (nI ((b - lf) % 2))), (4, .int (nI q))]) hx hb dX5_layPlay_184 hl (k := 9) rfl (nI_1 sx) (by decide) rfl (fun ls hl => ?_)
                                      refine lv_goto (tgt := 63) hx hb dX5_layPlay_187 (by decide) ?_
                                      exact ih10 (sx + 1) (wx q) (nI sx) (by omega) (by first | assumption | omega) (by clear hret hl hS hD hP hK hA hN hts hx hb hr hml hown hlocks hiX5 ih1 ih3 ih5 ih10; have ev_ : mVv r N ou (nI ((b - lf) % 2)) wx q sx = (wx q) := (by unfold mVv; first | (rw [if_pos ⟨by assumption, by assumption⟩]; done) | (rw [if_neg (by rintro ⟨q1_, q2_⟩; first | exact absurd q1_ (by assumption) | exact absurd (q2_.symm.trans (show mCounts r ou sx q = false by assumption)) (by decide))]; done)); rw [mP1, ← hv, ev_]; dsimp only; first | (rw [if_pos (show (if nI ((b - lf) % 2) = 0 then bs < (wx q) else (wx q) < bs) from by first | (rw [if_pos (by assumption)]; exact Int32.not_le.mp (by assumption)) | (rw [if_neg (by assumption)]; exact Int32.not_le.mp (by assumption)))]; done) | (rw [if_neg (show ¬ (if nI ((b - lf) % 2) = 0 then bs < (wx q) else (wx q) < bs) from by first | (rw [if_pos (by assumption)]; exact Int32.not_lt.mpr (by assumption)) | (rw [if_neg (by assumption)]; exact Int32.not_lt.mpr (by assumption)))]; done)) _ _ _ hP hD hS (lv_sub hl [5, 6, 7, 8, 9, 2, 1, 0] rfl)
                              · skip
                                refine lv_iload hx hb dX5_layPlay_127 (lv_at hl 0 rfl) ?_
                                refine lv_iload hx hb dX5_layPlay_129 (lv_at hl 6 rfl) ?_
                                refine lv_icmp_le (tgt := 138) hx hb dX5_layPlay_131 (by decide) (fun c131_35 => ?_) (fun c131_35 => ?_)
                                · skip
                                  refine lv_iconst (v := 0) hx hb dX5_layPlay_138 (by decide) ?_
                                  refine lv_goto (tgt := 154) hx hb dX5_layPlay_139 (by decide) ?_
                                  refine lv_istore (lv' := [(9, .int 0), (8, .int (wx q)), (0, .ref m0), (1, .int (nI b)), (2, .int (nI lf)), (3, .int (nI ((b - lf) % 2))), (4, .int (nI q)), (5, .int bs), (6, .int fi), (7, .int (nI sx))]) hx hb dX5_layPlay_154 hl (by decide) rfl (fun ls hl => ?_)
                                  refine lv_iload hx hb dX5_layPlay_156 (lv_at hl 0 rfl) ?_
                                  refine lv_if_eq (tgt := 166) hx hb dX5_layPlay_158 (by decide) (fun c158_36 => ?_) (fun c158_36 => ?_)
                                  · skip
                                    refine lv_iload hx hb dX5_layPlay_166 (lv_at hl 7 rfl) ?_
                                    refine lv_istore (lv' := [(5, .int bs), (9, .int 0), (8, .int (wx q)), (0, .ref m0), (1, .int (nI b)), (2, .int (nI lf)), (3, .int (nI ((b - lf) % 2))), (4, .int (nI q)), (6, .int fi), (7, .int (nI sx))]) hx hb dX5_layPlay_168 hl (by decide) rfl (fun ls hl => ?_)
                                    refine lv_iload hx hb dX5_layPlay_170 (lv_at hl 1 rfl) ?_
                                    refine lv_if_eq (tgt := 180) hx hb dX5_layPlay_172 (by decide) (fun c172_37 => ?_) (fun c172_37 => ?_)
                                    · skip
                                      refine lv_iload hx hb dX5_layPlay_180 (lv_at hl 8 rfl) ?_
                                      refine lv_istore (lv' := [(6, .int fi), (5, .int bs), (9, .int 0), (8, .int (wx q)), (0, .ref m0), (1, .int (nI b)), (2, .int (nI lf)), (3, .int (nI ((b - lf) % 2))), (4, .int (nI q)), (7, .int (nI sx))]) hx hb dX5_layPlay_182 hl (by decide) rfl (fun ls hl => ?_)
                                      refine lv_iinc (v := nI (sx + 1)) (lv' := [(7, .int (nI (sx + 1))), (6, .int fi), (5, .int bs), (9, .int 0), (8, .int (wx q)), (0, .ref m0), (1, .int (nI b)), (2, .int (nI lf)), (3, .int (nI ((b - lf) % 2))), (4, .int (nI q))]) hx hb dX5_layPlay_184 hl (k := 9) rfl (nI_1 sx) (by decide) rfl (fun ls hl => ?_)
                                      refine lv_goto (tgt := 63) hx hb dX5_layPlay_187 (by decide) ?_
                                      exact ih10 (sx + 1) bs fi (by omega) (by first | assumption | omega) (by clear hret hl hS hD hP hK hA hN hts hx hb hr hml hown hlocks hiX5 ih1 ih3 ih5 ih10; have ev_ : mVv r N ou (nI ((b - lf) % 2)) wx q sx = (wx q) := (by unfold mVv; first | (rw [if_pos ⟨by assumption, by assumption⟩]; done) | (rw [if_neg (by rintro ⟨q1_, q2_⟩; first | exact absurd q1_ (by assumption) | exact absurd (q2_.symm.trans (show mCounts r ou sx q = false by assumption)) (by decide))]; done)); rw [mP1, ← hv, ev_]; dsimp only; first | (rw [if_pos (show (if nI ((b - lf) % 2) = 0 then bs < (wx q) else (wx q) < bs) from by first | (rw [if_pos (by assumption)]; exact Int32.not_le.mp (by assumption)) | (rw [if_neg (by assumption)]; exact Int32.not_le.mp (by assumption)))]; done) | (rw [if_neg (show ¬ (if nI ((b - lf) % 2) = 0 then bs < (wx q) else (wx q) < bs) from by first | (rw [if_pos (by assumption)]; exact Int32.not_lt.mpr (by assumption)) | (rw [if_neg (by assumption)]; exact Int32.not_lt.mpr (by assumption)))]; done)) _ _ _ hP hD hS (lv_sub hl [5, 6, 7, 8, 9, 2, 1, 0] rfl)
                                    · skip
                                      exact absurd (by decide) c172_37
                                  · skip
                                    exact absurd (by decide) c158_36
                                · skip
                                  refine lv_iconst (v := 1) hx hb dX5_layPlay_134 (by decide) ?_
                                  refine lv_goto (tgt := 154) hx hb dX5_layPlay_135 (by decide) ?_
                                  refine lv_istore (lv' := [(9, .int 1), (8, .int (wx q)), (0, .ref m0), (1, .int (nI b)), (2, .int (nI lf)), (3, .int (nI ((b - lf) % 2))), (4, .int (nI q)), (5, .int bs), (6, .int fi), (7, .int (nI sx))]) hx hb dX5_layPlay_154 hl (by decide) rfl (fun ls hl => ?_)
                                  refine lv_iload hx hb dX5_layPlay_156 (lv_at hl 0 rfl) ?_
                                  refine lv_if_eq (tgt := 166) hx hb dX5_layPlay_158 (by decide) (fun c158_38 => ?_) (fun c158_38 => ?_)
                                  · skip
                                    exact absurd c158_38 (by decide)
                                  · skip
                                    refine lv_iload hx hb dX5_layPlay_161 (lv_at hl 1 rfl) ?_
                                    refine lv_goto (tgt := 168) hx hb dX5_layPlay_163 (by decide) ?_
                                    refine lv_istore (lv' := [(5, .int (wx q)), (9, .int 1), (8, .int (wx q)), (0, .ref m0), (1, .int (nI b)), (2, .int (nI lf)), (3, .int (nI ((b - lf) % 2))), (4, .int (nI q)), (6, .int fi), (7, .int (nI sx))]) hx hb dX5_layPlay_168 hl (by decide) rfl (fun ls hl => ?_)
                                    refine lv_iload hx hb dX5_layPlay_170 (lv_at hl 1 rfl) ?_
                                    refine lv_if_eq (tgt := 180) hx hb dX5_layPlay_172 (by decide) (fun c172_39 => ?_) (fun c172_39 => ?_)
                                    · skip
                                      exact absurd c172_39 (by decide)
                                    · skip
                                      refine lv_iload hx hb dX5_layPlay_175 (lv_at hl 9 rfl) ?_
                                      refine lv_goto (tgt := 182) hx hb dX5_layPlay_177 (by decide) ?_
                                      refine lv_istore (lv' := [(6, .int (nI sx)), (5, .int (wx q)), (9, .int 1), (8, .int (wx q)), (0, .ref m0), (1, .int (nI b)), (2, .int (nI lf)), (3, .int (nI ((b - lf) % 2))), (4, .int (nI q)), (7, .int (nI sx))]) hx hb dX5_layPlay_182 hl (by decide) rfl (fun ls hl => ?_)
                                      refine lv_iinc (v := nI (sx + 1)) (lv' := [(7, .int (nI (sx + 1))), (6, .int (nI sx)), (5, .int (wx q)), (9, .int 1), (8, .int (wx q)), (0, .ref m0), (1, .int (nI b)), (2, .int (nI lf)), (3, .int (nI ((b - lf) % 2))), (4, .int (nI q))]) hx hb dX5_layPlay_184 hl (k := 9) rfl (nI_1 sx) (by decide) rfl (fun ls hl => ?_)
                                      refine lv_goto (tgt := 63) hx hb dX5_layPlay_187 (by decide) ?_
                                      exact ih10 (sx + 1) (wx q) (nI sx) (by omega) (by first | assumption | omega) (by clear hret hl hS hD hP hK hA hN hts hx hb hr hml hown hlocks hiX5 ih1 ih3 ih5 ih10; have ev_ : mVv r N ou (nI ((b - lf) % 2)) wx q sx = (wx q) := (by unfold mVv; first | (rw [if_pos ⟨by assumption, by assumption⟩]; done) | (rw [if_neg (by rintro ⟨q1_, q2_⟩; first | exact absurd q1_ (by assumption) | exact absurd (q2_.symm.trans (show mCounts r ou sx q = false by assumption)) (by decide))]; done)); rw [mP1, ← hv, ev_]; dsimp only; first | (rw [if_pos (show (if nI ((b - lf) % 2) = 0 then bs < (wx q) else (wx q) < bs) from by first | (rw [if_pos (by assumption)]; exact Int32.not_le.mp (by assumption)) | (rw [if_neg (by assumption)]; exact Int32.not_le.mp (by assumption)))]; done) | (rw [if_neg (show ¬ (if nI ((b - lf) % 2) = 0 then bs < (wx q) else (wx q) < bs) from by first | (rw [if_pos (by assumption)]; exact Int32.not_lt.mpr (by assumption)) | (rw [if_neg (by assumption)]; exact Int32.not_lt.mpr (by assumption)))]; done)) _ _ _ hP hD hS (lv_sub hl [5, 6, 7, 8, 9, 2, 1, 0] rfl)
                            · skip
                              have c95_28 := bI_n0.mp c95_28
                              refine lv_aload_n hx hb dX5_layPlay_98 rfl (lv_at hl 0 rfl) ?_
                              refine va_get (D := D) (ci := 5) (v := .ref wo) (C := RX5) (T := TX5) (N := 35) hx hb hts hiX5 hown hK hP 0 rfl rfl 18 (by decide) (hts (.fieldLink RX5 22 "HeardSecondModel" "worth" "[I") (by decide +kernel)) (fun _ h9 => h9) rfl dX5_layPlay_99 ?_
                              refine lv_aload_n hx hb dX5_layPlay_102 rfl (lv_at hl 0 rfl) ?_
                              refine lv_iload hx hb dX5_layPlay_103 (lv_at hl 7 rfl) ?_
                              refine lv_iload hx hb dX5_layPlay_105 (lv_at hl 4 rfl) ?_
                              refine z_bri (z_runV (As := [.int (nI sx), .int (nI q)]) (rest := [.ref wo]) (ci := 5) ⟨hx, hb, hml, hown, hts⟩ (c_X5_behind (m0 := m0) (pg := pg) (rd := rd) (ro := ro) (fa := fa) (wo := wo) (ah := ah) (he := he) (wy := wy) (on_ := on_) (pa := pa) (kr := kr) (kn := kn) (kh := kh) (sr := sr) (sn := sn) (n := n) (N := N) (t := t) (rmy := rmy) (rpt := rpt) (sta := sta) (pt := pt) (nw := nI k0) (ou := ou) (si := si) (en := en) (w0 := w0) (w1 := w1) (br := br) (cr := cr) (pf := pf2) (kt := kt) (kc := kc) (sd := sd) (ha := ha) (r := r) (sx := sx) (k := q) (by first | assumption | omega) (by first | assumption | omega) (by first | assumption | omega) _) (cwV 2 hts gX5_layPlay_X5_behind rfl rfl rfl (by decide +kernel) ⟨Nat.le_of_ble_eq_true rfl, Nat.le_of_ble_eq_true rfl⟩) hK hP hD hN [0, 1] rfl rfl rfl rfl rfl hl.1 rfl (Nat.le_of_ble_eq_true rfl) dX5_layPlay_107 ⟨Nat.zero_le _, Nat.zero_le _⟩) hP hD hS hA [0, 1] rfl (fun r_41 u_42 H locs hq_40 hP hS => ?_)
                              obtain rfl : r_41 = nI (mBeh r N sx q) := hq_40
                              refine va_iald hx hb hK hP 2 0 rfl rfl (z_inN (mBeh_64 (by omega) (by omega) h5) (by decide)) dX5_layPlay_110 ?_
                              refine z_top (y := wx (mBeh r N sx q)) (by rw [z_nat (by have := mBeh_64 (r := r) (show q < 64 by omega) (show sx < N by omega) h5; omega)]) ?_
                              refine lv_goto (tgt := 121) hx hb dX5_layPlay_111 (by decide) ?_
                              refine lv_istore (lv' := [(8, .int (wx (mBeh r N sx q))), (0, .ref m0), (1, .int (nI b)), (2, .int (nI lf)), (3, .int (nI ((b - lf) % 2))), (4, .int (nI q)), (5, .int bs), (6, .int fi), (7, .int (nI sx))]) hx hb dX5_layPlay_121 hl (by decide) rfl (fun ls hl => ?_)
                              refine lv_iload_n hx hb dX5_layPlay_123 rfl (lv_at hl 4 rfl) ?_
                              refine lv_if_ne (tgt := 142) hx hb dX5_layPlay_124 (by decide) (fun c124_43 => ?_) (fun c124_43 => ?_)
                              · skip
                                refine lv_iload hx hb dX5_layPlay_142 (lv_at hl 0 rfl) ?_
                                refine lv_iload hx hb dX5_layPlay_144 (lv_at hl 6 rfl) ?_
                                refine lv_icmp_ge (tgt := 153) hx hb dX5_layPlay_146 (by decide) (fun c146_44 => ?_) (fun c146_44 => ?_)
                                · skip
                                  refine lv_iconst (v := 0) hx hb dX5_layPlay_153 (by decide) ?_
                                  refine lv_istore (lv' := [(9, .int 0), (8, .int (wx (mBeh r N sx q))), (0, .ref m0), (1, .int (nI b)), (2, .int (nI lf)), (3, .int (nI ((b - lf) % 2))), (4, .int (nI q)), (5, .int bs), (6, .int fi), (7, .int (nI sx))]) hx hb dX5_layPlay_154 hl (by decide) rfl (fun ls hl => ?_)
                                  refine lv_iload hx hb dX5_layPlay_156 (lv_at hl 0 rfl) ?_
                                  refine lv_if_eq (tgt := 166) hx hb dX5_layPlay_158 (by decide) (fun c158_45 => ?_) (fun c158_45 => ?_)
                                  · skip
                                    refine lv_iload hx hb dX5_layPlay_166 (lv_at hl 7 rfl) ?_
                                    refine lv_istore (lv' := [(5, .int bs), (9, .int 0), (8, .int (wx (mBeh r N sx q))), (0, .ref m0), (1, .int (nI b)), (2, .int (nI lf)), (3, .int (nI ((b - lf) % 2))), (4, .int (nI q)), (6, .int fi), (7, .int (nI sx))]) hx hb dX5_layPlay_168 hl (by decide) rfl (fun ls hl => ?_)
                                    refine lv_iload hx hb dX5_layPlay_170 (lv_at hl 1 rfl) ?_
                                    refine lv_if_eq (tgt := 180) hx hb dX5_layPlay_172 (by decide) (fun c172_46 => ?_) (fun c172_46 => ?_)
                                    · skip
                                      refine lv_iload hx hb dX5_layPlay_180 (lv_at hl 8 rfl) ?_
                                      refine lv_istore (lv' := [(6, .int fi), (5, .int bs), (9, .int 0), (8, .int (wx (mBeh r N sx q))), (0, .ref m0), (1, .int (nI b)), (2, .int (nI lf)), (3, .int (nI ((b - lf) % 2))), (4, .int (nI q)), (7, .int (nI sx))]) hx hb dX5_layPlay_182 hl (by decide) rfl (fun ls hl => ?_)
                                      refine lv_iinc (v := nI (sx + 1)) (lv' := [(7, .int (nI (sx + 1))), (6, .int fi), (5, .int bs), (9, .int 0), (8, .int (wx (mBeh r N sx q))), (0, .ref m0), (1, .int (nI b)), (2, .int (nI lf)), (3, .int (nI ((b - lf) % 2))), (4, .int (nI q))]) hx hb dX5_layPlay_184 hl (k := 9) rfl (nI_1 sx) (by decide) rfl (fun ls hl => ?_)
                                      refine lv_goto (tgt := 63) hx hb dX5_layPlay_187 (by decide) ?_
                                      exact ih10 (sx + 1) bs fi (by omega) (by first | assumption | omega) (by clear hret hl hS hD hP hK hA hN hts hx hb hr hml hown hlocks hiX5 ih1 ih3 ih5 ih10; have ev_ : mVv r N ou (nI ((b - lf) % 2)) wx q sx = (wx (mBeh r N sx q)) := (by unfold mVv; first | (rw [if_pos ⟨by assumption, by assumption⟩]; done) | (rw [if_neg (by rintro ⟨q1_, q2_⟩; first | exact absurd q1_ (by assumption) | exact absurd (q2_.symm.trans (show mCounts r ou sx q = false by assumption)) (by decide))]; done)); rw [mP1, ← hv, ev_]; dsimp only; first | (rw [if_pos (show (if nI ((b - lf) % 2) = 0 then bs < (wx (mBeh r N sx q)) else (wx (mBeh r N sx q)) < bs) from by first | (rw [if_pos (by assumption)]; exact Int32.not_le.mp (by assumption)) | (rw [if_neg (by assumption)]; exact Int32.not_le.mp (by assumption)))]; done) | (rw [if_neg (show ¬ (if nI ((b - lf) % 2) = 0 then bs < (wx (mBeh r N sx q)) else (wx (mBeh r N sx q)) < bs) from by first | (rw [if_pos (by assumption)]; exact Int32.not_lt.mpr (by assumption)) | (rw [if_neg (by assumption)]; exact Int32.not_lt.mpr (by assumption)))]; done)) _ _ _ hP hD hS (lv_sub hl [5, 6, 7, 8, 9, 2, 1, 0] rfl)
                                    · skip
                                      exact absurd (by decide) c172_46
                                  · skip
                                    exact absurd (by decide) c158_45
                                · skip
                                  refine lv_iconst (v := 1) hx hb dX5_layPlay_149 (by decide) ?_
                                  refine lv_goto (tgt := 154) hx hb dX5_layPlay_150 (by decide) ?_
                                  refine lv_istore (lv' := [(9, .int 1), (8, .int (wx (mBeh r N sx q))), (0, .ref m0), (1, .int (nI b)), (2, .int (nI lf)), (3, .int (nI ((b - lf) % 2))), (4, .int (nI q)), (5, .int bs), (6, .int fi), (7, .int (nI sx))]) hx hb dX5_layPlay_154 hl (by decide) rfl (fun ls hl => ?_)
                                  refine lv_iload hx hb dX5_layPlay_156 (lv_at hl 0 rfl) ?_
                                  refine lv_if_eq (tgt := 166) hx hb dX5_layPlay_158 (by decide) (fun c158_47 => ?_) (fun c158_47 => ?_)
                                  · skip
                                    exact absurd c158_47 (by decide)
                                  · skip
                                    refine lv_iload hx hb dX5_layPlay_161 (lv_at hl 1 rfl) ?_
                                    refine lv_goto (tgt := 168) hx hb dX5_layPlay_163 (by decide) ?_
                                    refine lv_istore (lv' := [(5, .int (wx (mBeh r N sx q))), (9, .int 1), (8, .int (wx (mBeh r N sx q))), (0, .ref m0), (1, .int (nI b)), (2, .int (nI lf)), (3, .int (nI ((b - lf) % 2))), (4, .int (nI q)), (6, .int fi), (7, .int (nI sx))]) hx hb dX5_layPlay_168 hl (by decide) rfl (fun ls hl => ?_)
                                    refine lv_iload hx hb dX5_layPlay_170 (lv_at hl 1 rfl) ?_
                                    refine lv_if_eq (tgt := 180) hx hb dX5_layPlay_172 (by decide) (fun c172_48 => ?_) (fun c172_48 => ?_)
                                    · skip
                                      exact absurd c172_48 (by decide)
                                    · skip
                                      refine lv_iload hx hb dX5_layPlay_175 (lv_at hl 9 rfl) ?_
                                      refine lv_goto (tgt := 182) hx hb dX5_layPlay_177 (by decide) ?_
                                      refine lv_istore (lv' := [(6, .int (nI sx)), (5, .int (wx (mBeh r N sx q))), (9, .int 1), (8, .int (wx (mBeh r N sx q))), (0, .ref m0), (1, .int (nI b)), (2, .int (nI lf)), (3, .int (nI ((b - lf) % 2))), (4, .int (nI q)), (7, .int (nI sx))]) hx hb dX5_layPlay_182 hl (by decide) rfl (fun ls hl => ?_)
                                      refine lv_iinc (v := nI (sx + 1)) (lv' := [(7, .int (nI (sx + 1))), (6, .int (nI sx)), (5, .int (wx (mBeh r N sx q))), (9, .int 1), (8, .int (wx (mBeh r N sx q))), (0, .ref m0), (1, .int (nI b)), (2, .int (nI lf)), (3, .int (nI ((b - lf) % 2))), (4, .int (nI q))]) hx hb dX5_layPlay_184 hl (k := 9) rfl (nI_1 sx) (by decide) rfl (fun ls hl => ?_)
                                      refine lv_goto (tgt := 63) hx hb dX5_layPlay_187 (by decide) ?_
                                      exact ih10 (sx + 1) (wx (mBeh r N sx q)) (nI sx) (by omega) (by first | assumption | omega) (by clear hret hl hS hD hP hK hA hN hts hx hb hr hml hown hlocks hiX5 ih1 ih3 ih5 ih10; have ev_ : mVv r N ou (nI ((b - lf) % 2)) wx q sx = (wx (mBeh r N sx q)) := (by unfold mVv; first | (rw [if_pos ⟨by assumption, by assumption⟩]; done) | (rw [if_neg (by rintro ⟨q1_, q2_⟩; first | exact absurd q1_ (by assumption) | exact absurd (q2_.symm.trans (show mCounts r ou sx q = false by assumption)) (by decide))]; done)); rw [mP1, ← hv, ev_]; dsimp only; first | (rw [if_pos (show (if nI ((b - lf) % 2) = 0 then bs < (wx (mBeh r N sx q)) else (wx (mBeh r N sx q)) < bs) from by first | (rw [if_pos (by assumption)]; exact Int32.not_le.mp (by assumption)) | (rw [if_neg (by assumption)]; exact Int32.not_le.mp (by assumption)))]; done) | (rw [if_neg (show ¬ (if nI ((b - lf) % 2) = 0 then bs < (wx (mBeh r N sx q)) else (wx (mBeh r N sx q)) < bs) from by first | (rw [if_pos (by assumption)]; exact Int32.not_lt.mpr (by assumption)) | (rw [if_neg (by assumption)]; exact Int32.not_lt.mpr (by assumption)))]; done)) _ _ _ hP hD hS (lv_sub hl [5, 6, 7, 8, 9, 2, 1, 0] rfl)
                              · skip
                                refine lv_iload hx hb dX5_layPlay_127 (lv_at hl 0 rfl) ?_
                                refine lv_iload hx hb dX5_layPlay_129 (lv_at hl 6 rfl) ?_
                                refine lv_icmp_le (tgt := 138) hx hb dX5_layPlay_131 (by decide) (fun c131_49 => ?_) (fun c131_49 => ?_)
                                · skip
                                  refine lv_iconst (v := 0) hx hb dX5_layPlay_138 (by decide) ?_
                                  refine lv_goto (tgt := 154) hx hb dX5_layPlay_139 (by decide) ?_
                                  refine lv_istore (lv' := [(9, .int 0), (8, .int (wx (mBeh r N sx q))), (0, .ref m0), (1, .int (nI b)), (2, .int (nI lf)), (3, .int (nI ((b - lf) % 2))), (4, .int (nI q)), (5, .int bs), (6, .int fi), (7, .int (nI sx))]) hx hb dX5_layPlay_154 hl (by decide) rfl (fun ls hl => ?_)
                                  refine lv_iload hx hb dX5_layPlay_156 (lv_at hl 0 rfl) ?_
                                  refine lv_if_eq (tgt := 166) hx hb dX5_layPlay_158 (by decide) (fun c158_50 => ?_) (fun c158_50 => ?_)
                                  · skip
                                    refine lv_iload hx hb dX5_layPlay_166 (lv_at hl 7 rfl) ?_
                                    refine lv_istore (lv' := [(5, .int bs), (9, .int 0), (8, .int (wx (mBeh r N sx q))), (0, .ref m0), (1, .int (nI b)), (2, .int (nI lf)), (3, .int (nI ((b - lf) % 2))), (4, .int (nI q)), (6, .int fi), (7, .int (nI sx))]) hx hb dX5_layPlay_168 hl (by decide) rfl (fun ls hl => ?_)
                                    refine lv_iload hx hb dX5_layPlay_170 (lv_at hl 1 rfl) ?_
                                    refine lv_if_eq (tgt := 180) hx hb dX5_layPlay_172 (by decide) (fun c172_51 => ?_) (fun c172_51 => ?_)
                                    · skip
                                      refine lv_iload hx hb dX5_layPlay_180 (lv_at hl 8 rfl) ?_
                                      refine lv_istore (lv' := [(6, .int fi), (5, .int bs), (9, .int 0), (8, .int (wx (mBeh r N sx q))), (0, .ref m0), (1, .int (nI b)), (2, .int (nI lf)), (3, .int (nI ((b - lf) % 2))), (4, .int (nI q)), (7, .int (nI sx))]) hx hb dX5_layPlay_182 hl (by decide) rfl (fun ls hl => ?_)
                                      refine lv_iinc (v := nI (sx + 1)) (lv' := [(7, .int (nI (sx + 1))), (6, .int fi), (5, .int bs), (9, .int 0), (8, .int (wx (mBeh r N sx q))), (0, .ref m0), (1, .int (nI b)), (2, .int (nI lf)), (3, .int (nI ((b - lf) % 2))), (4, .int (nI q))]) hx hb dX5_layPlay_184 hl (k := 9) rfl (nI_1 sx) (by decide) rfl (fun ls hl => ?_)
                                      refine lv_goto (tgt := 63) hx hb dX5_layPlay_187 (by decide) ?_
                                      exact ih10 (sx + 1) bs fi (by omega) (by first | assumption | omega) (by clear hret hl hS hD hP hK hA hN hts hx hb hr hml hown hlocks hiX5 ih1 ih3 ih5 ih10; have ev_ : mVv r N ou (nI ((b - lf) % 2)) wx q sx = (wx (mBeh r N sx q)) := (by unfold mVv; first | (rw [if_pos ⟨by assumption, by assumption⟩]; done) | (rw [if_neg (by rintro ⟨q1_, q2_⟩; first | exact absurd q1_ (by assumption) | exact absurd (q2_.symm.trans (show mCounts r ou sx q = false by assumption)) (by decide))]; done)); rw [mP1, ← hv, ev_]; dsimp only; first | (rw [if_pos (show (if nI ((b - lf) % 2) = 0 then bs < (wx (mBeh r N sx q)) else (wx (mBeh r N sx q)) < bs) from by first | (rw [if_pos (by assumption)]; exact Int32.not_le.mp (by assumption)) | (rw [if_neg (by assumption)]; exact Int32.not_le.mp (by assumption)))]; done) | (rw [if_neg (show ¬ (if nI ((b - lf) % 2) = 0 then bs < (wx (mBeh r N sx q)) else (wx (mBeh r N sx q)) < bs) from by first | (rw [if_pos (by assumption)]; exact Int32.not_lt.mpr (by assumption)) | (rw [if_neg (by assumption)]; exact Int32.not_lt.mpr (by assumption)))]; done)) _ _ _ hP hD hS (lv_sub hl [5, 6, 7, 8, 9, 2, 1, 0] rfl)
                                    · skip
                                      exact absurd (by decide) c172_51
                                  · skip
                                    exact absurd (by decide) c158_50
                                · skip
                                  refine lv_iconst (v := 1) hx hb dX5_layPlay_134 (by decide) ?_
                                  refine lv_goto (tgt := 154) hx hb dX5_layPlay_135 (by decide) ?_
                                  refine lv_istore (lv' := [(9, .int 1), (8, .int (wx (mBeh r N sx q))), (0, .ref m0), (1, .int (nI b)), (2, .int (nI lf)), (3, .int (nI ((b - lf) % 2))), (4, .int (nI q)), (5, .int bs), (6, .int fi), (7, .int (nI sx))]) hx hb dX5_layPlay_154 hl (by decide) rfl (fun ls hl => ?_)
                                  refine lv_iload hx hb dX5_layPlay_156 (lv_at hl 0 rfl) ?_
                                  refine lv_if_eq (tgt := 166) hx hb dX5_layPlay_158 (by decide) (fun c158_52 => ?_) (fun c158_52 => ?_)
                                  · skip
                                    exact absurd c158_52 (by decide)
                                  · skip
                                    refine lv_iload hx hb dX5_layPlay_161 (lv_at hl 1 rfl) ?_
                                    refine lv_goto (tgt := 168) hx hb dX5_layPlay_163 (by decide) ?_
                                    refine lv_istore (lv' := [(5, .int (wx (mBeh r N sx q))), (9, .int 1), (8, .int (wx (mBeh r N sx q))), (0, .ref m0), (1, .int (nI b)), (2, .int (nI lf)), (3, .int (nI ((b - lf) % 2))), (4, .int (nI q)), (6, .int fi), (7, .int (nI sx))]) hx hb dX5_layPlay_168 hl (by decide) rfl (fun ls hl => ?_)
                                    refine lv_iload hx hb dX5_layPlay_170 (lv_at hl 1 rfl) ?_
                                    refine lv_if_eq (tgt := 180) hx hb dX5_layPlay_172 (by decide) (fun c172_53 => ?_) (fun c172_53 => ?_)
                                    · skip
                                      exact absurd c172_53 (by decide)
                                    · skip
                                      refine lv_iload hx hb dX5_layPlay_175 (lv_at hl 9 rfl) ?_
                                      refine lv_goto (tgt := 182) hx hb dX5_layPlay_177 (by decide) ?_
                                      refine lv_istore (lv' := [(6, .int (nI sx)), (5, .int (wx (mBeh r N sx q))), (9, .int 1), (8, .int (wx (mBeh r N sx q))), (0, .ref m0), (1, .int (nI b)), (2, .int (nI lf)), (3, .int (nI ((b - lf) % 2))), (4, .int (nI q)), (7, .int (nI sx))]) hx hb dX5_layPlay_182 hl (by decide) rfl (fun ls hl => ?_)
                                      refine lv_iinc (v := nI (sx + 1)) (lv' := [(7, .int (nI (sx + 1))), (6, .int (nI sx)), (5, .int (wx (mBeh r N sx q))), (9, .int 1), (8, .int (wx (mBeh r N sx q))), (0, .ref m0), (1, .int (nI b)), (2, .int (nI lf)), (3, .int (nI ((b - lf) % 2))), (4, .int (nI q))]) hx hb dX5_layPlay_184 hl (k := 9) rfl (nI_1 sx) (by decide) rfl (fun ls hl => ?_)
                                      refine lv_goto (tgt := 63) hx hb dX5_layPlay_187 (by decide) ?_
                                      exact ih10 (sx + 1) (wx (mBeh r N sx q)) (nI sx) (by omega) (by first | assumption | omega) (by clear hret hl hS hD hP hK hA hN hts hx hb hr hml hown hlocks hiX5 ih1 ih3 ih5 ih10; have ev_ : mVv r N ou (nI ((b - lf) % 2)) wx q sx = (wx (mBeh r N sx q)) := (by unfold mVv; first | (rw [if_pos ⟨by assumption, by assumption⟩]; done) | (rw [if_neg (by rintro ⟨q1_, q2_⟩; first | exact absurd q1_ (by assumption) | exact absurd (q2_.symm.trans (show mCounts r ou sx q = false by assumption)) (by decide))]; done)); rw [mP1, ← hv, ev_]; dsimp only; first | (rw [if_pos (show (if nI ((b - lf) % 2) = 0 then bs < (wx (mBeh r N sx q)) else (wx (mBeh r N sx q)) < bs) from by first | (rw [if_pos (by assumption)]; exact Int32.not_le.mp (by assumption)) | (rw [if_neg (by assumption)]; exact Int32.not_le.mp (by assumption)))]; done) | (rw [if_neg (show ¬ (if nI ((b - lf) % 2) = 0 then bs < (wx (mBeh r N sx q)) else (wx (mBeh r N sx q)) < bs) from by first | (rw [if_pos (by assumption)]; exact Int32.not_lt.mpr (by assumption)) | (rw [if_neg (by assumption)]; exact Int32.not_lt.mpr (by assumption)))]; done)) _ _ _ hP hD hS (lv_sub hl [5, 6, 7, 8, 9, 2, 1, 0] rfl)
                    exact L63 (N + 1) 0 (wx q) (-1) (by omega) (by first | assumption | omega) (by rfl) _ _ _ hP hD hS (lv_sub hl [3, 4, 5, 6, 7, 2, 1, 0] rfl)
              exact L41 65 0 a1 pf1 (by omega) (by first | assumption | omega) (by clear hret hl hS hD hP hK hA hN hts hx hb hr hml hown hlocks hiX5 ih1 ih3 L41; intro j hj; omega) (by clear hret hl hS hD hP hK hA hN hts hx hb hr hml hown hlocks hiX5 ih1 ih3 L41; intro q_; omega) _ _ _ hP hD hS (lv_sub hl [2, 3, 4, 1, 0] rfl)
        exact L27 8 1 g we pf (by omega) (by first | assumption | omega) (by first | assumption | omega) (by clear hret hl hS hD hP hK hA hN hts hx hb hr hml hown hlocks hiX5 ih1 L27; intro j hj; exact hg j (by omega)) (by clear hret hl hS hD hP hK hA hN hts hx hb hr hml hown hlocks hiX5 ih1 L27; intro q_; omega) _ _ _ hP hD hS (lv_sub hl [1, 2, 0] rfl)
      · skip
        have hltk : k < 64 := Nat.lt_of_not_le (fun q_ => c5_2 ((nI_leI (a := 64) (b := k) (by omega) (by omega)).mpr q_))
        refine lv_aload_n hx hb dX5_layPlay_8 rfl (lv_at hl 0 rfl) ?_
        refine va_get (D := D) (ci := 5) (v := .ref wo) (C := RX5) (T := TX5) (N := 35) hx hb hts hiX5 hown hK hP 0 rfl rfl 18 (by decide) (hts (.fieldLink RX5 22 "HeardSecondModel" "worth" "[I") (by decide +kernel)) (fun _ h9 => h9) rfl dX5_layPlay_9 ?_
        refine lv_iload_n hx hb dX5_layPlay_12 rfl (lv_at hl 2 rfl) ?_
        refine lv_aload_n hx hb dX5_layPlay_13 rfl (lv_at hl 0 rfl) ?_
        refine lv_iload_n hx hb dX5_layPlay_14 rfl (lv_at hl 2 rfl) ?_
        refine z_bri (z_runV (As := [.int (nI k)]) (rest := [.int (nI k), .ref wo]) (ci := 5) ⟨hx, hb, hml, hown, hts⟩ (c_X5_worthAtEnd (m0 := m0) (pg := pg) (rd := rd) (ro := ro) (fa := fa) (wo := wo) (ah := ah) (he := he) (wy := wy) (on_ := on_) (pa := pa) (kr := kr) (kn := kn) (kh := kh) (sr := sr) (sn := sn) (n := n) (N := N) (t := t) (rmy := rmy) (rpt := rpt) (sta := sta) (pt := pt) (nw := nI k0) (ou := ou) (si := si) (en := en) (w0 := w0) (w1 := w1) (br := br) (cr := cr) (pf := pf) (kt := kt) (kc := kc) (sd := sd) (ha := ha) (r := r) (k := k) (by first | assumption | omega) (by first | assumption | omega) _) (cwV 1 hts gX5_layPlay_X5_worthAtEnd rfl rfl rfl (by decide +kernel) ⟨Nat.le_of_ble_eq_true rfl, Nat.le_of_ble_eq_true rfl⟩) hK hP hD hN [0, 1] rfl rfl rfl rfl rfl hl.1 rfl (Nat.le_of_ble_eq_true rfl) dX5_layPlay_15 ⟨Nat.zero_le _, Nat.zero_le _⟩) hP hD hS hA [0, 1] rfl (fun r_55 u_56 H locs hq_54 hP hS => ?_)
        obtain rfl : r_55 = mWE r N k := hq_54
        refine va_iast hx hb hK hP hD hS 2 0 rfl rfl (z_inN (by omega) (by decide)) dX5_layPlay_18 (fun H locs hP hD hS => ?_)
        have hP : va_P D vwCl [(m0, .inr (5, [.ref pg, .int (nI n), .ref rd, .int rmy, .int rpt, .int sta, .int (nI N), .int pt, .int (nI k0), .int ou, .int si, .int en, .int w0, .int w1, .int br, .int cr, .ref ro, .ref fa, .ref wo, .ref ah, .int pf, .int (nI t), .ref he, .ref wy, .ref on_, .ref pa, .ref kr, .ref kn, .ref kh, .int kt, .int kc, .int sd, .ref sr, .ref sn, .long ha])), (ro, .inl (cA, 15, .inl r)), (wo, .inl (cA, 64, .inl (upd g (Int32.toNatClampNeg (nI k)) (mWE r N k)))), (ah, .inl (cA, 64, .inl we))] H := hP
        have hD : va_D A [(m0, .inr (5, [.ref pg, .int (nI n), .ref rd, .int rmy, .int rpt, .int sta, .int (nI N), .int pt, .int (nI k0), .int ou, .int si, .int en, .int w0, .int w1, .int br, .int cr, .ref ro, .ref fa, .ref wo, .ref ah, .int pf, .int (nI t), .ref he, .ref wy, .ref on_, .ref pa, .ref kr, .ref kn, .ref kh, .int kt, .int kc, .int sd, .ref sr, .ref sn, .long ha])), (ro, .inl (cA, 15, .inl r)), (wo, .inl (cA, 64, .inl (upd g (Int32.toNatClampNeg (nI k)) (mWE r N k)))), (ah, .inl (cA, 64, .inl we))] := hD
        rw [show upd g (Int32.toNatClampNeg (nI k)) (mWE r N k) = upd g k (mWE r N k) from by rw [z_nat (by omega)]] at hP hD
        refine lv_iinc (v := nI (k + 1)) (lv' := [(2, .int (nI (k + 1))), (0, .ref m0), (1, .int (nI b))]) hx hb dX5_layPlay_19 hl (k := 2) rfl (nI_1 k) (by decide) rfl (fun ls hl => ?_)
        refine lv_goto (tgt := 2) hx hb dX5_layPlay_22 (by decide) ?_
        exact ih1 (k + 1) (upd g k (mWE r N k)) (by omega) (by first | assumption | omega) (by clear hret hl hS hD hP hK hA hN hts hx hb hr hml hown hlocks hiX5 ih1; intro j hj; unfold upd; split <;> first | (rename_i e_; rw [e_]) | exact hg j (by omega)) _ _ _ hP hD hS (lv_sub hl [1, 2, 0] rfl)
  exact L2 65 0 w (by omega) (by first | assumption | omega) (by clear hret hl hS hD hP hK hA hN hts hx hb hr hml hown hlocks hiX5 L2; intro j hj; omega) _ _ _ hP hD hS (lv_sub hl [1, 2, 0] rfl)
abbrev rm_c_X5_playOf : Room := { frames := 4, cells := 0, slots := 0, locals := 97 }
set_option maxHeartbeats 400000 in
set_option maxRecDepth 20000 in
theorem c_X5_playOf {l : Launch} {D : va_G} {cA : ClassId} {m0 : Nat} {pg : Nat} {rd : Nat} {ro : Nat} {fa : Nat} {wo : Nat} {ah : Nat} {he : Nat} {wy : Nat} {on_ : Nat} {pa : Nat} {kr : Nat} {kn : Nat} {kh : Nat} {sr : Nat} {sn : Nat} {n : Nat} {N : Nat} {t : Nat} {rmy : Int32} {rpt : Int32} {sta : Int32} {pt : Int32} {ou : Int32} {si : Int32} {en : Int32} {w0 : Int32} {w1 : Int32} {br : Int32} {cr : Int32} {pf : Int32} {kt : Int32} {kc : Int32} {sd : Int32} {ha : Int64} {r : Nat → Int32} {w : Nat → Int32} {we : Nat → Int32} {k0 : Nat} {b : Nat} {wh : Int32} (h5 : N ≤ 5) (hk0 : k0 < 64) (hb1 : 1 ≤ b) (hb6 : b ≤ 6) : zMi l yX5_playOf wsX5_playOf rm_c_X5_playOf D cA [(m0, .inr (5, [.ref pg, .int (nI n), .ref rd, .int rmy, .int rpt, .int sta, .int (nI N), .int pt, .int (nI k0), .int ou, .int si, .int en, .int w0, .int w1, .int br, .int cr, .ref ro, .ref fa, .ref wo, .ref ah, .int pf, .int (nI t), .ref he, .ref wy, .ref on_, .ref pa, .ref kr, .ref kn, .ref kh, .int kt, .int kc, .int sd, .ref sr, .ref sn, .long ha])), (ro, .inl (cA, 15, .inl r)), (wo, .inl (cA, 64, .inl w)), (ah, .inl (cA, 64, .inl we))] [.ref m0, .int (nI b), .int wh] (fun (ret_ : Int32) (u : Int32 × (Nat → Int32) × (Nat → Int32)) => ret_ = mPlayV r N ou b k0 wh) (fun (u : Int32 × (Nat → Int32) × (Nat → Int32)) => [(m0, .inr (5, [.ref pg, .int (nI n), .ref rd, .int rmy, .int rpt, .int sta, .int (nI N), .int pt, .int (nI k0), .int ou, .int si, .int en, .int w0, .int w1, .int br, .int cr, .ref ro, .ref fa, .ref wo, .ref ah, .int u.1, .int (nI t), .ref he, .ref wy, .ref on_, .ref pa, .ref kr, .ref kn, .ref kh, .int kt, .int kc, .int sd, .ref sr, .ref sn, .long ha])), (ro, .inl (cA, 15, .inl r)), (wo, .inl (cA, 64, .inl u.2.1)), (ah, .inl (cA, 64, .inl u.2.2))]) := by
  refine z_enteri (cc := cX5_playOf) (maxL := 4) (ty := .int) (by decide) rfl (Nat.le_of_ble_eq_true rfl) (fun p e s m args below meth c ls A H0 H locs Q hi_ hA hK hP hD hS hl hret => ?_)
  obtain ⟨hx, hb, hr, hml, hown, hts, hlocks, hN⟩ := hi_
  have hl : lv_has ls 4 [(0, .ref m0), (1, .int (nI b)), (2, .int wh)] := hl
  have hiX5 : ∀ w ∈ wsX50, w ∈ wsX5_playOf := by decide +kernel
  refine lv_aload_n hx hb dX5_playOf_0 rfl (lv_at hl 0 rfl) ?_
  refine lv_iload_n hx hb dX5_playOf_1 rfl (lv_at hl 1 rfl) ?_
  refine z_bwi (wr := []) (ws' := fun u_3 => [(m0, .inr (5, [.ref pg, .int (nI n), .ref rd, .int rmy, .int rpt, .int sta, .int (nI N), .int pt, .int (nI k0), .int ou, .int si, .int en, .int w0, .int w1, .int br, .int cr, .ref ro, .ref fa, .ref wo, .ref ah, .int (mPF r N ou b k0), .int (nI t), .ref he, .ref wy, .ref on_, .ref pa, .ref kr, .ref kn, .ref kh, .int kt, .int kc, .int sd, .ref sr, .ref sn, .long ha])), (ro, .inl (cA, 15, .inl r)), (wo, .inl (cA, 64, .inl (mPW r N ou b b))), (ah, .inl (cA, 64, .inl u_3))]) (z_runV (As := [.int (nI b)]) (rest := []) (ci := 5) ⟨hx, hb, hml, hown, hts⟩ (c_X5_layPlay (m0 := m0) (pg := pg) (rd := rd) (ro := ro) (fa := fa) (wo := wo) (ah := ah) (he := he) (wy := wy) (on_ := on_) (pa := pa) (kr := kr) (kn := kn) (kh := kh) (sr := sr) (sn := sn) (n := n) (N := N) (t := t) (rmy := rmy) (rpt := rpt) (sta := sta) (pt := pt) (ou := ou) (si := si) (en := en) (w0 := w0) (w1 := w1) (br := br) (cr := cr) (pf := pf) (kt := kt) (kc := kc) (sd := sd) (ha := ha) (r := r) (w := w) (we := we) (k0 := k0) (b := b) (by first | assumption | omega) (by first | assumption | omega) (by first | assumption | omega) (by first | assumption | omega) _) (cwV 1 hts gX5_playOf_X5_layPlay rfl rfl rfl (by decide +kernel) ⟨Nat.le_of_ble_eq_true rfl, Nat.le_of_ble_eq_true rfl⟩) hK hP hD hN [0, 1, 2, 3] rfl rfl rfl rfl rfl hl.1 rfl (Nat.le_of_ble_eq_true rfl) dX5_playOf_2 ⟨Nat.zero_le _, Nat.zero_le _⟩) hP hD hS hA [0, 1, 2, 3] [] [0, 1, 2, 3] rfl rfl rfl (by decide) rfl (fun _ => rfl) (fun r_2 u_3 H locs hq_1 hP hD hS => ?_)
  obtain rfl : r_2 = mPW r N ou b b k0 := hq_1
  have hP : va_P D vwCl [(m0, .inr (5, [.ref pg, .int (nI n), .ref rd, .int rmy, .int rpt, .int sta, .int (nI N), .int pt, .int (nI k0), .int ou, .int si, .int en, .int w0, .int w1, .int br, .int cr, .ref ro, .ref fa, .ref wo, .ref ah, .int (mPF r N ou b k0), .int (nI t), .ref he, .ref wy, .ref on_, .ref pa, .ref kr, .ref kn, .ref kh, .int kt, .int kc, .int sd, .ref sr, .ref sn, .long ha])), (ro, .inl (cA, 15, .inl r)), (wo, .inl (cA, 64, .inl (mPW r N ou b b))), (ah, .inl (cA, 64, .inl u_3))] H := hP
  have hD : va_D A [(m0, .inr (5, [.ref pg, .int (nI n), .ref rd, .int rmy, .int rpt, .int sta, .int (nI N), .int pt, .int (nI k0), .int ou, .int si, .int en, .int w0, .int w1, .int br, .int cr, .ref ro, .ref fa, .ref wo, .ref ah, .int (mPF r N ou b k0), .int (nI t), .ref he, .ref wy, .ref on_, .ref pa, .ref kr, .ref kn, .ref kh, .int kt, .int kc, .int sd, .ref sr, .ref sn, .long ha])), (ro, .inl (cA, 15, .inl r)), (wo, .inl (cA, 64, .inl (mPW r N ou b b))), (ah, .inl (cA, 64, .inl u_3))] := hD
  refine lv_istore_n (lv' := [(3, .int (mPW r N ou b b k0)), (0, .ref m0), (1, .int (nI b)), (2, .int wh)]) hx hb dX5_playOf_5 rfl hl (by decide) rfl (fun ls hl => ?_)
  refine lv_iload_n hx hb dX5_playOf_6 rfl (lv_at hl 3 rfl) ?_
  refine lv_if_ne (tgt := 14) hx hb dX5_playOf_7 (by decide) (fun c7_4 => ?_) (fun c7_4 => ?_)
  · skip
    refine lv_aload_n hx hb dX5_playOf_14 rfl (lv_at hl 1 rfl) ?_
    refine va_get (D := D) (ci := 5) (v := .int (mPF r N ou b k0)) (C := RX5) (T := TX5) (N := 35) hx hb hts hiX5 hown hK hP 0 rfl rfl 20 (by decide) (hts (.fieldLink RX5 169 "HeardSecondModel" "playFirst" "I") (by decide +kernel)) (fun _ h9 => h9) rfl dX5_playOf_15 ?_
    -- path 1
    exact hret (mPF r N ou b k0) (mPF r N ou b k0, (mPW r N ou b b, u_3)) _ _ _ _ dX5_playOf_18 (rfl) (by clear hret hl hS hD hP hK hA hN hts hx hb hr hml hown hlocks hiX5; simp_all [mPlayV]) hP hD hS
  · skip
    refine lv_iload_n hx hb dX5_playOf_10 rfl (lv_at hl 0 rfl) ?_
    refine lv_goto (tgt := 18) hx hb dX5_playOf_11 (by decide) ?_
    -- path 2
    exact hret (mPW r N ou b b k0) (mPF r N ou b k0, (mPW r N ou b b, u_3)) _ _ _ _ dX5_playOf_18 (rfl) (by clear hret hl hS hD hP hK hA hN hts hx hb hr hml hown hlocks hiX5; simp_all [mPlayV]) hP hD hS
abbrev rm_c_X5_play : Room := { frames := 5, cells := 0, slots := 0, locals := 120 }
set_option maxHeartbeats 1000000 in
set_option maxRecDepth 20000 in
theorem c_X5_play {l : Launch} {D : va_G} {cA : ClassId} {m0 : Nat} {pg : Nat} {rd : Nat} {ro : Nat} {fa : Nat} {wo : Nat} {ah : Nat} {he : Nat} {wy : Nat} {on_ : Nat} {pa : Nat} {kr : Nat} {kn : Nat} {kh : Nat} {sr : Nat} {sn : Nat} {n : Nat} {N : Nat} {t : Nat} {rmy : Int32} {rpt : Int32} {sta : Int32} {pt : Int32} {ou : Int32} {si : Int32} {en : Int32} {w0 : Int32} {w1 : Int32} {br : Int32} {cr : Int32} {pf : Int32} {kt : Int32} {kc : Int32} {sd : Int32} {ha : Int64} {r : Nat → Int32} {w : Nat → Int32} {we : Nat → Int32} {k0 : Nat} {b : Int32} {wh : Int32} (h5 : N ≤ 5) (hk0 : k0 < 64) : zMi l yX5_play wsX5_play rm_c_X5_play D cA [(m0, .inr (5, [.ref pg, .int (nI n), .ref rd, .int rmy, .int rpt, .int sta, .int (nI N), .int pt, .int (nI k0), .int ou, .int si, .int en, .int w0, .int w1, .int br, .int cr, .ref ro, .ref fa, .ref wo, .ref ah, .int pf, .int (nI t), .ref he, .ref wy, .ref on_, .ref pa, .ref kr, .ref kn, .ref kh, .int kt, .int kc, .int sd, .ref sr, .ref sn, .long ha])), (ro, .inl (cA, 15, .inl r)), (wo, .inl (cA, 64, .inl w)), (ah, .inl (cA, 64, .inl we))] [.ref m0, .int b, .int wh] (fun (ret_ : Int32) (u : Int32 × (Nat → Int32) × (Nat → Int32)) => ret_ = mPlay r N ou k0 b wh) (fun (u : Int32 × (Nat → Int32) × (Nat → Int32)) => [(m0, .inr (5, [.ref pg, .int (nI n), .ref rd, .int rmy, .int rpt, .int sta, .int (nI N), .int pt, .int (nI k0), .int ou, .int si, .int en, .int w0, .int w1, .int br, .int cr, .ref ro, .ref fa, .ref wo, .ref ah, .int u.1, .int (nI t), .ref he, .ref wy, .ref on_, .ref pa, .ref kr, .ref kn, .ref kh, .int kt, .int kc, .int sd, .ref sr, .ref sn, .long ha])), (ro, .inl (cA, 15, .inl r)), (wo, .inl (cA, 64, .inl u.2.1)), (ah, .inl (cA, 64, .inl u.2.2))]) := by
  refine z_enteri (cc := cX5_play) (maxL := 3) (ty := .int) (by decide) rfl (Nat.le_of_ble_eq_true rfl) (fun p e s m args below meth c ls A H0 H locs Q hi_ hA hK hP hD hS hl hret => ?_)
  obtain ⟨hx, hb, hr, hml, hown, hts, hlocks, hN⟩ := hi_
  have hl : lv_has ls 3 [(0, .ref m0), (1, .int b), (2, .int wh)] := hl
  refine lv_iload_n hx hb dX5_play_0 rfl (lv_at hl 1 rfl) ?_
  refine lv_i2l hx hb dX5_play_1 rfl ?_
  refine lv_lconst (v := 1) hx hb dX5_play_2 (by decide) ?_
  refine lv_ldc2 (v := 6) hx hb hown (hts (.constantLong RX5 179 (6)) (by decide +kernel)) dX5_play_3 ?_
  refine z_bri (z_runS (As := [.long (Int32.toInt64 b), .long 1, .long 6]) (rest := []) ⟨hx, hb, hml, hown, hts⟩ (c_X5_in (x := Int32.toInt64 b) (lo := 1) (hi := 6) _) (va_cwS 3 hts gX5_play_X5_in rfl rfl rfl (by decide +kernel) ⟨Nat.le_of_ble_eq_true rfl, Nat.le_of_ble_eq_true rfl⟩) hK hP hD hN [] rfl rfl rfl hl.1 rfl (Nat.le_of_ble_eq_true rfl) dX5_play_6 ⟨Nat.zero_le _, Nat.zero_le _⟩) hP hD hS hA [] rfl (fun r_2 u_3 H locs hq_1 hP hS => ?_)
  obtain rfl : r_2 = bI (decide (1 ≤ (Int32.toInt64 b)) && decide ((Int32.toInt64 b) ≤ 6)) := hq_1
  refine z_top (y := bI (mIn b 1 6)) (z_in64 rfl rfl) ?_
  refine lv_if_eq (tgt := 22) hx hb dX5_play_9 (by decide) (fun c9_4 => ?_) (fun c9_4 => ?_)
  · skip
    have c9_4 := bI_0.mp c9_4
    refine lv_bipush (v := (-102)) hx hb dX5_play_22 (by decide) ?_
    -- path 1
    exact hret ((-102)) (pf, (w, we)) _ _ _ _ dX5_play_24 (rfl) (by clear hret hl hS hD hP hK hA hN hts hx hb hr hml hown hlocks ; unfold mPlay; first | (rw [z_nat (by omega)]; simp_all; done) | (simp_all; done)) hP hD hS
  · skip
    have c9_4 := bI_n0.mp c9_4
    refine lv_iload_n hx hb dX5_play_12 rfl (lv_at hl 2 rfl) ?_
    refine lv_i2l hx hb dX5_play_13 rfl ?_
    refine lv_lconst (v := 0) hx hb dX5_play_14 (by decide) ?_
    refine lv_lconst (v := 1) hx hb dX5_play_15 (by decide) ?_
    refine z_bri (z_runS (As := [.long (Int32.toInt64 wh), .long 0, .long 1]) (rest := []) ⟨hx, hb, hml, hown, hts⟩ (c_X5_in (x := Int32.toInt64 wh) (lo := 0) (hi := 1) _) (va_cwS 3 hts gX5_play_X5_in rfl rfl rfl (by decide +kernel) ⟨Nat.le_of_ble_eq_true rfl, Nat.le_of_ble_eq_true rfl⟩) hK hP hD hN [] rfl rfl rfl hl.1 rfl (Nat.le_of_ble_eq_true rfl) dX5_play_16 ⟨Nat.zero_le _, Nat.zero_le _⟩) hP hD hS hA [] rfl (fun r_6 u_7 H locs hq_5 hP hS => ?_)
    obtain rfl : r_6 = bI (decide (0 ≤ (Int32.toInt64 wh)) && decide ((Int32.toInt64 wh) ≤ 1)) := hq_5
    refine z_top (y := bI (mIn wh 0 1)) (z_in64 rfl rfl) ?_
    refine lv_if_ne (tgt := 25) hx hb dX5_play_19 (by decide) (fun c19_8 => ?_) (fun c19_8 => ?_)
    · skip
      have c19_8 := bI_n0.mp c19_8
      refine lv_aload_n hx hb dX5_play_25 rfl (lv_at hl 0 rfl) ?_
      refine z_bri (z_runV (As := []) (rest := []) (ci := 5) ⟨hx, hb, hml, hown, hts⟩ (c_X5_lacks (m0 := m0) (pg := pg) (rd := rd) (ro := ro) (fa := fa) (wo := wo) (ah := ah) (he := he) (wy := wy) (on_ := on_) (pa := pa) (kr := kr) (kn := kn) (kh := kh) (sr := sr) (sn := sn) (n := n) (N := N) (t := t) (rmy := rmy) (rpt := rpt) (sta := sta) (pt := pt) (nw := nI k0) (ou := ou) (si := si) (en := en) (w0 := w0) (w1 := w1) (br := br) (cr := cr) (pf := pf) (kt := kt) (kc := kc) (sd := sd) (ha := ha) (by first | assumption | omega) _) (cwV 0 hts gX5_play_X5_lacks rfl rfl rfl (by decide +kernel) ⟨Nat.le_of_ble_eq_true rfl, Nat.le_of_ble_eq_true rfl⟩) hK hP hD hN [0] rfl rfl rfl rfl rfl hl.1 rfl (Nat.le_of_ble_eq_true rfl) dX5_play_26 ⟨Nat.zero_le _, Nat.zero_le _⟩) hP hD hS hA [0] rfl (fun r_10 u_11 H locs hq_9 hP hS => ?_)
      obtain rfl : r_10 = bI (decide (N = 0)) := hq_9
      refine lv_if_eq (tgt := 37) hx hb dX5_play_29 (by decide) (fun c29_12 => ?_) (fun c29_12 => ?_)
      · skip
        have c29_12 := bI_0.mp c29_12
        obtain ⟨b_, hb1_, hb6_, rfl⟩ : ∃ k : Nat, 1 ≤ k ∧ k ≤ 6 ∧ b = nI k := mIn_rng1 (by assumption)
        refine lv_aload_n hx hb dX5_play_37 rfl (lv_at hl 0 rfl) ?_
        refine lv_iload_n hx hb dX5_play_38 rfl (lv_at hl 1 rfl) ?_
        refine lv_iload_n hx hb dX5_play_39 rfl (lv_at hl 2 rfl) ?_
        refine z_bwi (wr := []) (ws' := fun u_15 => [(m0, .inr (5, [.ref pg, .int (nI n), .ref rd, .int rmy, .int rpt, .int sta, .int (nI N), .int pt, .int (nI k0), .int ou, .int si, .int en, .int w0, .int w1, .int br, .int cr, .ref ro, .ref fa, .ref wo, .ref ah, .int u_15.1, .int (nI t), .ref he, .ref wy, .ref on_, .ref pa, .ref kr, .ref kn, .ref kh, .int kt, .int kc, .int sd, .ref sr, .ref sn, .long ha])), (ro, .inl (cA, 15, .inl r)), (wo, .inl (cA, 64, .inl u_15.2.1)), (ah, .inl (cA, 64, .inl u_15.2.2))]) (z_runV (As := [.int (nI b_), .int wh]) (rest := []) (ci := 5) ⟨hx, hb, hml, hown, hts⟩ (c_X5_playOf (m0 := m0) (pg := pg) (rd := rd) (ro := ro) (fa := fa) (wo := wo) (ah := ah) (he := he) (wy := wy) (on_ := on_) (pa := pa) (kr := kr) (kn := kn) (kh := kh) (sr := sr) (sn := sn) (n := n) (N := N) (t := t) (rmy := rmy) (rpt := rpt) (sta := sta) (pt := pt) (ou := ou) (si := si) (en := en) (w0 := w0) (w1 := w1) (br := br) (cr := cr) (pf := pf) (kt := kt) (kc := kc) (sd := sd) (ha := ha) (r := r) (w := w) (we := we) (k0 := k0) (b := b_) (wh := wh) (by first | assumption | omega) (by first | assumption | omega) (by first | assumption | omega) (by first | assumption | omega) _) (cwV 2 hts gX5_play_X5_playOf rfl rfl rfl (by decide +kernel) ⟨Nat.le_of_ble_eq_true rfl, Nat.le_of_ble_eq_true rfl⟩) hK hP hD hN [0, 1, 2, 3] rfl rfl rfl rfl rfl hl.1 rfl (Nat.le_of_ble_eq_true rfl) dX5_play_40 ⟨Nat.zero_le _, Nat.zero_le _⟩) hP hD hS hA [0, 1, 2, 3] [] [0, 1, 2, 3] rfl rfl rfl (by decide) rfl (fun _ => rfl) (fun r_14 u_15 H locs hq_13 hP hD hS => ?_)
        obtain rfl : r_14 = mPlayV r N ou b_ k0 wh := hq_13
        have hP : va_P D vwCl [(m0, .inr (5, [.ref pg, .int (nI n), .ref rd, .int rmy, .int rpt, .int sta, .int (nI N), .int pt, .int (nI k0), .int ou, .int si, .int en, .int w0, .int w1, .int br, .int cr, .ref ro, .ref fa, .ref wo, .ref ah, .int u_15.1, .int (nI t), .ref he, .ref wy, .ref on_, .ref pa, .ref kr, .ref kn, .ref kh, .int kt, .int kc, .int sd, .ref sr, .ref sn, .long ha])), (ro, .inl (cA, 15, .inl r)), (wo, .inl (cA, 64, .inl u_15.2.1)), (ah, .inl (cA, 64, .inl u_15.2.2))] H := hP
        have hD : va_D A [(m0, .inr (5, [.ref pg, .int (nI n), .ref rd, .int rmy, .int rpt, .int sta, .int (nI N), .int pt, .int (nI k0), .int ou, .int si, .int en, .int w0, .int w1, .int br, .int cr, .ref ro, .ref fa, .ref wo, .ref ah, .int u_15.1, .int (nI t), .ref he, .ref wy, .ref on_, .ref pa, .ref kr, .ref kn, .ref kh, .int kt, .int kc, .int sd, .ref sr, .ref sn, .long ha])), (ro, .inl (cA, 15, .inl r)), (wo, .inl (cA, 64, .inl u_15.2.1)), (ah, .inl (cA, 64, .inl u_15.2.2))] := hD
        -- path 2
        exact hret (mPlayV r N ou b_ k0 wh) (u_15.1, (u_15.2.1, u_15.2.2)) _ _ _ _ dX5_play_43 (rfl) (by clear hret hl hS hD hP hK hA hN hts hx hb hr hml hown hlocks ; unfold mPlay; first | (rw [z_nat (by omega)]; simp_all; done) | (simp_all; done)) hP hD hS
      · skip
        have c29_12 := bI_n0.mp c29_12
        refine lv_bipush (v := (-103)) hx hb dX5_play_32 (by decide) ?_
        refine lv_goto (tgt := 43) hx hb dX5_play_34 (by decide) ?_
        -- path 3
        exact hret ((-103)) (pf, (w, we)) _ _ _ _ dX5_play_43 (rfl) (by clear hret hl hS hD hP hK hA hN hts hx hb hr hml hown hlocks ; unfold mPlay; first | (rw [z_nat (by omega)]; simp_all; done) | (simp_all; done)) hP hD hS
    · skip
      have c19_8 := bI_0.mp c19_8
      refine lv_bipush (v := (-102)) hx hb dX5_play_22 (by decide) ?_
      -- path 4
      exact hret ((-102)) (pf, (w, we)) _ _ _ _ dX5_play_24 (rfl) (by clear hret hl hS hD hP hK hA hN hts hx hb hr hml hown hlocks ; unfold mPlay; first | (rw [z_nat (by omega)]; simp_all; done) | (simp_all; done)) hP hD hS
abbrev rm_c_X5_hear : Room := { frames := 2, cells := 0, slots := 0, locals := 46 }
set_option maxHeartbeats 1000000 in
set_option maxRecDepth 20000 in
theorem c_X5_hear {l : Launch} {D : va_G} {cA : ClassId} {m0 : Nat} {pg : Nat} {rd : Nat} {ro : Nat} {fa : Nat} {wo : Nat} {ah : Nat} {he : Nat} {wy : Nat} {on_ : Nat} {pa : Nat} {kr : Nat} {kn : Nat} {kh : Nat} {sr : Nat} {sn : Nat} {n : Nat} {N : Nat} {t : Nat} {rmy : Int32} {rpt : Int32} {sta : Int32} {pt : Int32} {nw : Int32} {ou : Int32} {si : Int32} {en : Int32} {w0 : Int32} {w1 : Int32} {br : Int32} {cr : Int32} {pf : Int32} {kt : Int32} {kc : Int32} {sd : Int32} {ha : Int64} {he_ : Nat → Int32} {x : Int32} {y : Int32} (ht : t ≤ 8) : zMi l yX5_hear wsX5_hear rm_c_X5_hear D cA [(m0, .inr (5, [.ref pg, .int (nI n), .ref rd, .int rmy, .int rpt, .int sta, .int (nI N), .int pt, .int nw, .int ou, .int si, .int en, .int w0, .int w1, .int br, .int cr, .ref ro, .ref fa, .ref wo, .ref ah, .int pf, .int (nI t), .ref he, .ref wy, .ref on_, .ref pa, .ref kr, .ref kn, .ref kh, .int kt, .int kc, .int sd, .ref sr, .ref sn, .long ha])), (he, .inl (cA, 16, .inl he_))] [.ref m0, .int x, .int y] (fun (ret_ : Int32) (_ : Unit) => ret_ = if mHeOk N t x y then nI (t + 1) else mHeNo N x y) (fun (_ : Unit) => [(m0, .inr (5, [.ref pg, .int (nI n), .ref rd, .int rmy, .int rpt, .int sta, .int (nI N), .int pt, .int nw, .int ou, .int si, .int en, .int w0, .int w1, .int br, .int cr, .ref ro, .ref fa, .ref wo, .ref ah, .int pf, .int (nI (if mHeOk N t x y then t + 1 else t)), .ref he, .ref wy, .ref on_, .ref pa, .ref kr, .ref kn, .ref kh, .int kt, .int kc, .int sd, .ref sr, .ref sn, .long ha])), (he, .inl (cA, 16, .inl (if mHeOk N t x y then upd (upd he_ (2 * t) x) (2 * t + 1) (if y = -1 then 7 else y) else he_)))]) := by
  refine z_enteri (cc := cX5_hear) (maxL := 3) (ty := .int) (by decide) rfl (Nat.le_of_ble_eq_true rfl) (fun p e s m args below meth c ls A H0 H locs Q hi_ hA hK hP hD hS hl hret => ?_)
  obtain ⟨hx, hb, hr, hml, hown, hts, hlocks, hN⟩ := hi_
  have hl : lv_has ls 3 [(0, .ref m0), (1, .int x), (2, .int y)] := hl
  have hiX5 : ∀ w ∈ wsX50, w ∈ wsX5_hear := by decide +kernel
  refine lv_iload_n hx hb dX5_hear_0 rfl (lv_at hl 1 rfl) ?_
  refine lv_i2l hx hb dX5_hear_1 rfl ?_
  refine lv_lconst (v := 0) hx hb dX5_hear_2 (by decide) ?_
  refine lv_ldc2 (v := 8) hx hb hown (hts (.constantLong RX5 184 (8)) (by decide +kernel)) dX5_hear_3 ?_
  refine z_bri (z_runS (As := [.long (Int32.toInt64 x), .long 0, .long 8]) (rest := []) ⟨hx, hb, hml, hown, hts⟩ (c_X5_in (x := Int32.toInt64 x) (lo := 0) (hi := 8) _) (va_cwS 3 hts gX5_hear_X5_in rfl rfl rfl (by decide +kernel) ⟨Nat.le_of_ble_eq_true rfl, Nat.le_of_ble_eq_true rfl⟩) hK hP hD hN [] rfl rfl rfl hl.1 rfl (Nat.le_of_ble_eq_true rfl) dX5_hear_6 ⟨Nat.zero_le _, Nat.zero_le _⟩) hP hD hS hA [] rfl (fun r_2 u_3 H locs hq_1 hP hS => ?_)
  obtain rfl : r_2 = bI (decide (0 ≤ (Int32.toInt64 x)) && decide ((Int32.toInt64 x) ≤ 8)) := hq_1
  refine z_top (y := bI (mIn x 0 8)) (z_in64 rfl rfl) ?_
  refine lv_if_ne (tgt := 15) hx hb dX5_hear_9 (by decide) (fun c9_4 => ?_) (fun c9_4 => ?_)
  · skip
    have c9_4 := bI_n0.mp c9_4
    refine lv_iload_n hx hb dX5_hear_15 rfl (lv_at hl 2 rfl) ?_
    refine lv_iconst (v := (-1)) hx hb dX5_hear_16 (by decide) ?_
    refine lv_icmp_eq (tgt := 31) hx hb dX5_hear_17 (by decide) (fun c17_5 => ?_) (fun c17_5 => ?_)
    · skip
      refine lv_aload_n hx hb dX5_hear_31 rfl (lv_at hl 0 rfl) ?_
      refine va_get (D := D) (ci := 5) (v := .int (nI t)) (C := RX5) (T := TX5) (N := 35) hx hb hts hiX5 hown hK hP 0 rfl rfl 21 (by decide) (hts (.fieldLink RX5 118 "HeardSecondModel" "heardMany" "I") (by decide +kernel)) (fun _ h9 => h9) rfl dX5_hear_32 ?_
      refine lv_bipush (v := 8) hx hb dX5_hear_35 (by decide) ?_
      refine lv_icmp_ne (tgt := 43) hx hb dX5_hear_37 (by decide) (fun c37_6 => ?_) (fun c37_6 => ?_)
      · skip
        have ht8 : t < 8 := Nat.lt_of_le_of_ne ht (fun q_ => c37_6 (by rw [q_]; rfl))
        refine lv_aload_n hx hb dX5_hear_43 rfl (lv_at hl 0 rfl) ?_
        refine va_get (D := D) (ci := 5) (v := .ref he) (C := RX5) (T := TX5) (N := 35) hx hb hts hiX5 hown hK hP 0 rfl rfl 22 (by decide) (hts (.fieldLink RX5 28 "HeardSecondModel" "heards" "[I") (by decide +kernel)) (fun _ h9 => h9) rfl dX5_hear_44 ?_
        refine lv_iconst (v := 2) hx hb dX5_hear_47 (by decide) ?_
        refine lv_aload_n hx hb dX5_hear_48 rfl (lv_at hl 0 rfl) ?_
        refine va_get (D := D) (ci := 5) (v := .int (nI t)) (C := RX5) (T := TX5) (N := 35) hx hb hts hiX5 hown hK hP 0 rfl rfl 21 (by decide) (hts (.fieldLink RX5 118 "HeardSecondModel" "heardMany" "I") (by decide +kernel)) (fun _ h9 => h9) rfl dX5_hear_49 ?_
        refine lv_imul hx hb dX5_hear_52 ?_
        refine z_top (y := nI (2 * t)) (nI_2 t) ?_
        refine lv_iload_n hx hb dX5_hear_53 rfl (lv_at hl 1 rfl) ?_
        refine va_iast hx hb hK hP hD hS 1 0 rfl rfl (z_inN (by omega) (by decide)) dX5_hear_54 (fun H locs hP hD hS => ?_)
        have hP : va_P D vwCl [(m0, .inr (5, [.ref pg, .int (nI n), .ref rd, .int rmy, .int rpt, .int sta, .int (nI N), .int pt, .int nw, .int ou, .int si, .int en, .int w0, .int w1, .int br, .int cr, .ref ro, .ref fa, .ref wo, .ref ah, .int pf, .int (nI t), .ref he, .ref wy, .ref on_, .ref pa, .ref kr, .ref kn, .ref kh, .int kt, .int kc, .int sd, .ref sr, .ref sn, .long ha])), (he, .inl (cA, 16, .inl (upd he_ (Int32.toNatClampNeg (nI (2 * t))) x)))] H := hP
        have hD : va_D A [(m0, .inr (5, [.ref pg, .int (nI n), .ref rd, .int rmy, .int rpt, .int sta, .int (nI N), .int pt, .int nw, .int ou, .int si, .int en, .int w0, .int w1, .int br, .int cr, .ref ro, .ref fa, .ref wo, .ref ah, .int pf, .int (nI t), .ref he, .ref wy, .ref on_, .ref pa, .ref kr, .ref kn, .ref kh, .int kt, .int kc, .int sd, .ref sr, .ref sn, .long ha])), (he, .inl (cA, 16, .inl (upd he_ (Int32.toNatClampNeg (nI (2 * t))) x)))] := hD
        rw [show upd he_ (Int32.toNatClampNeg (nI (2 * t))) x = upd he_ (2 * t) x from by rw [z_nat (by omega)]] at hP hD
        refine lv_aload_n hx hb dX5_hear_55 rfl (lv_at hl 0 rfl) ?_
        refine va_get (D := D) (ci := 5) (v := .ref he) (C := RX5) (T := TX5) (N := 35) hx hb hts hiX5 hown hK hP 0 rfl rfl 22 (by decide) (hts (.fieldLink RX5 28 "HeardSecondModel" "heards" "[I") (by decide +kernel)) (fun _ h9 => h9) rfl dX5_hear_56 ?_
        refine lv_iconst (v := 2) hx hb dX5_hear_59 (by decide) ?_
        refine lv_aload_n hx hb dX5_hear_60 rfl (lv_at hl 0 rfl) ?_
        refine va_get (D := D) (ci := 5) (v := .int (nI t)) (C := RX5) (T := TX5) (N := 35) hx hb hts hiX5 hown hK hP 0 rfl rfl 21 (by decide) (hts (.fieldLink RX5 118 "HeardSecondModel" "heardMany" "I") (by decide +kernel)) (fun _ h9 => h9) rfl dX5_hear_61 ?_
        refine lv_imul hx hb dX5_hear_64 ?_
        refine lv_iconst (v := 1) hx hb dX5_hear_65 (by decide) ?_
        refine lv_iadd hx hb dX5_hear_66 ?_
        refine z_top (y := nI (2 * t + 1)) (nI_21 t) ?_
        refine lv_iload_n hx hb dX5_hear_67 rfl (lv_at hl 2 rfl) ?_
        refine lv_iconst (v := (-1)) hx hb dX5_hear_68 (by decide) ?_
        refine lv_icmp_ne (tgt := 77) hx hb dX5_hear_69 (by decide) (fun c69_7 => ?_) (fun c69_7 => ?_)
        · skip
          refine lv_iload_n hx hb dX5_hear_77 rfl (lv_at hl 2 rfl) ?_
          refine z_top (y := if y = -1 then 7 else y) (by first | (rw [if_pos (by assumption)]; done) | (rw [if_neg (by assumption)]; done)) ?_
          refine va_iast hx hb hK hP hD hS 1 0 rfl rfl (z_inN (by omega) (by decide)) dX5_hear_78 (fun H locs hP hD hS => ?_)
          have hP : va_P D vwCl [(m0, .inr (5, [.ref pg, .int (nI n), .ref rd, .int rmy, .int rpt, .int sta, .int (nI N), .int pt, .int nw, .int ou, .int si, .int en, .int w0, .int w1, .int br, .int cr, .ref ro, .ref fa, .ref wo, .ref ah, .int pf, .int (nI t), .ref he, .ref wy, .ref on_, .ref pa, .ref kr, .ref kn, .ref kh, .int kt, .int kc, .int sd, .ref sr, .ref sn, .long ha])), (he, .inl (cA, 16, .inl (upd (upd he_ (2 * t) x) (Int32.toNatClampNeg (nI (2 * t + 1))) (if y = -1 then 7 else y))))] H := hP
          have hD : va_D A [(m0, .inr (5, [.ref pg, .int (nI n), .ref rd, .int rmy, .int rpt, .int sta, .int (nI N), .int pt, .int nw, .int ou, .int si, .int en, .int w0, .int w1, .int br, .int cr, .ref ro, .ref fa, .ref wo, .ref ah, .int pf, .int (nI t), .ref he, .ref wy, .ref on_, .ref pa, .ref kr, .ref kn, .ref kh, .int kt, .int kc, .int sd, .ref sr, .ref sn, .long ha])), (he, .inl (cA, 16, .inl (upd (upd he_ (2 * t) x) (Int32.toNatClampNeg (nI (2 * t + 1))) (if y = -1 then 7 else y))))] := hD
          rw [show upd (upd he_ (2 * t) x) (Int32.toNatClampNeg (nI (2 * t + 1))) (if y = -1 then 7 else y) = upd (upd he_ (2 * t) x) (2 * t + 1) (if y = -1 then 7 else y) from by rw [z_nat (by omega)]] at hP hD
          refine lv_aload_n hx hb dX5_hear_79 rfl (lv_at hl 0 rfl) ?_
          refine lv_dup hx hb dX5_hear_80 rfl ?_
          refine va_get (D := D) (ci := 5) (v := .int (nI t)) (C := RX5) (T := TX5) (N := 35) hx hb hts hiX5 hown hK hP 0 rfl rfl 21 (by decide) (hts (.fieldLink RX5 118 "HeardSecondModel" "heardMany" "I") (by decide +kernel)) (fun _ h9 => h9) rfl dX5_hear_81 ?_
          refine lv_iconst (v := 1) hx hb dX5_hear_84 (by decide) ?_
          refine lv_iadd hx hb dX5_hear_85 ?_
          refine z_top (y := nI (t + 1)) (nI_1 t) ?_
          refine va_put (D := D) (ci := 5) (v := .int (nI (t + 1))) (ty := .int) (C := RX5) (T := TX5) (N := 35) hx hb hts hiX5 tyX5 tyX5_ok nmX5 hown hK hP hD hS 0 rfl rfl 21 (by decide) (hts (.fieldLink RX5 118 "HeardSecondModel" "heardMany" "I") (by decide +kernel)) (fun _ h9 => h9) rfl (by decide +kernel) (rfl) rfl (Nat.le_of_ble_eq_true rfl) dX5_hear_86 (fun H locs hP hD hS => ?_)
          have hP : va_P D vwCl [(m0, .inr (5, [.ref pg, .int (nI n), .ref rd, .int rmy, .int rpt, .int sta, .int (nI N), .int pt, .int nw, .int ou, .int si, .int en, .int w0, .int w1, .int br, .int cr, .ref ro, .ref fa, .ref wo, .ref ah, .int pf, .int (nI (t + 1)), .ref he, .ref wy, .ref on_, .ref pa, .ref kr, .ref kn, .ref kh, .int kt, .int kc, .int sd, .ref sr, .ref sn, .long ha])), (he, .inl (cA, 16, .inl (upd (upd he_ (2 * t) x) (2 * t + 1) (if y = -1 then 7 else y))))] H := hP
          have hD : va_D A [(m0, .inr (5, [.ref pg, .int (nI n), .ref rd, .int rmy, .int rpt, .int sta, .int (nI N), .int pt, .int nw, .int ou, .int si, .int en, .int w0, .int w1, .int br, .int cr, .ref ro, .ref fa, .ref wo, .ref ah, .int pf, .int (nI (t + 1)), .ref he, .ref wy, .ref on_, .ref pa, .ref kr, .ref kn, .ref kh, .int kt, .int kc, .int sd, .ref sr, .ref sn, .long ha])), (he, .inl (cA, 16, .inl (upd (upd he_ (2 * t) x) (2 * t + 1) (if y = -1 then 7 else y))))] := hD
          refine lv_aload_n hx hb dX5_hear_89 rfl (lv_at hl 0 rfl) ?_
          refine va_get (D := D) (ci := 5) (v := .int (nI (t + 1))) (C := RX5) (T := TX5) (N := 35) hx hb hts hiX5 hown hK hP 0 rfl rfl 21 (by decide) (hts (.fieldLink RX5 118 "HeardSecondModel" "heardMany" "I") (by decide +kernel)) (fun _ h9 => h9) rfl dX5_hear_90 ?_
          -- path 1
          have hP : va_P D vwCl [(m0, .inr (5, [.ref pg, .int (nI n), .ref rd, .int rmy, .int rpt, .int sta, .int (nI N), .int pt, .int nw, .int ou, .int si, .int en, .int w0, .int w1, .int br, .int cr, .ref ro, .ref fa, .ref wo, .ref ah, .int pf, .int (nI (if mHeOk N t x y then t + 1 else t)), .ref he, .ref wy, .ref on_, .ref pa, .ref kr, .ref kn, .ref kh, .int kt, .int kc, .int sd, .ref sr, .ref sn, .long ha])), (he, .inl (cA, 16, .inl (upd (upd he_ (2 * t) x) (2 * t + 1) (if y = -1 then 7 else y))))] H := by have e_ : nI (t + 1) = nI (if mHeOk N t x y then t + 1 else t) := (by clear hret hl hS hD hP hK hA hN hts hx hb hr hml hown hlocks hiX5; first | (rw [show mHeOk N t x y = true from by simp_all [mHeOk]]; rfl) | (rw [show mHeOk N t x y = false from by simp_all [mHeOk]]; rfl) | (intro j_ hj_; rw [show mHeOk N t x y = true from by simp_all [mHeOk]]; rfl) | (intro j_ hj_; rw [show mHeOk N t x y = false from by simp_all [mHeOk]]; rfl)); rw [← e_]; exact hP
          have hD : va_D A [(m0, .inr (5, [.ref pg, .int (nI n), .ref rd, .int rmy, .int rpt, .int sta, .int (nI N), .int pt, .int nw, .int ou, .int si, .int en, .int w0, .int w1, .int br, .int cr, .ref ro, .ref fa, .ref wo, .ref ah, .int pf, .int (nI (if mHeOk N t x y then t + 1 else t)), .ref he, .ref wy, .ref on_, .ref pa, .ref kr, .ref kn, .ref kh, .int kt, .int kc, .int sd, .ref sr, .ref sn, .long ha])), (he, .inl (cA, 16, .inl (upd (upd he_ (2 * t) x) (2 * t + 1) (if y = -1 then 7 else y))))] := by have e_ : nI (t + 1) = nI (if mHeOk N t x y then t + 1 else t) := (by clear hret hl hS hD hP hK hA hN hts hx hb hr hml hown hlocks hiX5; first | (rw [show mHeOk N t x y = true from by simp_all [mHeOk]]; rfl) | (rw [show mHeOk N t x y = false from by simp_all [mHeOk]]; rfl) | (intro j_ hj_; rw [show mHeOk N t x y = true from by simp_all [mHeOk]]; rfl) | (intro j_ hj_; rw [show mHeOk N t x y = false from by simp_all [mHeOk]]; rfl)); rw [← e_]; exact hD
          have hP : va_P D vwCl [(m0, .inr (5, [.ref pg, .int (nI n), .ref rd, .int rmy, .int rpt, .int sta, .int (nI N), .int pt, .int nw, .int ou, .int si, .int en, .int w0, .int w1, .int br, .int cr, .ref ro, .ref fa, .ref wo, .ref ah, .int pf, .int (nI (if mHeOk N t x y then t + 1 else t)), .ref he, .ref wy, .ref on_, .ref pa, .ref kr, .ref kn, .ref kh, .int kt, .int kc, .int sd, .ref sr, .ref sn, .long ha])), (he, .inl (cA, 16, .inl (if mHeOk N t x y then upd (upd he_ (2 * t) x) (2 * t + 1) (if y = -1 then 7 else y) else he_)))] H := z_arrP hP 1 (g := (if mHeOk N t x y then upd (upd he_ (2 * t) x) (2 * t + 1) (if y = -1 then 7 else y) else he_)) rfl (by clear hret hl hS hD hP hK hA hN hts hx hb hr hml hown hlocks hiX5; first | (rw [show mHeOk N t x y = true from by simp_all [mHeOk]]; rfl) | (rw [show mHeOk N t x y = false from by simp_all [mHeOk]]; rfl) | (intro j_ hj_; rw [show mHeOk N t x y = true from by simp_all [mHeOk]]; rfl) | (intro j_ hj_; rw [show mHeOk N t x y = false from by simp_all [mHeOk]]; rfl)) rfl
          have hD : va_D A [(m0, .inr (5, [.ref pg, .int (nI n), .ref rd, .int rmy, .int rpt, .int sta, .int (nI N), .int pt, .int nw, .int ou, .int si, .int en, .int w0, .int w1, .int br, .int cr, .ref ro, .ref fa, .ref wo, .ref ah, .int pf, .int (nI (if mHeOk N t x y then t + 1 else t)), .ref he, .ref wy, .ref on_, .ref pa, .ref kr, .ref kn, .ref kh, .int kt, .int kc, .int sd, .ref sr, .ref sn, .long ha])), (he, .inl (cA, 16, .inl (if mHeOk N t x y then upd (upd he_ (2 * t) x) (2 * t + 1) (if y = -1 then 7 else y) else he_)))] := z_arrD hD 1 rfl rfl
          exact hret (nI (t + 1)) () _ _ _ _ dX5_hear_93 (rfl) (by clear hret hl hS hD hP hK hA hN hts hx hb hr hml hown hlocks hiX5; first | (simp_all [mHeOk, mHeNo]; done) | grind [mHeOk, mHeNo]) hP hD hS
        · skip
          refine lv_bipush (v := 7) hx hb dX5_hear_72 (by decide) ?_
          refine lv_goto (tgt := 78) hx hb dX5_hear_74 (by decide) ?_
          refine z_top (y := if y = -1 then 7 else y) (by first | (rw [if_pos (by assumption)]; done) | (rw [if_neg (by assumption)]; done)) ?_
          refine va_iast hx hb hK hP hD hS 1 0 rfl rfl (z_inN (by omega) (by decide)) dX5_hear_78 (fun H locs hP hD hS => ?_)
          have hP : va_P D vwCl [(m0, .inr (5, [.ref pg, .int (nI n), .ref rd, .int rmy, .int rpt, .int sta, .int (nI N), .int pt, .int nw, .int ou, .int si, .int en, .int w0, .int w1, .int br, .int cr, .ref ro, .ref fa, .ref wo, .ref ah, .int pf, .int (nI t), .ref he, .ref wy, .ref on_, .ref pa, .ref kr, .ref kn, .ref kh, .int kt, .int kc, .int sd, .ref sr, .ref sn, .long ha])), (he, .inl (cA, 16, .inl (upd (upd he_ (2 * t) x) (Int32.toNatClampNeg (nI (2 * t + 1))) (if y = -1 then 7 else y))))] H := hP
          have hD : va_D A [(m0, .inr (5, [.ref pg, .int (nI n), .ref rd, .int rmy, .int rpt, .int sta, .int (nI N), .int pt, .int nw, .int ou, .int si, .int en, .int w0, .int w1, .int br, .int cr, .ref ro, .ref fa, .ref wo, .ref ah, .int pf, .int (nI t), .ref he, .ref wy, .ref on_, .ref pa, .ref kr, .ref kn, .ref kh, .int kt, .int kc, .int sd, .ref sr, .ref sn, .long ha])), (he, .inl (cA, 16, .inl (upd (upd he_ (2 * t) x) (Int32.toNatClampNeg (nI (2 * t + 1))) (if y = -1 then 7 else y))))] := hD
          rw [show upd (upd he_ (2 * t) x) (Int32.toNatClampNeg (nI (2 * t + 1))) (if y = -1 then 7 else y) = upd (upd he_ (2 * t) x) (2 * t + 1) (if y = -1 then 7 else y) from by rw [z_nat (by omega)]] at hP hD
          refine lv_aload_n hx hb dX5_hear_79 rfl (lv_at hl 0 rfl) ?_
          refine lv_dup hx hb dX5_hear_80 rfl ?_
          refine va_get (D := D) (ci := 5) (v := .int (nI t)) (C := RX5) (T := TX5) (N := 35) hx hb hts hiX5 hown hK hP 0 rfl rfl 21 (by decide) (hts (.fieldLink RX5 118 "HeardSecondModel" "heardMany" "I") (by decide +kernel)) (fun _ h9 => h9) rfl dX5_hear_81 ?_
          refine lv_iconst (v := 1) hx hb dX5_hear_84 (by decide) ?_
          refine lv_iadd hx hb dX5_hear_85 ?_
          refine z_top (y := nI (t + 1)) (nI_1 t) ?_
          refine va_put (D := D) (ci := 5) (v := .int (nI (t + 1))) (ty := .int) (C := RX5) (T := TX5) (N := 35) hx hb hts hiX5 tyX5 tyX5_ok nmX5 hown hK hP hD hS 0 rfl rfl 21 (by decide) (hts (.fieldLink RX5 118 "HeardSecondModel" "heardMany" "I") (by decide +kernel)) (fun _ h9 => h9) rfl (by decide +kernel) (rfl) rfl (Nat.le_of_ble_eq_true rfl) dX5_hear_86 (fun H locs hP hD hS => ?_)
          have hP : va_P D vwCl [(m0, .inr (5, [.ref pg, .int (nI n), .ref rd, .int rmy, .int rpt, .int sta, .int (nI N), .int pt, .int nw, .int ou, .int si, .int en, .int w0, .int w1, .int br, .int cr, .ref ro, .ref fa, .ref wo, .ref ah, .int pf, .int (nI (t + 1)), .ref he, .ref wy, .ref on_, .ref pa, .ref kr, .ref kn, .ref kh, .int kt, .int kc, .int sd, .ref sr, .ref sn, .long ha])), (he, .inl (cA, 16, .inl (upd (upd he_ (2 * t) x) (2 * t + 1) (if y = -1 then 7 else y))))] H := hP
          have hD : va_D A [(m0, .inr (5, [.ref pg, .int (nI n), .ref rd, .int rmy, .int rpt, .int sta, .int (nI N), .int pt, .int nw, .int ou, .int si, .int en, .int w0, .int w1, .int br, .int cr, .ref ro, .ref fa, .ref wo, .ref ah, .int pf, .int (nI (t + 1)), .ref he, .ref wy, .ref on_, .ref pa, .ref kr, .ref kn, .ref kh, .int kt, .int kc, .int sd, .ref sr, .ref sn, .long ha])), (he, .inl (cA, 16, .inl (upd (upd he_ (2 * t) x) (2 * t + 1) (if y = -1 then 7 else y))))] := hD
          refine lv_aload_n hx hb dX5_hear_89 rfl (lv_at hl 0 rfl) ?_
          refine va_get (D := D) (ci := 5) (v := .int (nI (t + 1))) (C := RX5) (T := TX5) (N := 35) hx hb hts hiX5 hown hK hP 0 rfl rfl 21 (by decide) (hts (.fieldLink RX5 118 "HeardSecondModel" "heardMany" "I") (by decide +kernel)) (fun _ h9 => h9) rfl dX5_hear_90 ?_
          -- path 2
          have hP : va_P D vwCl [(m0, .inr (5, [.ref pg, .int (nI n), .ref rd, .int rmy, .int rpt, .int sta, .int (nI N), .int pt, .int nw, .int ou, .int si, .int en, .int w0, .int w1, .int br, .int cr, .ref ro, .ref fa, .ref wo, .ref ah, .int pf, .int (nI (if mHeOk N t x y then t + 1 else t)), .ref he, .ref wy, .ref on_, .ref pa, .ref kr, .ref kn, .ref kh, .int kt, .int kc, .int sd, .ref sr, .ref sn, .long ha])), (he, .inl (cA, 16, .inl (upd (upd he_ (2 * t) x) (2 * t + 1) (if y = -1 then 7 else y))))] H := by have e_ : nI (t + 1) = nI (if mHeOk N t x y then t + 1 else t) := (by clear hret hl hS hD hP hK hA hN hts hx hb hr hml hown hlocks hiX5; first | (rw [show mHeOk N t x y = true from by simp_all [mHeOk]]; rfl) | (rw [show mHeOk N t x y = false from by simp_all [mHeOk]]; rfl) | (intro j_ hj_; rw [show mHeOk N t x y = true from by simp_all [mHeOk]]; rfl) | (intro j_ hj_; rw [show mHeOk N t x y = false from by simp_all [mHeOk]]; rfl)); rw [← e_]; exact hP
          have hD : va_D A [(m0, .inr (5, [.ref pg, .int (nI n), .ref rd, .int rmy, .int rpt, .int sta, .int (nI N), .int pt, .int nw, .int ou, .int si, .int en, .int w0, .int w1, .int br, .int cr, .ref ro, .ref fa, .ref wo, .ref ah, .int pf, .int (nI (if mHeOk N t x y then t + 1 else t)), .ref he, .ref wy, .ref on_, .ref pa, .ref kr, .ref kn, .ref kh, .int kt, .int kc, .int sd, .ref sr, .ref sn, .long ha])), (he, .inl (cA, 16, .inl (upd (upd he_ (2 * t) x) (2 * t + 1) (if y = -1 then 7 else y))))] := by have e_ : nI (t + 1) = nI (if mHeOk N t x y then t + 1 else t) := (by clear hret hl hS hD hP hK hA hN hts hx hb hr hml hown hlocks hiX5; first | (rw [show mHeOk N t x y = true from by simp_all [mHeOk]]; rfl) | (rw [show mHeOk N t x y = false from by simp_all [mHeOk]]; rfl) | (intro j_ hj_; rw [show mHeOk N t x y = true from by simp_all [mHeOk]]; rfl) | (intro j_ hj_; rw [show mHeOk N t x y = false from by simp_all [mHeOk]]; rfl)); rw [← e_]; exact hD
          have hP : va_P D vwCl [(m0, .inr (5, [.ref pg, .int (nI n), .ref rd, .int rmy, .int rpt, .int sta, .int (nI N), .int pt, .int nw, .int ou, .int si, .int en, .int w0, .int w1, .int br, .int cr, .ref ro, .ref fa, .ref wo, .ref ah, .int pf, .int (nI (if mHeOk N t x y then t + 1 else t)), .ref he, .ref wy, .ref on_, .ref pa, .ref kr, .ref kn, .ref kh, .int kt, .int kc, .int sd, .ref sr, .ref sn, .long ha])), (he, .inl (cA, 16, .inl (if mHeOk N t x y then upd (upd he_ (2 * t) x) (2 * t + 1) (if y = -1 then 7 else y) else he_)))] H := z_arrP hP 1 (g := (if mHeOk N t x y then upd (upd he_ (2 * t) x) (2 * t + 1) (if y = -1 then 7 else y) else he_)) rfl (by clear hret hl hS hD hP hK hA hN hts hx hb hr hml hown hlocks hiX5; first | (rw [show mHeOk N t x y = true from by simp_all [mHeOk]]; rfl) | (rw [show mHeOk N t x y = false from by simp_all [mHeOk]]; rfl) | (intro j_ hj_; rw [show mHeOk N t x y = true from by simp_all [mHeOk]]; rfl) | (intro j_ hj_; rw [show mHeOk N t x y = false from by simp_all [mHeOk]]; rfl)) rfl
          have hD : va_D A [(m0, .inr (5, [.ref pg, .int (nI n), .ref rd, .int rmy, .int rpt, .int sta, .int (nI N), .int pt, .int nw, .int ou, .int si, .int en, .int w0, .int w1, .int br, .int cr, .ref ro, .ref fa, .ref wo, .ref ah, .int pf, .int (nI (if mHeOk N t x y then t + 1 else t)), .ref he, .ref wy, .ref on_, .ref pa, .ref kr, .ref kn, .ref kh, .int kt, .int kc, .int sd, .ref sr, .ref sn, .long ha])), (he, .inl (cA, 16, .inl (if mHeOk N t x y then upd (upd he_ (2 * t) x) (2 * t + 1) (if y = -1 then 7 else y) else he_)))] := z_arrD hD 1 rfl rfl
          exact hret (nI (t + 1)) () _ _ _ _ dX5_hear_93 (rfl) (by clear hret hl hS hD hP hK hA hN hts hx hb hr hml hown hlocks hiX5; first | (simp_all [mHeOk, mHeNo]; done) | grind [mHeOk, mHeNo]) hP hD hS
      · skip
        have ht8 : ¬ t < 8 := by have := (nI_eq (a := t) (b := 8) (by omega) (by omega)).mp c37_6; omega
        refine lv_bipush (v := (-104)) hx hb dX5_hear_40 (by decide) ?_
        -- path 3
        have hP : va_P D vwCl [(m0, .inr (5, [.ref pg, .int (nI n), .ref rd, .int rmy, .int rpt, .int sta, .int (nI N), .int pt, .int nw, .int ou, .int si, .int en, .int w0, .int w1, .int br, .int cr, .ref ro, .ref fa, .ref wo, .ref ah, .int pf, .int (nI (if mHeOk N t x y then t + 1 else t)), .ref he, .ref wy, .ref on_, .ref pa, .ref kr, .ref kn, .ref kh, .int kt, .int kc, .int sd, .ref sr, .ref sn, .long ha])), (he, .inl (cA, 16, .inl he_))] H := by have e_ : nI t = nI (if mHeOk N t x y then t + 1 else t) := (by clear hret hl hS hD hP hK hA hN hts hx hb hr hml hown hlocks hiX5; first | (rw [show mHeOk N t x y = true from by simp_all [mHeOk]]; rfl) | (rw [show mHeOk N t x y = false from by simp_all [mHeOk]]; rfl) | (intro j_ hj_; rw [show mHeOk N t x y = true from by simp_all [mHeOk]]; rfl) | (intro j_ hj_; rw [show mHeOk N t x y = false from by simp_all [mHeOk]]; rfl)); rw [← e_]; exact hP
        have hD : va_D A [(m0, .inr (5, [.ref pg, .int (nI n), .ref rd, .int rmy, .int rpt, .int sta, .int (nI N), .int pt, .int nw, .int ou, .int si, .int en, .int w0, .int w1, .int br, .int cr, .ref ro, .ref fa, .ref wo, .ref ah, .int pf, .int (nI (if mHeOk N t x y then t + 1 else t)), .ref he, .ref wy, .ref on_, .ref pa, .ref kr, .ref kn, .ref kh, .int kt, .int kc, .int sd, .ref sr, .ref sn, .long ha])), (he, .inl (cA, 16, .inl he_))] := by have e_ : nI t = nI (if mHeOk N t x y then t + 1 else t) := (by clear hret hl hS hD hP hK hA hN hts hx hb hr hml hown hlocks hiX5; first | (rw [show mHeOk N t x y = true from by simp_all [mHeOk]]; rfl) | (rw [show mHeOk N t x y = false from by simp_all [mHeOk]]; rfl) | (intro j_ hj_; rw [show mHeOk N t x y = true from by simp_all [mHeOk]]; rfl) | (intro j_ hj_; rw [show mHeOk N t x y = false from by simp_all [mHeOk]]; rfl)); rw [← e_]; exact hD
        have hP : va_P D vwCl [(m0, .inr (5, [.ref pg, .int (nI n), .ref rd, .int rmy, .int rpt, .int sta, .int (nI N), .int pt, .int nw, .int ou, .int si, .int en, .int w0, .int w1, .int br, .int cr, .ref ro, .ref fa, .ref wo, .ref ah, .int pf, .int (nI (if mHeOk N t x y then t + 1 else t)), .ref he, .ref wy, .ref on_, .ref pa, .ref kr, .ref kn, .ref kh, .int kt, .int kc, .int sd, .ref sr, .ref sn, .long ha])), (he, .inl (cA, 16, .inl (if mHeOk N t x y then upd (upd he_ (2 * t) x) (2 * t + 1) (if y = -1 then 7 else y) else he_)))] H := z_arrP hP 1 (g := (if mHeOk N t x y then upd (upd he_ (2 * t) x) (2 * t + 1) (if y = -1 then 7 else y) else he_)) rfl (by clear hret hl hS hD hP hK hA hN hts hx hb hr hml hown hlocks hiX5; first | (rw [show mHeOk N t x y = true from by simp_all [mHeOk]]; rfl) | (rw [show mHeOk N t x y = false from by simp_all [mHeOk]]; rfl) | (intro j_ hj_; rw [show mHeOk N t x y = true from by simp_all [mHeOk]]; rfl) | (intro j_ hj_; rw [show mHeOk N t x y = false from by simp_all [mHeOk]]; rfl)) rfl
        have hD : va_D A [(m0, .inr (5, [.ref pg, .int (nI n), .ref rd, .int rmy, .int rpt, .int sta, .int (nI N), .int pt, .int nw, .int ou, .int si, .int en, .int w0, .int w1, .int br, .int cr, .ref ro, .ref fa, .ref wo, .ref ah, .int pf, .int (nI (if mHeOk N t x y then t + 1 else t)), .ref he, .ref wy, .ref on_, .ref pa, .ref kr, .ref kn, .ref kh, .int kt, .int kc, .int sd, .ref sr, .ref sn, .long ha])), (he, .inl (cA, 16, .inl (if mHeOk N t x y then upd (upd he_ (2 * t) x) (2 * t + 1) (if y = -1 then 7 else y) else he_)))] := z_arrD hD 1 rfl rfl
        exact hret ((-104)) () _ _ _ _ dX5_hear_42 (rfl) (by clear hret hl hS hD hP hK hA hN hts hx hb hr hml hown hlocks hiX5; first | (simp_all [mHeOk, mHeNo]; done) | grind [mHeOk, mHeNo]) hP hD hS
    · skip
      refine lv_aload_n hx hb dX5_hear_20 rfl (lv_at hl 0 rfl) ?_
      refine lv_iload_n hx hb dX5_hear_21 rfl (lv_at hl 2 rfl) ?_
      refine z_bri (z_runV (As := [.int y]) (rest := []) (ci := 5) ⟨hx, hb, hml, hown, hts⟩ (c_X5_isSeat (m0 := m0) (pg := pg) (rd := rd) (ro := ro) (fa := fa) (wo := wo) (ah := ah) (he := he) (wy := wy) (on_ := on_) (pa := pa) (kr := kr) (kn := kn) (kh := kh) (sr := sr) (sn := sn) (n := n) (N := N) (t := t) (rmy := rmy) (rpt := rpt) (sta := sta) (pt := pt) (nw := nw) (ou := ou) (si := si) (en := en) (w0 := w0) (w1 := w1) (br := br) (cr := cr) (pf := pf) (kt := kt) (kc := kc) (sd := sd) (ha := ha) (x := y) _) (cwV 1 hts gX5_hear_X5_isSeat rfl rfl rfl (by decide +kernel) ⟨Nat.le_of_ble_eq_true rfl, Nat.le_of_ble_eq_true rfl⟩) hK hP hD hN [0] rfl rfl rfl rfl rfl hl.1 rfl (Nat.le_of_ble_eq_true rfl) dX5_hear_22 ⟨Nat.zero_le _, Nat.zero_le _⟩) hP hD hS hA [0] rfl (fun r_9 u_10 H locs hq_8 hP hS => ?_)
      obtain rfl : r_9 = bI (mIn y 0 (nI N - 1)) := hq_8
      refine lv_if_ne (tgt := 31) hx hb dX5_hear_25 (by decide) (fun c25_11 => ?_) (fun c25_11 => ?_)
      · skip
        have c25_11 := bI_n0.mp c25_11
        refine lv_aload_n hx hb dX5_hear_31 rfl (lv_at hl 0 rfl) ?_
        refine va_get (D := D) (ci := 5) (v := .int (nI t)) (C := RX5) (T := TX5) (N := 35) hx hb hts hiX5 hown hK hP 0 rfl rfl 21 (by decide) (hts (.fieldLink RX5 118 "HeardSecondModel" "heardMany" "I") (by decide +kernel)) (fun _ h9 => h9) rfl dX5_hear_32 ?_
        refine lv_bipush (v := 8) hx hb dX5_hear_35 (by decide) ?_
        refine lv_icmp_ne (tgt := 43) hx hb dX5_hear_37 (by decide) (fun c37_12 => ?_) (fun c37_12 => ?_)
        · skip
          have ht8 : t < 8 := Nat.lt_of_le_of_ne ht (fun q_ => c37_12 (by rw [q_]; rfl))
          refine lv_aload_n hx hb dX5_hear_43 rfl (lv_at hl 0 rfl) ?_
          refine va_get (D := D) (ci := 5) (v := .ref he) (C := RX5) (T := TX5) (N := 35) hx hb hts hiX5 hown hK hP 0 rfl rfl 22 (by decide) (hts (.fieldLink RX5 28 "HeardSecondModel" "heards" "[I") (by decide +kernel)) (fun _ h9 => h9) rfl dX5_hear_44 ?_
          refine lv_iconst (v := 2) hx hb dX5_hear_47 (by decide) ?_
          refine lv_aload_n hx hb dX5_hear_48 rfl (lv_at hl 0 rfl) ?_
          refine va_get (D := D) (ci := 5) (v := .int (nI t)) (C := RX5) (T := TX5) (N := 35) hx hb hts hiX5 hown hK hP 0 rfl rfl 21 (by decide) (hts (.fieldLink RX5 118 "HeardSecondModel" "heardMany" "I") (by decide +kernel)) (fun _ h9 => h9) rfl dX5_hear_49 ?_
          refine lv_imul hx hb dX5_hear_52 ?_
          refine z_top (y := nI (2 * t)) (nI_2 t) ?_
          refine lv_iload_n hx hb dX5_hear_53 rfl (lv_at hl 1 rfl) ?_
          refine va_iast hx hb hK hP hD hS 1 0 rfl rfl (z_inN (by omega) (by decide)) dX5_hear_54 (fun H locs hP hD hS => ?_)
          have hP : va_P D vwCl [(m0, .inr (5, [.ref pg, .int (nI n), .ref rd, .int rmy, .int rpt, .int sta, .int (nI N), .int pt, .int nw, .int ou, .int si, .int en, .int w0, .int w1, .int br, .int cr, .ref ro, .ref fa, .ref wo, .ref ah, .int pf, .int (nI t), .ref he, .ref wy, .ref on_, .ref pa, .ref kr, .ref kn, .ref kh, .int kt, .int kc, .int sd, .ref sr, .ref sn, .long ha])), (he, .inl (cA, 16, .inl (upd he_ (Int32.toNatClampNeg (nI (2 * t))) x)))] H := hP
          have hD : va_D A [(m0, .inr (5, [.ref pg, .int (nI n), .ref rd, .int rmy, .int rpt, .int sta, .int (nI N), .int pt, .int nw, .int ou, .int si, .int en, .int w0, .int w1, .int br, .int cr, .ref ro, .ref fa, .ref wo, .ref ah, .int pf, .int (nI t), .ref he, .ref wy, .ref on_, .ref pa, .ref kr, .ref kn, .ref kh, .int kt, .int kc, .int sd, .ref sr, .ref sn, .long ha])), (he, .inl (cA, 16, .inl (upd he_ (Int32.toNatClampNeg (nI (2 * t))) x)))] := hD
          rw [show upd he_ (Int32.toNatClampNeg (nI (2 * t))) x = upd he_ (2 * t) x from by rw [z_nat (by omega)]] at hP hD
          refine lv_aload_n hx hb dX5_hear_55 rfl (lv_at hl 0 rfl) ?_
          refine va_get (D := D) (ci := 5) (v := .ref he) (C := RX5) (T := TX5) (N := 35) hx hb hts hiX5 hown hK hP 0 rfl rfl 22 (by decide) (hts (.fieldLink RX5 28 "HeardSecondModel" "heards" "[I") (by decide +kernel)) (fun _ h9 => h9) rfl dX5_hear_56 ?_
          refine lv_iconst (v := 2) hx hb dX5_hear_59 (by decide) ?_
          refine lv_aload_n hx hb dX5_hear_60 rfl (lv_at hl 0 rfl) ?_
          refine va_get (D := D) (ci := 5) (v := .int (nI t)) (C := RX5) (T := TX5) (N := 35) hx hb hts hiX5 hown hK hP 0 rfl rfl 21 (by decide) (hts (.fieldLink RX5 118 "HeardSecondModel" "heardMany" "I") (by decide +kernel)) (fun _ h9 => h9) rfl dX5_hear_61 ?_
          refine lv_imul hx hb dX5_hear_64 ?_
          refine lv_iconst (v := 1) hx hb dX5_hear_65 (by decide) ?_
          refine lv_iadd hx hb dX5_hear_66 ?_
          refine z_top (y := nI (2 * t + 1)) (nI_21 t) ?_
          refine lv_iload_n hx hb dX5_hear_67 rfl (lv_at hl 2 rfl) ?_
          refine lv_iconst (v := (-1)) hx hb dX5_hear_68 (by decide) ?_
          refine lv_icmp_ne (tgt := 77) hx hb dX5_hear_69 (by decide) (fun c69_13 => ?_) (fun c69_13 => ?_)
          · skip
            refine lv_iload_n hx hb dX5_hear_77 rfl (lv_at hl 2 rfl) ?_
            refine z_top (y := if y = -1 then 7 else y) (by first | (rw [if_pos (by assumption)]; done) | (rw [if_neg (by assumption)]; done)) ?_
            refine va_iast hx hb hK hP hD hS 1 0 rfl rfl (z_inN (by omega) (by decide)) dX5_hear_78 (fun H locs hP hD hS => ?_)
            have hP : va_P D vwCl [(m0, .inr (5, [.ref pg, .int (nI n), .ref rd, .int rmy, .int rpt, .int sta, .int (nI N), .int pt, .int nw, .int ou, .int si, .int en, .int w0, .int w1, .int br, .int cr, .ref ro, .ref fa, .ref wo, .ref ah, .int pf, .int (nI t), .ref he, .ref wy, .ref on_, .ref pa, .ref kr, .ref kn, .ref kh, .int kt, .int kc, .int sd, .ref sr, .ref sn, .long ha])), (he, .inl (cA, 16, .inl (upd (upd he_ (2 * t) x) (Int32.toNatClampNeg (nI (2 * t + 1))) (if y = -1 then 7 else y))))] H := hP
            have hD : va_D A [(m0, .inr (5, [.ref pg, .int (nI n), .ref rd, .int rmy, .int rpt, .int sta, .int (nI N), .int pt, .int nw, .int ou, .int si, .int en, .int w0, .int w1, .int br, .int cr, .ref ro, .ref fa, .ref wo, .ref ah, .int pf, .int (nI t), .ref he, .ref wy, .ref on_, .ref pa, .ref kr, .ref kn, .ref kh, .int kt, .int kc, .int sd, .ref sr, .ref sn, .long ha])), (he, .inl (cA, 16, .inl (upd (upd he_ (2 * t) x) (Int32.toNatClampNeg (nI (2 * t + 1))) (if y = -1 then 7 else y))))] := hD
            rw [show upd (upd he_ (2 * t) x) (Int32.toNatClampNeg (nI (2 * t + 1))) (if y = -1 then 7 else y) = upd (upd he_ (2 * t) x) (2 * t + 1) (if y = -1 then 7 else y) from by rw [z_nat (by omega)]] at hP hD
            refine lv_aload_n hx hb dX5_hear_79 rfl (lv_at hl 0 rfl) ?_
            refine lv_dup hx hb dX5_hear_80 rfl ?_
            refine va_get (D := D) (ci := 5) (v := .int (nI t)) (C := RX5) (T := TX5) (N := 35) hx hb hts hiX5 hown hK hP 0 rfl rfl 21 (by decide) (hts (.fieldLink RX5 118 "HeardSecondModel" "heardMany" "I") (by decide +kernel)) (fun _ h9 => h9) rfl dX5_hear_81 ?_
            refine lv_iconst (v := 1) hx hb dX5_hear_84 (by decide) ?_
            refine lv_iadd hx hb dX5_hear_85 ?_
            refine z_top (y := nI (t + 1)) (nI_1 t) ?_
            refine va_put (D := D) (ci := 5) (v := .int (nI (t + 1))) (ty := .int) (C := RX5) (T := TX5) (N := 35) hx hb hts hiX5 tyX5 tyX5_ok nmX5 hown hK hP hD hS 0 rfl rfl 21 (by decide) (hts (.fieldLink RX5 118 "HeardSecondModel" "heardMany" "I") (by decide +kernel)) (fun _ h9 => h9) rfl (by decide +kernel) (rfl) rfl (Nat.le_of_ble_eq_true rfl) dX5_hear_86 (fun H locs hP hD hS => ?_)
            have hP : va_P D vwCl [(m0, .inr (5, [.ref pg, .int (nI n), .ref rd, .int rmy, .int rpt, .int sta, .int (nI N), .int pt, .int nw, .int ou, .int si, .int en, .int w0, .int w1, .int br, .int cr, .ref ro, .ref fa, .ref wo, .ref ah, .int pf, .int (nI (t + 1)), .ref he, .ref wy, .ref on_, .ref pa, .ref kr, .ref kn, .ref kh, .int kt, .int kc, .int sd, .ref sr, .ref sn, .long ha])), (he, .inl (cA, 16, .inl (upd (upd he_ (2 * t) x) (2 * t + 1) (if y = -1 then 7 else y))))] H := hP
            have hD : va_D A [(m0, .inr (5, [.ref pg, .int (nI n), .ref rd, .int rmy, .int rpt, .int sta, .int (nI N), .int pt, .int nw, .int ou, .int si, .int en, .int w0, .int w1, .int br, .int cr, .ref ro, .ref fa, .ref wo, .ref ah, .int pf, .int (nI (t + 1)), .ref he, .ref wy, .ref on_, .ref pa, .ref kr, .ref kn, .ref kh, .int kt, .int kc, .int sd, .ref sr, .ref sn, .long ha])), (he, .inl (cA, 16, .inl (upd (upd he_ (2 * t) x) (2 * t + 1) (if y = -1 then 7 else y))))] := hD
            refine lv_aload_n hx hb dX5_hear_89 rfl (lv_at hl 0 rfl) ?_
            refine va_get (D := D) (ci := 5) (v := .int (nI (t + 1))) (C := RX5) (T := TX5) (N := 35) hx hb hts hiX5 hown hK hP 0 rfl rfl 21 (by decide) (hts (.fieldLink RX5 118 "HeardSecondModel" "heardMany" "I") (by decide +kernel)) (fun _ h9 => h9) rfl dX5_hear_90 ?_
            -- path 4
            have hP : va_P D vwCl [(m0, .inr (5, [.ref pg, .int (nI n), .ref rd, .int rmy, .int rpt, .int sta, .int (nI N), .int pt, .int nw, .int ou, .int si, .int en, .int w0, .int w1, .int br, .int cr, .ref ro, .ref fa, .ref wo, .ref ah, .int pf, .int (nI (if mHeOk N t x y then t + 1 else t)), .ref he, .ref wy, .ref on_, .ref pa, .ref kr, .ref kn, .ref kh, .int kt, .int kc, .int sd, .ref sr, .ref sn, .long ha])), (he, .inl (cA, 16, .inl (upd (upd he_ (2 * t) x) (2 * t + 1) (if y = -1 then 7 else y))))] H := by have e_ : nI (t + 1) = nI (if mHeOk N t x y then t + 1 else t) := (by clear hret hl hS hD hP hK hA hN hts hx hb hr hml hown hlocks hiX5; first | (rw [show mHeOk N t x y = true from by simp_all [mHeOk]]; rfl) | (rw [show mHeOk N t x y = false from by simp_all [mHeOk]]; rfl) | (intro j_ hj_; rw [show mHeOk N t x y = true from by simp_all [mHeOk]]; rfl) | (intro j_ hj_; rw [show mHeOk N t x y = false from by simp_all [mHeOk]]; rfl)); rw [← e_]; exact hP
            have hD : va_D A [(m0, .inr (5, [.ref pg, .int (nI n), .ref rd, .int rmy, .int rpt, .int sta, .int (nI N), .int pt, .int nw, .int ou, .int si, .int en, .int w0, .int w1, .int br, .int cr, .ref ro, .ref fa, .ref wo, .ref ah, .int pf, .int (nI (if mHeOk N t x y then t + 1 else t)), .ref he, .ref wy, .ref on_, .ref pa, .ref kr, .ref kn, .ref kh, .int kt, .int kc, .int sd, .ref sr, .ref sn, .long ha])), (he, .inl (cA, 16, .inl (upd (upd he_ (2 * t) x) (2 * t + 1) (if y = -1 then 7 else y))))] := by have e_ : nI (t + 1) = nI (if mHeOk N t x y then t + 1 else t) := (by clear hret hl hS hD hP hK hA hN hts hx hb hr hml hown hlocks hiX5; first | (rw [show mHeOk N t x y = true from by simp_all [mHeOk]]; rfl) | (rw [show mHeOk N t x y = false from by simp_all [mHeOk]]; rfl) | (intro j_ hj_; rw [show mHeOk N t x y = true from by simp_all [mHeOk]]; rfl) | (intro j_ hj_; rw [show mHeOk N t x y = false from by simp_all [mHeOk]]; rfl)); rw [← e_]; exact hD
            have hP : va_P D vwCl [(m0, .inr (5, [.ref pg, .int (nI n), .ref rd, .int rmy, .int rpt, .int sta, .int (nI N), .int pt, .int nw, .int ou, .int si, .int en, .int w0, .int w1, .int br, .int cr, .ref ro, .ref fa, .ref wo, .ref ah, .int pf, .int (nI (if mHeOk N t x y then t + 1 else t)), .ref he, .ref wy, .ref on_, .ref pa, .ref kr, .ref kn, .ref kh, .int kt, .int kc, .int sd, .ref sr, .ref sn, .long ha])), (he, .inl (cA, 16, .inl (if mHeOk N t x y then upd (upd he_ (2 * t) x) (2 * t + 1) (if y = -1 then 7 else y) else he_)))] H := z_arrP hP 1 (g := (if mHeOk N t x y then upd (upd he_ (2 * t) x) (2 * t + 1) (if y = -1 then 7 else y) else he_)) rfl (by clear hret hl hS hD hP hK hA hN hts hx hb hr hml hown hlocks hiX5; first | (rw [show mHeOk N t x y = true from by simp_all [mHeOk]]; rfl) | (rw [show mHeOk N t x y = false from by simp_all [mHeOk]]; rfl) | (intro j_ hj_; rw [show mHeOk N t x y = true from by simp_all [mHeOk]]; rfl) | (intro j_ hj_; rw [show mHeOk N t x y = false from by simp_all [mHeOk]]; rfl)) rfl
            have hD : va_D A [(m0, .inr (5, [.ref pg, .int (nI n), .ref rd, .int rmy, .int rpt, .int sta, .int (nI N), .int pt, .int nw, .int ou, .int si, .int en, .int w0, .int w1, .int br, .int cr, .ref ro, .ref fa, .ref wo, .ref ah, .int pf, .int (nI (if mHeOk N t x y then t + 1 else t)), .ref he, .ref wy, .ref on_, .ref pa, .ref kr, .ref kn, .ref kh, .int kt, .int kc, .int sd, .ref sr, .ref sn, .long ha])), (he, .inl (cA, 16, .inl (if mHeOk N t x y then upd (upd he_ (2 * t) x) (2 * t + 1) (if y = -1 then 7 else y) else he_)))] := z_arrD hD 1 rfl rfl
            exact hret (nI (t + 1)) () _ _ _ _ dX5_hear_93 (rfl) (by clear hret hl hS hD hP hK hA hN hts hx hb hr hml hown hlocks hiX5; first | (simp_all [mHeOk, mHeNo]; done) | grind [mHeOk, mHeNo]) hP hD hS
          · skip
            refine lv_bipush (v := 7) hx hb dX5_hear_72 (by decide) ?_
            refine lv_goto (tgt := 78) hx hb dX5_hear_74 (by decide) ?_
            refine z_top (y := if y = -1 then 7 else y) (by first | (rw [if_pos (by assumption)]; done) | (rw [if_neg (by assumption)]; done)) ?_
            refine va_iast hx hb hK hP hD hS 1 0 rfl rfl (z_inN (by omega) (by decide)) dX5_hear_78 (fun H locs hP hD hS => ?_)
            have hP : va_P D vwCl [(m0, .inr (5, [.ref pg, .int (nI n), .ref rd, .int rmy, .int rpt, .int sta, .int (nI N), .int pt, .int nw, .int ou, .int si, .int en, .int w0, .int w1, .int br, .int cr, .ref ro, .ref fa, .ref wo, .ref ah, .int pf, .int (nI t), .ref he, .ref wy, .ref on_, .ref pa, .ref kr, .ref kn, .ref kh, .int kt, .int kc, .int sd, .ref sr, .ref sn, .long ha])), (he, .inl (cA, 16, .inl (upd (upd he_ (2 * t) x) (Int32.toNatClampNeg (nI (2 * t + 1))) (if y = -1 then 7 else y))))] H := hP
            have hD : va_D A [(m0, .inr (5, [.ref pg, .int (nI n), .ref rd, .int rmy, .int rpt, .int sta, .int (nI N), .int pt, .int nw, .int ou, .int si, .int en, .int w0, .int w1, .int br, .int cr, .ref ro, .ref fa, .ref wo, .ref ah, .int pf, .int (nI t), .ref he, .ref wy, .ref on_, .ref pa, .ref kr, .ref kn, .ref kh, .int kt, .int kc, .int sd, .ref sr, .ref sn, .long ha])), (he, .inl (cA, 16, .inl (upd (upd he_ (2 * t) x) (Int32.toNatClampNeg (nI (2 * t + 1))) (if y = -1 then 7 else y))))] := hD
            rw [show upd (upd he_ (2 * t) x) (Int32.toNatClampNeg (nI (2 * t + 1))) (if y = -1 then 7 else y) = upd (upd he_ (2 * t) x) (2 * t + 1) (if y = -1 then 7 else y) from by rw [z_nat (by omega)]] at hP hD
            refine lv_aload_n hx hb dX5_hear_79 rfl (lv_at hl 0 rfl) ?_
            refine lv_dup hx hb dX5_hear_80 rfl ?_
            refine va_get (D := D) (ci := 5) (v := .int (nI t)) (C := RX5) (T := TX5) (N := 35) hx hb hts hiX5 hown hK hP 0 rfl rfl 21 (by decide) (hts (.fieldLink RX5 118 "HeardSecondModel" "heardMany" "I") (by decide +kernel)) (fun _ h9 => h9) rfl dX5_hear_81 ?_
            refine lv_iconst (v := 1) hx hb dX5_hear_84 (by decide) ?_
            refine lv_iadd hx hb dX5_hear_85 ?_
            refine z_top (y := nI (t + 1)) (nI_1 t) ?_
            refine va_put (D := D) (ci := 5) (v := .int (nI (t + 1))) (ty := .int) (C := RX5) (T := TX5) (N := 35) hx hb hts hiX5 tyX5 tyX5_ok nmX5 hown hK hP hD hS 0 rfl rfl 21 (by decide) (hts (.fieldLink RX5 118 "HeardSecondModel" "heardMany" "I") (by decide +kernel)) (fun _ h9 => h9) rfl (by decide +kernel) (rfl) rfl (Nat.le_of_ble_eq_true rfl) dX5_hear_86 (fun H locs hP hD hS => ?_)
            have hP : va_P D vwCl [(m0, .inr (5, [.ref pg, .int (nI n), .ref rd, .int rmy, .int rpt, .int sta, .int (nI N), .int pt, .int nw, .int ou, .int si, .int en, .int w0, .int w1, .int br, .int cr, .ref ro, .ref fa, .ref wo, .ref ah, .int pf, .int (nI (t + 1)), .ref he, .ref wy, .ref on_, .ref pa, .ref kr, .ref kn, .ref kh, .int kt, .int kc, .int sd, .ref sr, .ref sn, .long ha])), (he, .inl (cA, 16, .inl (upd (upd he_ (2 * t) x) (2 * t + 1) (if y = -1 then 7 else y))))] H := hP
            have hD : va_D A [(m0, .inr (5, [.ref pg, .int (nI n), .ref rd, .int rmy, .int rpt, .int sta, .int (nI N), .int pt, .int nw, .int ou, .int si, .int en, .int w0, .int w1, .int br, .int cr, .ref ro, .ref fa, .ref wo, .ref ah, .int pf, .int (nI (t + 1)), .ref he, .ref wy, .ref on_, .ref pa, .ref kr, .ref kn, .ref kh, .int kt, .int kc, .int sd, .ref sr, .ref sn, .long ha])), (he, .inl (cA, 16, .inl (upd (upd he_ (2 * t) x) (2 * t + 1) (if y = -1 then 7 else y))))] := hD
            refine lv_aload_n hx hb dX5_hear_89 rfl (lv_at hl 0 rfl) ?_
            refine va_get (D := D) (ci := 5) (v := .int (nI (t + 1))) (C := RX5) (T := TX5) (N := 35) hx hb hts hiX5 hown hK hP 0 rfl rfl 21 (by decide) (hts (.fieldLink RX5 118 "HeardSecondModel" "heardMany" "I") (by decide +kernel)) (fun _ h9 => h9) rfl dX5_hear_90 ?_
            -- path 5
            have hP : va_P D vwCl [(m0, .inr (5, [.ref pg, .int (nI n), .ref rd, .int rmy, .int rpt, .int sta, .int (nI N), .int pt, .int nw, .int ou, .int si, .int en, .int w0, .int w1, .int br, .int cr, .ref ro, .ref fa, .ref wo, .ref ah, .int pf, .int (nI (if mHeOk N t x y then t + 1 else t)), .ref he, .ref wy, .ref on_, .ref pa, .ref kr, .ref kn, .ref kh, .int kt, .int kc, .int sd, .ref sr, .ref sn, .long ha])), (he, .inl (cA, 16, .inl (upd (upd he_ (2 * t) x) (2 * t + 1) (if y = -1 then 7 else y))))] H := by have e_ : nI (t + 1) = nI (if mHeOk N t x y then t + 1 else t) := (by clear hret hl hS hD hP hK hA hN hts hx hb hr hml hown hlocks hiX5; first | (rw [show mHeOk N t x y = true from by simp_all [mHeOk]]; rfl) | (rw [show mHeOk N t x y = false from by simp_all [mHeOk]]; rfl) | (intro j_ hj_; rw [show mHeOk N t x y = true from by simp_all [mHeOk]]; rfl) | (intro j_ hj_; rw [show mHeOk N t x y = false from by simp_all [mHeOk]]; rfl)); rw [← e_]; exact hP
            have hD : va_D A [(m0, .inr (5, [.ref pg, .int (nI n), .ref rd, .int rmy, .int rpt, .int sta, .int (nI N), .int pt, .int nw, .int ou, .int si, .int en, .int w0, .int w1, .int br, .int cr, .ref ro, .ref fa, .ref wo, .ref ah, .int pf, .int (nI (if mHeOk N t x y then t + 1 else t)), .ref he, .ref wy, .ref on_, .ref pa, .ref kr, .ref kn, .ref kh, .int kt, .int kc, .int sd, .ref sr, .ref sn, .long ha])), (he, .inl (cA, 16, .inl (upd (upd he_ (2 * t) x) (2 * t + 1) (if y = -1 then 7 else y))))] := by have e_ : nI (t + 1) = nI (if mHeOk N t x y then t + 1 else t) := (by clear hret hl hS hD hP hK hA hN hts hx hb hr hml hown hlocks hiX5; first | (rw [show mHeOk N t x y = true from by simp_all [mHeOk]]; rfl) | (rw [show mHeOk N t x y = false from by simp_all [mHeOk]]; rfl) | (intro j_ hj_; rw [show mHeOk N t x y = true from by simp_all [mHeOk]]; rfl) | (intro j_ hj_; rw [show mHeOk N t x y = false from by simp_all [mHeOk]]; rfl)); rw [← e_]; exact hD
            have hP : va_P D vwCl [(m0, .inr (5, [.ref pg, .int (nI n), .ref rd, .int rmy, .int rpt, .int sta, .int (nI N), .int pt, .int nw, .int ou, .int si, .int en, .int w0, .int w1, .int br, .int cr, .ref ro, .ref fa, .ref wo, .ref ah, .int pf, .int (nI (if mHeOk N t x y then t + 1 else t)), .ref he, .ref wy, .ref on_, .ref pa, .ref kr, .ref kn, .ref kh, .int kt, .int kc, .int sd, .ref sr, .ref sn, .long ha])), (he, .inl (cA, 16, .inl (if mHeOk N t x y then upd (upd he_ (2 * t) x) (2 * t + 1) (if y = -1 then 7 else y) else he_)))] H := z_arrP hP 1 (g := (if mHeOk N t x y then upd (upd he_ (2 * t) x) (2 * t + 1) (if y = -1 then 7 else y) else he_)) rfl (by clear hret hl hS hD hP hK hA hN hts hx hb hr hml hown hlocks hiX5; first | (rw [show mHeOk N t x y = true from by simp_all [mHeOk]]; rfl) | (rw [show mHeOk N t x y = false from by simp_all [mHeOk]]; rfl) | (intro j_ hj_; rw [show mHeOk N t x y = true from by simp_all [mHeOk]]; rfl) | (intro j_ hj_; rw [show mHeOk N t x y = false from by simp_all [mHeOk]]; rfl)) rfl
            have hD : va_D A [(m0, .inr (5, [.ref pg, .int (nI n), .ref rd, .int rmy, .int rpt, .int sta, .int (nI N), .int pt, .int nw, .int ou, .int si, .int en, .int w0, .int w1, .int br, .int cr, .ref ro, .ref fa, .ref wo, .ref ah, .int pf, .int (nI (if mHeOk N t x y then t + 1 else t)), .ref he, .ref wy, .ref on_, .ref pa, .ref kr, .ref kn, .ref kh, .int kt, .int kc, .int sd, .ref sr, .ref sn, .long ha])), (he, .inl (cA, 16, .inl (if mHeOk N t x y then upd (upd he_ (2 * t) x) (2 * t + 1) (if y = -1 then 7 else y) else he_)))] := z_arrD hD 1 rfl rfl
            exact hret (nI (t + 1)) () _ _ _ _ dX5_hear_93 (rfl) (by clear hret hl hS hD hP hK hA hN hts hx hb hr hml hown hlocks hiX5; first | (simp_all [mHeOk, mHeNo]; done) | grind [mHeOk, mHeNo]) hP hD hS
        · skip
          have ht8 : ¬ t < 8 := by have := (nI_eq (a := t) (b := 8) (by omega) (by omega)).mp c37_12; omega
          refine lv_bipush (v := (-104)) hx hb dX5_hear_40 (by decide) ?_
          -- path 6
          have hP : va_P D vwCl [(m0, .inr (5, [.ref pg, .int (nI n), .ref rd, .int rmy, .int rpt, .int sta, .int (nI N), .int pt, .int nw, .int ou, .int si, .int en, .int w0, .int w1, .int br, .int cr, .ref ro, .ref fa, .ref wo, .ref ah, .int pf, .int (nI (if mHeOk N t x y then t + 1 else t)), .ref he, .ref wy, .ref on_, .ref pa, .ref kr, .ref kn, .ref kh, .int kt, .int kc, .int sd, .ref sr, .ref sn, .long ha])), (he, .inl (cA, 16, .inl he_))] H := by have e_ : nI t = nI (if mHeOk N t x y then t + 1 else t) := (by clear hret hl hS hD hP hK hA hN hts hx hb hr hml hown hlocks hiX5; first | (rw [show mHeOk N t x y = true from by simp_all [mHeOk]]; rfl) | (rw [show mHeOk N t x y = false from by simp_all [mHeOk]]; rfl) | (intro j_ hj_; rw [show mHeOk N t x y = true from by simp_all [mHeOk]]; rfl) | (intro j_ hj_; rw [show mHeOk N t x y = false from by simp_all [mHeOk]]; rfl)); rw [← e_]; exact hP
          have hD : va_D A [(m0, .inr (5, [.ref pg, .int (nI n), .ref rd, .int rmy, .int rpt, .int sta, .int (nI N), .int pt, .int nw, .int ou, .int si, .int en, .int w0, .int w1, .int br, .int cr, .ref ro, .ref fa, .ref wo, .ref ah, .int pf, .int (nI (if mHeOk N t x y then t + 1 else t)), .ref he, .ref wy, .ref on_, .ref pa, .ref kr, .ref kn, .ref kh, .int kt, .int kc, .int sd, .ref sr, .ref sn, .long ha])), (he, .inl (cA, 16, .inl he_))] := by have e_ : nI t = nI (if mHeOk N t x y then t + 1 else t) := (by clear hret hl hS hD hP hK hA hN hts hx hb hr hml hown hlocks hiX5; first | (rw [show mHeOk N t x y = true from by simp_all [mHeOk]]; rfl) | (rw [show mHeOk N t x y = false from by simp_all [mHeOk]]; rfl) | (intro j_ hj_; rw [show mHeOk N t x y = true from by simp_all [mHeOk]]; rfl) | (intro j_ hj_; rw [show mHeOk N t x y = false from by simp_all [mHeOk]]; rfl)); rw [← e_]; exact hD
          have hP : va_P D vwCl [(m0, .inr (5, [.ref pg, .int (nI n), .ref rd, .int rmy, .int rpt, .int sta, .int (nI N), .int pt, .int nw, .int ou, .int si, .int en, .int w0, .int w1, .int br, .int cr, .ref ro, .ref fa, .ref wo, .ref ah, .int pf, .int (nI (if mHeOk N t x y then t + 1 else t)), .ref he, .ref wy, .ref on_, .ref pa, .ref kr, .ref kn, .ref kh, .int kt, .int kc, .int sd, .ref sr, .ref sn, .long ha])), (he, .inl (cA, 16, .inl (if mHeOk N t x y then upd (upd he_ (2 * t) x) (2 * t + 1) (if y = -1 then 7 else y) else he_)))] H := z_arrP hP 1 (g := (if mHeOk N t x y then upd (upd he_ (2 * t) x) (2 * t + 1) (if y = -1 then 7 else y) else he_)) rfl (by clear hret hl hS hD hP hK hA hN hts hx hb hr hml hown hlocks hiX5; first | (rw [show mHeOk N t x y = true from by simp_all [mHeOk]]; rfl) | (rw [show mHeOk N t x y = false from by simp_all [mHeOk]]; rfl) | (intro j_ hj_; rw [show mHeOk N t x y = true from by simp_all [mHeOk]]; rfl) | (intro j_ hj_; rw [show mHeOk N t x y = false from by simp_all [mHeOk]]; rfl)) rfl
          have hD : va_D A [(m0, .inr (5, [.ref pg, .int (nI n), .ref rd, .int rmy, .int rpt, .int sta, .int (nI N), .int pt, .int nw, .int ou, .int si, .int en, .int w0, .int w1, .int br, .int cr, .ref ro, .ref fa, .ref wo, .ref ah, .int pf, .int (nI (if mHeOk N t x y then t + 1 else t)), .ref he, .ref wy, .ref on_, .ref pa, .ref kr, .ref kn, .ref kh, .int kt, .int kc, .int sd, .ref sr, .ref sn, .long ha])), (he, .inl (cA, 16, .inl (if mHeOk N t x y then upd (upd he_ (2 * t) x) (2 * t + 1) (if y = -1 then 7 else y) else he_)))] := z_arrD hD 1 rfl rfl
          exact hret ((-104)) () _ _ _ _ dX5_hear_42 (rfl) (by clear hret hl hS hD hP hK hA hN hts hx hb hr hml hown hlocks hiX5; first | (simp_all [mHeOk, mHeNo]; done) | grind [mHeOk, mHeNo]) hP hD hS
      · skip
        have c25_11 := bI_0.mp c25_11
        refine lv_bipush (v := (-101)) hx hb dX5_hear_28 (by decide) ?_
        -- path 7
        have hP : va_P D vwCl [(m0, .inr (5, [.ref pg, .int (nI n), .ref rd, .int rmy, .int rpt, .int sta, .int (nI N), .int pt, .int nw, .int ou, .int si, .int en, .int w0, .int w1, .int br, .int cr, .ref ro, .ref fa, .ref wo, .ref ah, .int pf, .int (nI (if mHeOk N t x y then t + 1 else t)), .ref he, .ref wy, .ref on_, .ref pa, .ref kr, .ref kn, .ref kh, .int kt, .int kc, .int sd, .ref sr, .ref sn, .long ha])), (he, .inl (cA, 16, .inl he_))] H := by have e_ : nI t = nI (if mHeOk N t x y then t + 1 else t) := (by clear hret hl hS hD hP hK hA hN hts hx hb hr hml hown hlocks hiX5; first | (rw [show mHeOk N t x y = true from by simp_all [mHeOk]]; rfl) | (rw [show mHeOk N t x y = false from by simp_all [mHeOk]]; rfl) | (intro j_ hj_; rw [show mHeOk N t x y = true from by simp_all [mHeOk]]; rfl) | (intro j_ hj_; rw [show mHeOk N t x y = false from by simp_all [mHeOk]]; rfl)); rw [← e_]; exact hP
        have hD : va_D A [(m0, .inr (5, [.ref pg, .int (nI n), .ref rd, .int rmy, .int rpt, .int sta, .int (nI N), .int pt, .int nw, .int ou, .int si, .int en, .int w0, .int w1, .int br, .int cr, .ref ro, .ref fa, .ref wo, .ref ah, .int pf, .int (nI (if mHeOk N t x y then t + 1 else t)), .ref he, .ref wy, .ref on_, .ref pa, .ref kr, .ref kn, .ref kh, .int kt, .int kc, .int sd, .ref sr, .ref sn, .long ha])), (he, .inl (cA, 16, .inl he_))] := by have e_ : nI t = nI (if mHeOk N t x y then t + 1 else t) := (by clear hret hl hS hD hP hK hA hN hts hx hb hr hml hown hlocks hiX5; first | (rw [show mHeOk N t x y = true from by simp_all [mHeOk]]; rfl) | (rw [show mHeOk N t x y = false from by simp_all [mHeOk]]; rfl) | (intro j_ hj_; rw [show mHeOk N t x y = true from by simp_all [mHeOk]]; rfl) | (intro j_ hj_; rw [show mHeOk N t x y = false from by simp_all [mHeOk]]; rfl)); rw [← e_]; exact hD
        have hP : va_P D vwCl [(m0, .inr (5, [.ref pg, .int (nI n), .ref rd, .int rmy, .int rpt, .int sta, .int (nI N), .int pt, .int nw, .int ou, .int si, .int en, .int w0, .int w1, .int br, .int cr, .ref ro, .ref fa, .ref wo, .ref ah, .int pf, .int (nI (if mHeOk N t x y then t + 1 else t)), .ref he, .ref wy, .ref on_, .ref pa, .ref kr, .ref kn, .ref kh, .int kt, .int kc, .int sd, .ref sr, .ref sn, .long ha])), (he, .inl (cA, 16, .inl (if mHeOk N t x y then upd (upd he_ (2 * t) x) (2 * t + 1) (if y = -1 then 7 else y) else he_)))] H := z_arrP hP 1 (g := (if mHeOk N t x y then upd (upd he_ (2 * t) x) (2 * t + 1) (if y = -1 then 7 else y) else he_)) rfl (by clear hret hl hS hD hP hK hA hN hts hx hb hr hml hown hlocks hiX5; first | (rw [show mHeOk N t x y = true from by simp_all [mHeOk]]; rfl) | (rw [show mHeOk N t x y = false from by simp_all [mHeOk]]; rfl) | (intro j_ hj_; rw [show mHeOk N t x y = true from by simp_all [mHeOk]]; rfl) | (intro j_ hj_; rw [show mHeOk N t x y = false from by simp_all [mHeOk]]; rfl)) rfl
        have hD : va_D A [(m0, .inr (5, [.ref pg, .int (nI n), .ref rd, .int rmy, .int rpt, .int sta, .int (nI N), .int pt, .int nw, .int ou, .int si, .int en, .int w0, .int w1, .int br, .int cr, .ref ro, .ref fa, .ref wo, .ref ah, .int pf, .int (nI (if mHeOk N t x y then t + 1 else t)), .ref he, .ref wy, .ref on_, .ref pa, .ref kr, .ref kn, .ref kh, .int kt, .int kc, .int sd, .ref sr, .ref sn, .long ha])), (he, .inl (cA, 16, .inl (if mHeOk N t x y then upd (upd he_ (2 * t) x) (2 * t + 1) (if y = -1 then 7 else y) else he_)))] := z_arrD hD 1 rfl rfl
        exact hret ((-101)) () _ _ _ _ dX5_hear_30 (rfl) (by clear hret hl hS hD hP hK hA hN hts hx hb hr hml hown hlocks hiX5; first | (simp_all [mHeOk, mHeNo]; done) | grind [mHeOk, mHeNo]) hP hD hS
  · skip
    have c9_4 := bI_0.mp c9_4
    refine lv_bipush (v := (-102)) hx hb dX5_hear_12 (by decide) ?_
    -- path 8
    have hP : va_P D vwCl [(m0, .inr (5, [.ref pg, .int (nI n), .ref rd, .int rmy, .int rpt, .int sta, .int (nI N), .int pt, .int nw, .int ou, .int si, .int en, .int w0, .int w1, .int br, .int cr, .ref ro, .ref fa, .ref wo, .ref ah, .int pf, .int (nI (if mHeOk N t x y then t + 1 else t)), .ref he, .ref wy, .ref on_, .ref pa, .ref kr, .ref kn, .ref kh, .int kt, .int kc, .int sd, .ref sr, .ref sn, .long ha])), (he, .inl (cA, 16, .inl he_))] H := by have e_ : nI t = nI (if mHeOk N t x y then t + 1 else t) := (by clear hret hl hS hD hP hK hA hN hts hx hb hr hml hown hlocks hiX5; first | (rw [show mHeOk N t x y = true from by simp_all [mHeOk]]; rfl) | (rw [show mHeOk N t x y = false from by simp_all [mHeOk]]; rfl) | (intro j_ hj_; rw [show mHeOk N t x y = true from by simp_all [mHeOk]]; rfl) | (intro j_ hj_; rw [show mHeOk N t x y = false from by simp_all [mHeOk]]; rfl)); rw [← e_]; exact hP
    have hD : va_D A [(m0, .inr (5, [.ref pg, .int (nI n), .ref rd, .int rmy, .int rpt, .int sta, .int (nI N), .int pt, .int nw, .int ou, .int si, .int en, .int w0, .int w1, .int br, .int cr, .ref ro, .ref fa, .ref wo, .ref ah, .int pf, .int (nI (if mHeOk N t x y then t + 1 else t)), .ref he, .ref wy, .ref on_, .ref pa, .ref kr, .ref kn, .ref kh, .int kt, .int kc, .int sd, .ref sr, .ref sn, .long ha])), (he, .inl (cA, 16, .inl he_))] := by have e_ : nI t = nI (if mHeOk N t x y then t + 1 else t) := (by clear hret hl hS hD hP hK hA hN hts hx hb hr hml hown hlocks hiX5; first | (rw [show mHeOk N t x y = true from by simp_all [mHeOk]]; rfl) | (rw [show mHeOk N t x y = false from by simp_all [mHeOk]]; rfl) | (intro j_ hj_; rw [show mHeOk N t x y = true from by simp_all [mHeOk]]; rfl) | (intro j_ hj_; rw [show mHeOk N t x y = false from by simp_all [mHeOk]]; rfl)); rw [← e_]; exact hD
    have hP : va_P D vwCl [(m0, .inr (5, [.ref pg, .int (nI n), .ref rd, .int rmy, .int rpt, .int sta, .int (nI N), .int pt, .int nw, .int ou, .int si, .int en, .int w0, .int w1, .int br, .int cr, .ref ro, .ref fa, .ref wo, .ref ah, .int pf, .int (nI (if mHeOk N t x y then t + 1 else t)), .ref he, .ref wy, .ref on_, .ref pa, .ref kr, .ref kn, .ref kh, .int kt, .int kc, .int sd, .ref sr, .ref sn, .long ha])), (he, .inl (cA, 16, .inl (if mHeOk N t x y then upd (upd he_ (2 * t) x) (2 * t + 1) (if y = -1 then 7 else y) else he_)))] H := z_arrP hP 1 (g := (if mHeOk N t x y then upd (upd he_ (2 * t) x) (2 * t + 1) (if y = -1 then 7 else y) else he_)) rfl (by clear hret hl hS hD hP hK hA hN hts hx hb hr hml hown hlocks hiX5; first | (rw [show mHeOk N t x y = true from by simp_all [mHeOk]]; rfl) | (rw [show mHeOk N t x y = false from by simp_all [mHeOk]]; rfl) | (intro j_ hj_; rw [show mHeOk N t x y = true from by simp_all [mHeOk]]; rfl) | (intro j_ hj_; rw [show mHeOk N t x y = false from by simp_all [mHeOk]]; rfl)) rfl
    have hD : va_D A [(m0, .inr (5, [.ref pg, .int (nI n), .ref rd, .int rmy, .int rpt, .int sta, .int (nI N), .int pt, .int nw, .int ou, .int si, .int en, .int w0, .int w1, .int br, .int cr, .ref ro, .ref fa, .ref wo, .ref ah, .int pf, .int (nI (if mHeOk N t x y then t + 1 else t)), .ref he, .ref wy, .ref on_, .ref pa, .ref kr, .ref kn, .ref kh, .int kt, .int kc, .int sd, .ref sr, .ref sn, .long ha])), (he, .inl (cA, 16, .inl (if mHeOk N t x y then upd (upd he_ (2 * t) x) (2 * t + 1) (if y = -1 then 7 else y) else he_)))] := z_arrD hD 1 rfl rfl
    exact hret ((-102)) () _ _ _ _ dX5_hear_14 (rfl) (by clear hret hl hS hD hP hK hA hN hts hx hb hr hml hown hlocks hiX5; first | (simp_all [mHeOk, mHeNo]; done) | grind [mHeOk, mHeNo]) hP hD hS
abbrev rm_c_X5_forget : Room := { frames := 0, cells := 0, slots := 0, locals := 0 }
set_option maxHeartbeats 400000 in
set_option maxRecDepth 20000 in
theorem c_X5_forget {l : Launch} {D : va_G} {cA : ClassId} {m0 : Nat} {pg : Nat} {rd : Nat} {ro : Nat} {fa : Nat} {wo : Nat} {ah : Nat} {he : Nat} {wy : Nat} {on_ : Nat} {pa : Nat} {kr : Nat} {kn : Nat} {kh : Nat} {sr : Nat} {sn : Nat} {n : Nat} {N : Nat} {t : Nat} {rmy : Int32} {rpt : Int32} {sta : Int32} {pt : Int32} {nw : Int32} {ou : Int32} {si : Int32} {en : Int32} {w0 : Int32} {w1 : Int32} {br : Int32} {cr : Int32} {pf : Int32} {kt : Int32} {kc : Int32} {sd : Int32} {ha : Int64} : zMi l yX5_forget wsX5_forget rm_c_X5_forget D cA [(m0, .inr (5, [.ref pg, .int (nI n), .ref rd, .int rmy, .int rpt, .int sta, .int (nI N), .int pt, .int nw, .int ou, .int si, .int en, .int w0, .int w1, .int br, .int cr, .ref ro, .ref fa, .ref wo, .ref ah, .int pf, .int (nI t), .ref he, .ref wy, .ref on_, .ref pa, .ref kr, .ref kn, .ref kh, .int kt, .int kc, .int sd, .ref sr, .ref sn, .long ha]))] [.ref m0] (fun (ret_ : Int32) (_ : Unit) => ret_ = nI t) (fun (_ : Unit) => [(m0, .inr (5, [.ref pg, .int (nI n), .ref rd, .int rmy, .int rpt, .int sta, .int (nI N), .int pt, .int nw, .int ou, .int si, .int en, .int w0, .int w1, .int br, .int cr, .ref ro, .ref fa, .ref wo, .ref ah, .int pf, .int (nI 0), .ref he, .ref wy, .ref on_, .ref pa, .ref kr, .ref kn, .ref kh, .int kt, .int kc, .int sd, .ref sr, .ref sn, .long ha]))]) := by
  refine z_enteri (cc := cX5_forget) (maxL := 2) (ty := .int) (by decide) rfl (Nat.le_of_ble_eq_true rfl) (fun p e s m args below meth c ls A H0 H locs Q hi_ hA hK hP hD hS hl hret => ?_)
  obtain ⟨hx, hb, hr, hml, hown, hts, hlocks, hN⟩ := hi_
  have hl : lv_has ls 2 [(0, .ref m0)] := hl
  have hiX5 : ∀ w ∈ wsX50, w ∈ wsX5_forget := by decide +kernel
  refine lv_aload_n hx hb dX5_forget_0 rfl (lv_at hl 0 rfl) ?_
  refine va_get (D := D) (ci := 5) (v := .int (nI t)) (C := RX5) (T := TX5) (N := 35) hx hb hts hiX5 hown hK hP 0 rfl rfl 21 (by decide) (hts (.fieldLink RX5 118 "HeardSecondModel" "heardMany" "I") (by decide +kernel)) (fun _ h9 => h9) rfl dX5_forget_1 ?_
  refine lv_istore_n (lv' := [(1, .int (nI t)), (0, .ref m0)]) hx hb dX5_forget_4 rfl hl (by decide) rfl (fun ls hl => ?_)
  refine lv_aload_n hx hb dX5_forget_5 rfl (lv_at hl 1 rfl) ?_
  refine lv_iconst (v := nI 0) hx hb dX5_forget_6 (by decide) ?_
  refine va_put (D := D) (ci := 5) (v := .int (nI 0)) (ty := .int) (C := RX5) (T := TX5) (N := 35) hx hb hts hiX5 tyX5 tyX5_ok nmX5 hown hK hP hD hS 0 rfl rfl 21 (by decide) (hts (.fieldLink RX5 118 "HeardSecondModel" "heardMany" "I") (by decide +kernel)) (fun _ h9 => h9) rfl (by decide +kernel) (rfl) rfl (Nat.le_of_ble_eq_true rfl) dX5_forget_7 (fun H locs hP hD hS => ?_)
  have hP : va_P D vwCl [(m0, .inr (5, [.ref pg, .int (nI n), .ref rd, .int rmy, .int rpt, .int sta, .int (nI N), .int pt, .int nw, .int ou, .int si, .int en, .int w0, .int w1, .int br, .int cr, .ref ro, .ref fa, .ref wo, .ref ah, .int pf, .int (nI 0), .ref he, .ref wy, .ref on_, .ref pa, .ref kr, .ref kn, .ref kh, .int kt, .int kc, .int sd, .ref sr, .ref sn, .long ha]))] H := hP
  have hD : va_D A [(m0, .inr (5, [.ref pg, .int (nI n), .ref rd, .int rmy, .int rpt, .int sta, .int (nI N), .int pt, .int nw, .int ou, .int si, .int en, .int w0, .int w1, .int br, .int cr, .ref ro, .ref fa, .ref wo, .ref ah, .int pf, .int (nI 0), .ref he, .ref wy, .ref on_, .ref pa, .ref kr, .ref kn, .ref kh, .int kt, .int kc, .int sd, .ref sr, .ref sn, .long ha]))] := hD
  refine lv_iload_n hx hb dX5_forget_10 rfl (lv_at hl 0 rfl) ?_
  -- path 1
  exact hret (nI t) () _ _ _ _ dX5_forget_11 (rfl) (by rfl) hP hD hS
abbrev rm_c_X5_isHeard : Room := { frames := 0, cells := 0, slots := 0, locals := 0 }
set_option maxHeartbeats 400000 in
set_option maxRecDepth 20000 in
theorem c_X5_isHeard {l : Launch} {D : va_G} {cA : ClassId} {m0 : Nat} {pg : Nat} {rd : Nat} {ro : Nat} {fa : Nat} {wo : Nat} {ah : Nat} {he : Nat} {wy : Nat} {on_ : Nat} {pa : Nat} {kr : Nat} {kn : Nat} {kh : Nat} {sr : Nat} {sn : Nat} {n : Nat} {N : Nat} {t : Nat} {rmy : Int32} {rpt : Int32} {sta : Int32} {pt : Int32} {nw : Int32} {ou : Int32} {si : Int32} {en : Int32} {w0 : Int32} {w1 : Int32} {br : Int32} {cr : Int32} {pf : Int32} {kt : Int32} {kc : Int32} {sd : Int32} {ha : Int64} {he_ : Nat → Int32} {x : Int32} {k : Nat} (ht : t ≤ 8) (hk : k < 64) : zMi l yX5_isHeard wsX5_isHeard rm_c_X5_isHeard D cA [(m0, .inr (5, [.ref pg, .int (nI n), .ref rd, .int rmy, .int rpt, .int sta, .int (nI N), .int pt, .int nw, .int ou, .int si, .int en, .int w0, .int w1, .int br, .int cr, .ref ro, .ref fa, .ref wo, .ref ah, .int pf, .int (nI t), .ref he, .ref wy, .ref on_, .ref pa, .ref kr, .ref kn, .ref kh, .int kt, .int kc, .int sd, .ref sr, .ref sn, .long ha])), (he, .inl (cA, 16, .inl he_))] [.ref m0, .int x, .int (nI k)] (fun (ret_ : Int32) (_ : Unit) => ret_ = bI (mHeard he_ x k t)) (fun (_ : Unit) => [(m0, .inr (5, [.ref pg, .int (nI n), .ref rd, .int rmy, .int rpt, .int sta, .int (nI N), .int pt, .int nw, .int ou, .int si, .int en, .int w0, .int w1, .int br, .int cr, .ref ro, .ref fa, .ref wo, .ref ah, .int pf, .int (nI t), .ref he, .ref wy, .ref on_, .ref pa, .ref kr, .ref kn, .ref kh, .int kt, .int kc, .int sd, .ref sr, .ref sn, .long ha])), (he, .inl (cA, 16, .inl he_))]) := by
  refine z_enteri (cc := cX5_isHeard) (maxL := 5) (ty := .boolean) (by decide) rfl (Nat.le_of_ble_eq_true rfl) (fun p e s m args below meth c ls A H0 H locs Q hi_ hA hK hP hD hS hl hret => ?_)
  obtain ⟨hx, hb, hr, hml, hown, hts, hlocks, hN⟩ := hi_
  have hl : lv_has ls 5 [(0, .ref m0), (1, .int x), (2, .int (nI k))] := hl
  have hiX5 : ∀ w ∈ wsX50, w ∈ wsX5_isHeard := by decide +kernel
  refine lv_iconst (v := 1) hx hb dX5_isHeard_0 (by decide) ?_
  refine lv_istore_n (lv' := [(3, .int 1), (0, .ref m0), (1, .int x), (2, .int (nI k))]) hx hb dX5_isHeard_1 rfl hl (by decide) rfl (fun ls hl => ?_)
  refine lv_iconst (v := nI 0) hx hb dX5_isHeard_2 (by decide) ?_
  refine lv_istore (lv' := [(4, .int (nI 0)), (3, .int 1), (0, .ref m0), (1, .int x), (2, .int (nI k))]) hx hb dX5_isHeard_3 hl (by decide) rfl (fun ls hl => ?_)
  have L5 : ∀ (n_ : Nat) (i : Nat) (v : Bool) (hm_ : t + 1 ≤ i + n_) (hi : i ≤ t) (hv : v = mHeard he_ x k i) (H : Heap) (locs : List Loc) (ls : Array Slot), va_P D vwCl [(m0, .inr (5, [.ref pg, .int (nI n), .ref rd, .int rmy, .int rpt, .int sta, .int (nI N), .int pt, .int nw, .int ou, .int si, .int en, .int w0, .int w1, .int br, .int cr, .ref ro, .ref fa, .ref wo, .ref ah, .int pf, .int (nI t), .ref he, .ref wy, .ref on_, .ref pa, .ref kr, .ref kn, .ref kh, .int kt, .int kc, .int sd, .ref sr, .ref sn, .long ha])), (he, .inl (cA, 16, .inl he_))] H → va_D A [(m0, .inr (5, [.ref pg, .int (nI n), .ref rd, .int rmy, .int rpt, .int sta, .int (nI N), .int pt, .int nw, .int ou, .int si, .int en, .int w0, .int w1, .int br, .int cr, .ref ro, .ref fa, .ref wo, .ref ah, .int pf, .int (nI t), .ref he, .ref wy, .ref on_, .ref pa, .ref kr, .ref kn, .ref kh, .int kt, .int kc, .int sd, .ref sr, .ref sn, .long ha])), (he, .inl (cA, 16, .inl he_))] → va_S A H0 H locs → lv_has ls 5 [(0, .ref m0), (1, .int x), (2, .int (nI k)), (3, .int (bI v)), (4, .int (nI i))] → W p l e rm_c_X5_isHeard s m args below meth c H locs 0 0 Q (F0 m 5 ls []) := by
    intro n_
    induction n_ with
    | zero =>
      intro i v hm_ hi hv
      exact absurd hm_ (by omega)
    | succ n_ ih_ =>
      intro i v hm_ hi hv H locs ls hP hD hS hl
      have ih1 := ih_
      clear ih_
      refine lv_iload hx hb dX5_isHeard_5 (lv_at hl 4 rfl) ?_
      refine lv_aload_n hx hb dX5_isHeard_7 rfl (lv_at hl 0 rfl) ?_
      refine va_get (D := D) (ci := 5) (v := .int (nI t)) (C := RX5) (T := TX5) (N := 35) hx hb hts hiX5 hown hK hP 0 rfl rfl 21 (by decide) (hts (.fieldLink RX5 118 "HeardSecondModel" "heardMany" "I") (by decide +kernel)) (fun _ h9 => h9) rfl dX5_isHeard_8 ?_
      refine lv_icmp_ge (tgt := 61) hx hb dX5_isHeard_11 (by decide) (fun c11_2 => ?_) (fun c11_2 => ?_)
      · skip
        have ht_ : i = t := by have := (nI_leI (a := t) (b := i) (by omega) (by omega)).mp c11_2; omega
        refine lv_iload_n hx hb dX5_isHeard_61 rfl (lv_at hl 3 rfl) ?_
        -- path 1
        exact hret (bI v) () _ _ _ _ dX5_isHeard_62 (bI_nar _) (by clear hret hl hS hD hP hK hA hN hts hx hb hr hml hown hlocks hiX5 ih1; rw [hv, ht_]) hP hD hS
      · skip
        have hlti : i < t := Nat.lt_of_not_le (fun q_ => c11_2 ((nI_leI (a := t) (b := i) (by omega) (by omega)).mpr q_))
        refine lv_iload_n hx hb dX5_isHeard_14 rfl (lv_at hl 3 rfl) ?_
        refine lv_if_eq (tgt := 53) hx hb dX5_isHeard_15 (by decide) (fun c15_3 => ?_) (fun c15_3 => ?_)
        · skip
          have c15_3 := bI_0.mp c15_3
          refine lv_iconst (v := 0) hx hb dX5_isHeard_53 (by decide) ?_
          refine lv_istore_n (lv' := [(3, .int 0), (0, .ref m0), (1, .int x), (2, .int (nI k)), (4, .int (nI i))]) hx hb dX5_isHeard_54 rfl hl (by decide) rfl (fun ls hl => ?_)
          refine lv_iinc (v := nI (i + 1)) (lv' := [(4, .int (nI (i + 1))), (3, .int 0), (0, .ref m0), (1, .int x), (2, .int (nI k))]) hx hb dX5_isHeard_55 hl (k := 4) rfl (nI_1 i) (by decide) rfl (fun ls hl => ?_)
          refine lv_goto (tgt := 5) hx hb dX5_isHeard_58 (by decide) ?_
          exact ih1 (i + 1) false (by omega) (by first | assumption | omega) (by clear hret hl hS hD hP hK hA hN hts hx hb hr hml hown hlocks hiX5 ih1; rw [mHeard, ← hv]; simp_all) _ _ _ hP hD hS (lv_sub hl [2, 3, 4, 1, 0] rfl)
        · skip
          have c15_3 := bI_n0.mp c15_3
          refine lv_aload_n hx hb dX5_isHeard_18 rfl (lv_at hl 0 rfl) ?_
          refine va_get (D := D) (ci := 5) (v := .ref he) (C := RX5) (T := TX5) (N := 35) hx hb hts hiX5 hown hK hP 0 rfl rfl 22 (by decide) (hts (.fieldLink RX5 28 "HeardSecondModel" "heards" "[I") (by decide +kernel)) (fun _ h9 => h9) rfl dX5_isHeard_19 ?_
          refine lv_iconst (v := 2) hx hb dX5_isHeard_22 (by decide) ?_
          refine lv_iload hx hb dX5_isHeard_23 (lv_at hl 4 rfl) ?_
          refine lv_imul hx hb dX5_isHeard_25 ?_
          refine z_top (y := nI (2 * i)) (nI_2 i) ?_
          refine va_iald hx hb hK hP 1 0 rfl rfl (z_inN (by omega) (by decide)) dX5_isHeard_26 ?_
          refine z_top (y := he_ (2 * i)) (by rw [z_nat (by omega)]) ?_
          refine lv_iload_n hx hb dX5_isHeard_27 rfl (lv_at hl 1 rfl) ?_
          refine lv_icmp_ne (tgt := 49) hx hb dX5_isHeard_28 (by decide) (fun c28_4 => ?_) (fun c28_4 => ?_)
          · skip
            refine lv_iconst (v := 1) hx hb dX5_isHeard_49 (by decide) ?_
            refine lv_goto (tgt := 54) hx hb dX5_isHeard_50 (by decide) ?_
            refine lv_istore_n (lv' := [(3, .int 1), (0, .ref m0), (1, .int x), (2, .int (nI k)), (4, .int (nI i))]) hx hb dX5_isHeard_54 rfl hl (by decide) rfl (fun ls hl => ?_)
            refine lv_iinc (v := nI (i + 1)) (lv' := [(4, .int (nI (i + 1))), (3, .int 1), (0, .ref m0), (1, .int x), (2, .int (nI k))]) hx hb dX5_isHeard_55 hl (k := 4) rfl (nI_1 i) (by decide) rfl (fun ls hl => ?_)
            refine lv_goto (tgt := 5) hx hb dX5_isHeard_58 (by decide) ?_
            exact ih1 (i + 1) true (by omega) (by first | assumption | omega) (by clear hret hl hS hD hP hK hA hN hts hx hb hr hml hown hlocks hiX5 ih1; rw [mHeard, ← hv]; simp_all) _ _ _ hP hD hS (lv_sub hl [2, 3, 4, 1, 0] rfl)
          · skip
            refine lv_aload_n hx hb dX5_isHeard_31 rfl (lv_at hl 0 rfl) ?_
            refine va_get (D := D) (ci := 5) (v := .ref he) (C := RX5) (T := TX5) (N := 35) hx hb hts hiX5 hown hK hP 0 rfl rfl 22 (by decide) (hts (.fieldLink RX5 28 "HeardSecondModel" "heards" "[I") (by decide +kernel)) (fun _ h9 => h9) rfl dX5_isHeard_32 ?_
            refine lv_iconst (v := 2) hx hb dX5_isHeard_35 (by decide) ?_
            refine lv_iload hx hb dX5_isHeard_36 (lv_at hl 4 rfl) ?_
            refine lv_imul hx hb dX5_isHeard_38 ?_
            refine lv_iconst (v := 1) hx hb dX5_isHeard_39 (by decide) ?_
            refine lv_iadd hx hb dX5_isHeard_40 ?_
            refine z_top (y := nI (2 * i + 1)) (nI_21 i) ?_
            refine va_iald hx hb hK hP 1 0 rfl rfl (z_inN (by omega) (by decide)) dX5_isHeard_41 ?_
            refine z_top (y := he_ (2 * i + 1)) (by rw [z_nat (by omega)]) ?_
            refine lv_iload_n hx hb dX5_isHeard_42 rfl (lv_at hl 2 rfl) ?_
            refine lv_bipush (v := 8) hx hb dX5_isHeard_43 (by decide) ?_
            refine lv_irem hx hb dX5_isHeard_45 (by decide) ?_
            refine z_top (y := nI (k % 8)) (z_m8 k hk) ?_
            refine lv_icmp_ne (tgt := 53) hx hb dX5_isHeard_46 (by decide) (fun c46_5 => ?_) (fun c46_5 => ?_)
            · skip
              refine lv_iconst (v := 0) hx hb dX5_isHeard_53 (by decide) ?_
              refine lv_istore_n (lv' := [(3, .int 0), (0, .ref m0), (1, .int x), (2, .int (nI k)), (4, .int (nI i))]) hx hb dX5_isHeard_54 rfl hl (by decide) rfl (fun ls hl => ?_)
              refine lv_iinc (v := nI (i + 1)) (lv' := [(4, .int (nI (i + 1))), (3, .int 0), (0, .ref m0), (1, .int x), (2, .int (nI k))]) hx hb dX5_isHeard_55 hl (k := 4) rfl (nI_1 i) (by decide) rfl (fun ls hl => ?_)
              refine lv_goto (tgt := 5) hx hb dX5_isHeard_58 (by decide) ?_
              exact ih1 (i + 1) false (by omega) (by first | assumption | omega) (by clear hret hl hS hD hP hK hA hN hts hx hb hr hml hown hlocks hiX5 ih1; rw [mHeard, ← hv]; simp_all) _ _ _ hP hD hS (lv_sub hl [2, 3, 4, 1, 0] rfl)
            · skip
              refine lv_iconst (v := 1) hx hb dX5_isHeard_49 (by decide) ?_
              refine lv_goto (tgt := 54) hx hb dX5_isHeard_50 (by decide) ?_
              refine lv_istore_n (lv' := [(3, .int 1), (0, .ref m0), (1, .int x), (2, .int (nI k)), (4, .int (nI i))]) hx hb dX5_isHeard_54 rfl hl (by decide) rfl (fun ls hl => ?_)
              refine lv_iinc (v := nI (i + 1)) (lv' := [(4, .int (nI (i + 1))), (3, .int 1), (0, .ref m0), (1, .int x), (2, .int (nI k))]) hx hb dX5_isHeard_55 hl (k := 4) rfl (nI_1 i) (by decide) rfl (fun ls hl => ?_)
              refine lv_goto (tgt := 5) hx hb dX5_isHeard_58 (by decide) ?_
              exact ih1 (i + 1) true (by omega) (by first | assumption | omega) (by clear hret hl hS hD hP hK hA hN hts hx hb hr hml hown hlocks hiX5 ih1; rw [mHeard, ← hv]; simp_all) _ _ _ hP hD hS (lv_sub hl [2, 3, 4, 1, 0] rfl)
  exact L5 (t + 1) 0 true (by omega) (by first | assumption | omega) (by rfl) _ _ _ hP hD hS (lv_sub hl [2, 3, 4, 1, 0] rfl)
