abbrev rm_c_X3_beginCase : Room := { frames := 0, cells := 0, slots := 0, locals := 0 }
set_option maxHeartbeats 400000 in
set_option maxRecDepth 20000 in
theorem c_X3_beginCase {l : Launch} {D : va_G} {cA : ClassId} {t0 : Nat} {wd : Nat} {tw : Nat} {ts : Nat} {la : Int32} {be : Int32} {ou : Int32} {si : Int32} {en : Int32} {w0 : Int32} {w1 : Int32} {br : Int32} {td : Int32} : zMv l yX3_beginCase wsX3_beginCase rm_c_X3_beginCase D cA [(t0, .inr (3, [.int la, .int be, .int ou, .int si, .int en, .int w0, .int w1, .int br, .ref wd, .int td, .ref tw, .ref ts]))] [.ref t0] (fun (_ : Unit) => True) (fun (_ : Unit) => [(t0, .inr (3, [.int (-1), .int (-1), .int 0, .int 0, .int en, .int w0, .int w1, .int br, .ref wd, .int td, .ref tw, .ref ts]))]) := by
  refine z_enterv (cc := cX3_beginCase) (maxL := 1) (by decide) rfl (Nat.le_of_ble_eq_true rfl) (fun p e s m args below meth c ls A H0 H locs Q hi_ hA hK hP hD hS hl hret => ?_)
  obtain ⟨hx, hb, hr, hml, hown, hts, hlocks, hN⟩ := hi_
  have hl : lv_has ls 1 [(0, .ref t0)] := hl
  have hiX3 : ∀ w ∈ wsX30, w ∈ wsX3_beginCase := by decide +kernel
  refine lv_aload_n hx hb dX3_beginCase_0 rfl (lv_at hl 0 rfl) ?_
  refine lv_iconst (v := (-1)) hx hb dX3_beginCase_1 (by decide) ?_
  refine va_put (D := D) (ci := 3) (v := .int (-1)) (ty := .int) (C := RX3) (T := TX3) (N := 12) hx hb hts hiX3 tyX3 tyX3_ok nmX3 hown hK hP hD hS 0 rfl rfl 0 (by decide) (hts (.fieldLink RX3 9 "HeardSecond$Trial" "last" "I") (by decide +kernel)) (fun _ h9 => h9) rfl (by decide +kernel) (rfl) rfl (Nat.le_of_ble_eq_true rfl) dX3_beginCase_2 (fun H locs hP hD hS => ?_)
  have hP : va_P D vwCl [(t0, .inr (3, [.int (-1), .int be, .int ou, .int si, .int en, .int w0, .int w1, .int br, .ref wd, .int td, .ref tw, .ref ts]))] H := hP
  have hD : va_D A [(t0, .inr (3, [.int (-1), .int be, .int ou, .int si, .int en, .int w0, .int w1, .int br, .ref wd, .int td, .ref tw, .ref ts]))] := hD
  refine lv_aload_n hx hb dX3_beginCase_5 rfl (lv_at hl 0 rfl) ?_
  refine lv_iconst (v := (-1)) hx hb dX3_beginCase_6 (by decide) ?_
  refine va_put (D := D) (ci := 3) (v := .int (-1)) (ty := .int) (C := RX3) (T := TX3) (N := 12) hx hb hts hiX3 tyX3 tyX3_ok nmX3 hown hK hP hD hS 0 rfl rfl 1 (by decide) (hts (.fieldLink RX3 15 "HeardSecond$Trial" "believed" "I") (by decide +kernel)) (fun _ h9 => h9) rfl (by decide +kernel) (rfl) rfl (Nat.le_of_ble_eq_true rfl) dX3_beginCase_7 (fun H locs hP hD hS => ?_)
  have hP : va_P D vwCl [(t0, .inr (3, [.int (-1), .int (-1), .int ou, .int si, .int en, .int w0, .int w1, .int br, .ref wd, .int td, .ref tw, .ref ts]))] H := hP
  have hD : va_D A [(t0, .inr (3, [.int (-1), .int (-1), .int ou, .int si, .int en, .int w0, .int w1, .int br, .ref wd, .int td, .ref tw, .ref ts]))] := hD
  refine lv_aload_n hx hb dX3_beginCase_10 rfl (lv_at hl 0 rfl) ?_
  refine lv_iconst (v := 0) hx hb dX3_beginCase_11 (by decide) ?_
  refine va_put (D := D) (ci := 3) (v := .int 0) (ty := .int) (C := RX3) (T := TX3) (N := 12) hx hb hts hiX3 tyX3 tyX3_ok nmX3 hown hK hP hD hS 0 rfl rfl 2 (by decide) (hts (.fieldLink RX3 50 "HeardSecond$Trial" "out" "I") (by decide +kernel)) (fun _ h9 => h9) rfl (by decide +kernel) (rfl) rfl (Nat.le_of_ble_eq_true rfl) dX3_beginCase_12 (fun H locs hP hD hS => ?_)
  have hP : va_P D vwCl [(t0, .inr (3, [.int (-1), .int (-1), .int 0, .int si, .int en, .int w0, .int w1, .int br, .ref wd, .int td, .ref tw, .ref ts]))] H := hP
  have hD : va_D A [(t0, .inr (3, [.int (-1), .int (-1), .int 0, .int si, .int en, .int w0, .int w1, .int br, .ref wd, .int td, .ref tw, .ref ts]))] := hD
  refine lv_aload_n hx hb dX3_beginCase_15 rfl (lv_at hl 0 rfl) ?_
  refine lv_iconst (v := 0) hx hb dX3_beginCase_16 (by decide) ?_
  refine va_put (D := D) (ci := 3) (v := .int 0) (ty := .int) (C := RX3) (T := TX3) (N := 12) hx hb hts hiX3 tyX3 tyX3_ok nmX3 hown hK hP hD hS 0 rfl rfl 3 (by decide) (hts (.fieldLink RX3 53 "HeardSecond$Trial" "silence" "I") (by decide +kernel)) (fun _ h9 => h9) rfl (by decide +kernel) (rfl) rfl (Nat.le_of_ble_eq_true rfl) dX3_beginCase_17 (fun H locs hP hD hS => ?_)
  have hP : va_P D vwCl [(t0, .inr (3, [.int (-1), .int (-1), .int 0, .int 0, .int en, .int w0, .int w1, .int br, .ref wd, .int td, .ref tw, .ref ts]))] H := hP
  have hD : va_D A [(t0, .inr (3, [.int (-1), .int (-1), .int 0, .int 0, .int en, .int w0, .int w1, .int br, .ref wd, .int td, .ref tw, .ref ts]))] := hD
  -- path 1
  exact hret () _ _ _ _ dX3_beginCase_20 (by trivial) hP hD hS
abbrev rm_c_X3_beginAll : Room := { frames := 1, cells := 0, slots := 0, locals := 22 }
set_option maxHeartbeats 400000 in
set_option maxRecDepth 20000 in
theorem c_X3_beginAll {l : Launch} {D : va_G} {cA : ClassId} {t0 : Nat} {wd : Nat} {tw : Nat} {ts : Nat} {la : Int32} {be : Int32} {ou : Int32} {si : Int32} {en : Int32} {w0 : Int32} {w1 : Int32} {br : Int32} {td : Int32} {fw : Nat → Int32} : zMv l yX3_beginAll wsX3_beginAll rm_c_X3_beginAll D cA [(t0, .inr (3, [.int la, .int be, .int ou, .int si, .int en, .int w0, .int w1, .int br, .ref wd, .int td, .ref tw, .ref ts])), (wd, .inl (cA, 5, .inl fw))] [.ref t0] (fun (_ : Unit) => True) (fun (_ : Unit) => [(t0, .inr (3, [.int (-1), .int (-1), .int 0, .int 0, .int 0, .int 0, .int 0, .int 0, .ref wd, .int 0, .ref tw, .ref ts])), (wd, .inl (cA, 5, .inl (fun _ => 0)))]) := by
  refine z_enterv (cc := cX3_beginAll) (maxL := 1) (by decide) rfl (Nat.le_of_ble_eq_true rfl) (fun p e s m args below meth c ls A H0 H locs Q hi_ hA hK hP hD hS hl hret => ?_)
  obtain ⟨hx, hb, hr, hml, hown, hts, hlocks, hN⟩ := hi_
  have hl : lv_has ls 1 [(0, .ref t0)] := hl
  have hiX3 : ∀ w ∈ wsX30, w ∈ wsX3_beginAll := by decide +kernel
  refine lv_aload_n hx hb dX3_beginAll_0 rfl (lv_at hl 0 rfl) ?_
  refine z_bwv (wr := [(wd, .inl (cA, 5, .inl fw))]) (ws' := fun (_ : Unit) => [(t0, .inr (3, [.int (-1), .int (-1), .int 0, .int 0, .int en, .int w0, .int w1, .int br, .ref wd, .int td, .ref tw, .ref ts])), (wd, .inl (cA, 5, .inl fw))]) (z_runV (As := []) (rest := []) (ci := 3) ⟨hx, hb, hml, hown, hts⟩ (c_X3_beginCase (t0 := t0) (wd := wd) (tw := tw) (ts := ts) (la := la) (be := be) (ou := ou) (si := si) (en := en) (w0 := w0) (w1 := w1) (br := br) (td := td) _) (cwV 0 hts gX3_beginAll_X3_beginCase rfl rfl rfl (by decide +kernel) ⟨Nat.le_of_ble_eq_true rfl, Nat.le_of_ble_eq_true rfl⟩) hK hP hD hN [0] rfl rfl rfl rfl rfl hl.1 rfl (Nat.le_of_ble_eq_true rfl) dX3_beginAll_1 ⟨Nat.zero_le _, Nat.zero_le _⟩) hP hD hS hA [0] [1] [1, 0] rfl rfl rfl (by decide) rfl (fun _ => rfl) (fun u3 H locs hw1 hP hD hS => ?_)
  have hP : va_P D vwCl [(t0, .inr (3, [.int (-1), .int (-1), .int 0, .int 0, .int en, .int w0, .int w1, .int br, .ref wd, .int td, .ref tw, .ref ts])), (wd, .inl (cA, 5, .inl fw))] H := hP
  have hD : va_D A [(t0, .inr (3, [.int (-1), .int (-1), .int 0, .int 0, .int en, .int w0, .int w1, .int br, .ref wd, .int td, .ref tw, .ref ts])), (wd, .inl (cA, 5, .inl fw))] := hD
  refine lv_aload_n hx hb dX3_beginAll_4 rfl (lv_at hl 0 rfl) ?_
  refine lv_iconst (v := 0) hx hb dX3_beginAll_5 (by decide) ?_
  refine va_put (D := D) (ci := 3) (v := .int 0) (ty := .int) (C := RX3) (T := TX3) (N := 12) hx hb hts hiX3 tyX3 tyX3_ok nmX3 hown hK hP hD hS 0 rfl rfl 4 (by decide) (hts (.fieldLink RX3 31 "HeardSecond$Trial" "ended" "I") (by decide +kernel)) (fun _ h9 => h9) rfl (by decide +kernel) (rfl) rfl (Nat.le_of_ble_eq_true rfl) dX3_beginAll_6 (fun H locs hP hD hS => ?_)
  have hP : va_P D vwCl [(t0, .inr (3, [.int (-1), .int (-1), .int 0, .int 0, .int 0, .int w0, .int w1, .int br, .ref wd, .int td, .ref tw, .ref ts])), (wd, .inl (cA, 5, .inl fw))] H := hP
  have hD : va_D A [(t0, .inr (3, [.int (-1), .int (-1), .int 0, .int 0, .int 0, .int w0, .int w1, .int br, .ref wd, .int td, .ref tw, .ref ts])), (wd, .inl (cA, 5, .inl fw))] := hD
  refine lv_aload_n hx hb dX3_beginAll_9 rfl (lv_at hl 0 rfl) ?_
  refine lv_iconst (v := 0) hx hb dX3_beginAll_10 (by decide) ?_
  refine va_put (D := D) (ci := 3) (v := .int 0) (ty := .int) (C := RX3) (T := TX3) (N := 12) hx hb hts hiX3 tyX3 tyX3_ok nmX3 hown hK hP hD hS 0 rfl rfl 5 (by decide) (hts (.fieldLink RX3 34 "HeardSecond$Trial" "wonBy0" "I") (by decide +kernel)) (fun _ h9 => h9) rfl (by decide +kernel) (rfl) rfl (Nat.le_of_ble_eq_true rfl) dX3_beginAll_11 (fun H locs hP hD hS => ?_)
  have hP : va_P D vwCl [(t0, .inr (3, [.int (-1), .int (-1), .int 0, .int 0, .int 0, .int 0, .int w1, .int br, .ref wd, .int td, .ref tw, .ref ts])), (wd, .inl (cA, 5, .inl fw))] H := hP
  have hD : va_D A [(t0, .inr (3, [.int (-1), .int (-1), .int 0, .int 0, .int 0, .int 0, .int w1, .int br, .ref wd, .int td, .ref tw, .ref ts])), (wd, .inl (cA, 5, .inl fw))] := hD
  refine lv_aload_n hx hb dX3_beginAll_14 rfl (lv_at hl 0 rfl) ?_
  refine lv_iconst (v := 0) hx hb dX3_beginAll_15 (by decide) ?_
  refine va_put (D := D) (ci := 3) (v := .int 0) (ty := .int) (C := RX3) (T := TX3) (N := 12) hx hb hts hiX3 tyX3 tyX3_ok nmX3 hown hK hP hD hS 0 rfl rfl 6 (by decide) (hts (.fieldLink RX3 37 "HeardSecond$Trial" "wonBy1" "I") (by decide +kernel)) (fun _ h9 => h9) rfl (by decide +kernel) (rfl) rfl (Nat.le_of_ble_eq_true rfl) dX3_beginAll_16 (fun H locs hP hD hS => ?_)
  have hP : va_P D vwCl [(t0, .inr (3, [.int (-1), .int (-1), .int 0, .int 0, .int 0, .int 0, .int 0, .int br, .ref wd, .int td, .ref tw, .ref ts])), (wd, .inl (cA, 5, .inl fw))] H := hP
  have hD : va_D A [(t0, .inr (3, [.int (-1), .int (-1), .int 0, .int 0, .int 0, .int 0, .int 0, .int br, .ref wd, .int td, .ref tw, .ref ts])), (wd, .inl (cA, 5, .inl fw))] := hD
  refine lv_aload_n hx hb dX3_beginAll_19 rfl (lv_at hl 0 rfl) ?_
  refine lv_iconst (v := 0) hx hb dX3_beginAll_20 (by decide) ?_
  refine va_put (D := D) (ci := 3) (v := .int 0) (ty := .int) (C := RX3) (T := TX3) (N := 12) hx hb hts hiX3 tyX3 tyX3_ok nmX3 hown hK hP hD hS 0 rfl rfl 7 (by decide) (hts (.fieldLink RX3 40 "HeardSecond$Trial" "breaths" "I") (by decide +kernel)) (fun _ h9 => h9) rfl (by decide +kernel) (rfl) rfl (Nat.le_of_ble_eq_true rfl) dX3_beginAll_21 (fun H locs hP hD hS => ?_)
  have hP : va_P D vwCl [(t0, .inr (3, [.int (-1), .int (-1), .int 0, .int 0, .int 0, .int 0, .int 0, .int 0, .ref wd, .int td, .ref tw, .ref ts])), (wd, .inl (cA, 5, .inl fw))] H := hP
  have hD : va_D A [(t0, .inr (3, [.int (-1), .int (-1), .int 0, .int 0, .int 0, .int 0, .int 0, .int 0, .ref wd, .int td, .ref tw, .ref ts])), (wd, .inl (cA, 5, .inl fw))] := hD
  refine lv_aload_n hx hb dX3_beginAll_24 rfl (lv_at hl 0 rfl) ?_
  refine lv_iconst (v := 0) hx hb dX3_beginAll_25 (by decide) ?_
  refine va_put (D := D) (ci := 3) (v := .int 0) (ty := .int) (C := RX3) (T := TX3) (N := 12) hx hb hts hiX3 tyX3 tyX3_ok nmX3 hown hK hP hD hS 0 rfl rfl 9 (by decide) (hts (.fieldLink RX3 43 "HeardSecond$Trial" "told" "I") (by decide +kernel)) (fun _ h9 => h9) rfl (by decide +kernel) (rfl) rfl (Nat.le_of_ble_eq_true rfl) dX3_beginAll_26 (fun H locs hP hD hS => ?_)
  have hP : va_P D vwCl [(t0, .inr (3, [.int (-1), .int (-1), .int 0, .int 0, .int 0, .int 0, .int 0, .int 0, .ref wd, .int 0, .ref tw, .ref ts])), (wd, .inl (cA, 5, .inl fw))] H := hP
  have hD : va_D A [(t0, .inr (3, [.int (-1), .int (-1), .int 0, .int 0, .int 0, .int 0, .int 0, .int 0, .ref wd, .int 0, .ref tw, .ref ts])), (wd, .inl (cA, 5, .inl fw))] := hD
  refine lv_aload_n hx hb dX3_beginAll_29 rfl (lv_at hl 0 rfl) ?_
  refine va_get (D := D) (ci := 3) (v := .ref wd) (C := RX3) (T := TX3) (N := 12) hx hb hts hiX3 hown hK hP 0 rfl rfl 8 (by decide) (hts (.fieldLink RX3 18 "HeardSecond$Trial" "words" "[I") (by decide +kernel)) (fun _ h9 => h9) rfl dX3_beginAll_30 ?_
  refine lv_iconst (v := 0) hx hb dX3_beginAll_33 (by decide) ?_
  refine z_bwv (wr := [(t0, .inr (3, [.int (-1), .int (-1), .int 0, .int 0, .int 0, .int 0, .int 0, .int 0, .ref wd, .int 0, .ref tw, .ref ts]))]) (ws' := fun (_ : Unit) => [(t0, .inr (3, [.int (-1), .int (-1), .int 0, .int 0, .int 0, .int 0, .int 0, .int 0, .ref wd, .int 0, .ref tw, .ref ts])), (wd, .inl (cA, 5, .inl (fun _ => 0)))]) (z_runSN (As := [.ref wd, .int 0]) (rest := []) ⟨hx, hb, hml, hown, hts⟩ (c_X4_fill (n := 5) (q := wd) (f := fw) (x := 0) (by first | assumption | omega) _) (va_cnB (own := RX3) (host := "HeardSecond") (index := 46) 2 hts ggX3_beginAll_X4_fill rfl rfl rfl (hN.get 24 rfl) (hts (.initialized RX4) (by decide +kernel)) (by decide +kernel) ⟨Nat.le_of_ble_eq_true rfl, Nat.le_of_ble_eq_true rfl⟩) (hts (.static yX4_fill) (by decide +kernel)) hK hP hD hN [1] rfl rfl rfl hl.1 rfl (Nat.le_of_ble_eq_true rfl) dX3_beginAll_34 ⟨Nat.zero_le _, Nat.zero_le _⟩) hP hD hS hA [1] [0] [0, 1] rfl rfl rfl (by decide) rfl (fun _ => rfl) (fun u6 H locs hw4 hP hD hS => ?_)
  have hP : va_P D vwCl [(t0, .inr (3, [.int (-1), .int (-1), .int 0, .int 0, .int 0, .int 0, .int 0, .int 0, .ref wd, .int 0, .ref tw, .ref ts])), (wd, .inl (cA, 5, .inl (fun _ => 0)))] H := hP
  have hD : va_D A [(t0, .inr (3, [.int (-1), .int (-1), .int 0, .int 0, .int 0, .int 0, .int 0, .int 0, .ref wd, .int 0, .ref tw, .ref ts])), (wd, .inl (cA, 5, .inl (fun _ => 0)))] := hD
  -- path 1
  exact hret () _ _ _ _ dX3_beginAll_37 (by trivial) hP hD hS
abbrev rm_c_X3_endCase : Room := { frames := 1, cells := 0, slots := 0, locals := 20 }
set_option maxHeartbeats 400000 in
set_option maxRecDepth 20000 in
theorem c_X3_endCase {l : Launch} {D : va_G} {cA : ClassId} {t0 : Nat} {wd : Nat} {tw : Nat} {ts : Nat} {la : Int32} {be : Int32} {ou : Int32} {si : Int32} {en : Int32} {w0 : Int32} {w1 : Int32} {br : Int32} {td : Int32} {x : Int32} : zMv l yX3_endCase wsX3_endCase rm_c_X3_endCase D cA [(t0, .inr (3, [.int la, .int be, .int ou, .int si, .int en, .int w0, .int w1, .int br, .ref wd, .int td, .ref tw, .ref ts]))] [.ref t0, .int x] (fun (_ : Unit) => True) (fun (_ : Unit) => [(t0, .inr (3, [.int (-1), .int (-1), .int 0, .int 0, .int (en + 1), .int (jWon 0 x w0), .int (jWon 1 x w1), .int br, .ref wd, .int td, .ref tw, .ref ts]))]) := by
  refine z_enterv (cc := cX3_endCase) (maxL := 2) (by decide) rfl (Nat.le_of_ble_eq_true rfl) (fun p e s m args below meth c ls A H0 H locs Q hi_ hA hK hP hD hS hl hret => ?_)
  obtain ⟨hx, hb, hr, hml, hown, hts, hlocks, hN⟩ := hi_
  have hl : lv_has ls 2 [(0, .ref t0), (1, .int x)] := hl
  have hiX3 : ∀ w ∈ wsX30, w ∈ wsX3_endCase := by decide +kernel
  refine lv_aload_n hx hb dX3_endCase_0 rfl (lv_at hl 0 rfl) ?_
  refine lv_dup hx hb dX3_endCase_1 rfl ?_
  refine va_get (D := D) (ci := 3) (v := .int en) (C := RX3) (T := TX3) (N := 12) hx hb hts hiX3 hown hK hP 0 rfl rfl 4 (by decide) (hts (.fieldLink RX3 31 "HeardSecond$Trial" "ended" "I") (by decide +kernel)) (fun _ h9 => h9) rfl dX3_endCase_2 ?_
  refine lv_iconst (v := 1) hx hb dX3_endCase_5 (by decide) ?_
  refine lv_iadd hx hb dX3_endCase_6 ?_
  refine va_put (D := D) (ci := 3) (v := .int (en + 1)) (ty := .int) (C := RX3) (T := TX3) (N := 12) hx hb hts hiX3 tyX3 tyX3_ok nmX3 hown hK hP hD hS 0 rfl rfl 4 (by decide) (hts (.fieldLink RX3 31 "HeardSecond$Trial" "ended" "I") (by decide +kernel)) (fun _ h9 => h9) rfl (by decide +kernel) (rfl) rfl (Nat.le_of_ble_eq_true rfl) dX3_endCase_7 (fun H locs hP hD hS => ?_)
  have hP : va_P D vwCl [(t0, .inr (3, [.int la, .int be, .int ou, .int si, .int (en + 1), .int w0, .int w1, .int br, .ref wd, .int td, .ref tw, .ref ts]))] H := hP
  have hD : va_D A [(t0, .inr (3, [.int la, .int be, .int ou, .int si, .int (en + 1), .int w0, .int w1, .int br, .ref wd, .int td, .ref tw, .ref ts]))] := hD
  refine lv_iload_n hx hb dX3_endCase_10 rfl (lv_at hl 1 rfl) ?_
  refine lv_if_ne (tgt := 24) hx hb dX3_endCase_11 (by decide) (fun c11_1 => ?_) (fun c11_1 => ?_)
  · skip
    refine lv_iload_n hx hb dX3_endCase_24 rfl (lv_at hl 1 rfl) ?_
    refine lv_iconst (v := 1) hx hb dX3_endCase_25 (by decide) ?_
    refine lv_icmp_ne (tgt := 39) hx hb dX3_endCase_26 (by decide) (fun c26_2 => ?_) (fun c26_2 => ?_)
    · skip
      refine lv_aload_n hx hb dX3_endCase_39 rfl (lv_at hl 0 rfl) ?_
      refine z_bwv (wr := []) (ws' := fun (_ : Unit) => [(t0, .inr (3, [.int (-1), .int (-1), .int 0, .int 0, .int (en + 1), .int w0, .int w1, .int br, .ref wd, .int td, .ref tw, .ref ts]))]) (z_runV (As := []) (rest := []) (ci := 3) ⟨hx, hb, hml, hown, hts⟩ (c_X3_beginCase (t0 := t0) (wd := wd) (tw := tw) (ts := ts) (la := la) (be := be) (ou := ou) (si := si) (en := en + 1) (w0 := w0) (w1 := w1) (br := br) (td := td) _) (cwV 0 hts gX3_endCase_X3_beginCase rfl rfl rfl (by decide +kernel) ⟨Nat.le_of_ble_eq_true rfl, Nat.le_of_ble_eq_true rfl⟩) hK hP hD hN [0] rfl rfl rfl rfl rfl hl.1 rfl (Nat.le_of_ble_eq_true rfl) dX3_endCase_40 ⟨Nat.zero_le _, Nat.zero_le _⟩) hP hD hS hA [0] [] [0] rfl rfl rfl (by decide) rfl (fun _ => rfl) (fun u5 H locs hw3 hP hD hS => ?_)
      have hP : va_P D vwCl [(t0, .inr (3, [.int (-1), .int (-1), .int 0, .int 0, .int (en + 1), .int w0, .int w1, .int br, .ref wd, .int td, .ref tw, .ref ts]))] H := hP
      have hD : va_D A [(t0, .inr (3, [.int (-1), .int (-1), .int 0, .int 0, .int (en + 1), .int w0, .int w1, .int br, .ref wd, .int td, .ref tw, .ref ts]))] := hD
      -- path 1
      have hP : va_P D vwCl [(t0, .inr (3, [.int (-1), .int (-1), .int 0, .int 0, .int (en + 1), .int (jWon 0 x w0), .int w1, .int br, .ref wd, .int td, .ref tw, .ref ts]))] H := by have e_ : w0 = jWon 0 x w0 := (by clear hret hl hS hD hP hK hA hN hts hx hb hr hml hown hlocks hiX3; simp_all [jWon]); rw [← e_]; exact hP
      have hD : va_D A [(t0, .inr (3, [.int (-1), .int (-1), .int 0, .int 0, .int (en + 1), .int (jWon 0 x w0), .int w1, .int br, .ref wd, .int td, .ref tw, .ref ts]))] := by have e_ : w0 = jWon 0 x w0 := (by clear hret hl hS hD hP hK hA hN hts hx hb hr hml hown hlocks hiX3; simp_all [jWon]); rw [← e_]; exact hD
      have hP : va_P D vwCl [(t0, .inr (3, [.int (-1), .int (-1), .int 0, .int 0, .int (en + 1), .int (jWon 0 x w0), .int (jWon 1 x w1), .int br, .ref wd, .int td, .ref tw, .ref ts]))] H := by have e_ : w1 = jWon 1 x w1 := (by clear hret hl hS hD hP hK hA hN hts hx hb hr hml hown hlocks hiX3; simp_all [jWon]); rw [← e_]; exact hP
      have hD : va_D A [(t0, .inr (3, [.int (-1), .int (-1), .int 0, .int 0, .int (en + 1), .int (jWon 0 x w0), .int (jWon 1 x w1), .int br, .ref wd, .int td, .ref tw, .ref ts]))] := by have e_ : w1 = jWon 1 x w1 := (by clear hret hl hS hD hP hK hA hN hts hx hb hr hml hown hlocks hiX3; simp_all [jWon]); rw [← e_]; exact hD
      exact hret () _ _ _ _ dX3_endCase_43 (by trivial) hP hD hS
    · skip
      refine lv_aload_n hx hb dX3_endCase_29 rfl (lv_at hl 0 rfl) ?_
      refine lv_dup hx hb dX3_endCase_30 rfl ?_
      refine va_get (D := D) (ci := 3) (v := .int w1) (C := RX3) (T := TX3) (N := 12) hx hb hts hiX3 hown hK hP 0 rfl rfl 6 (by decide) (hts (.fieldLink RX3 37 "HeardSecond$Trial" "wonBy1" "I") (by decide +kernel)) (fun _ h9 => h9) rfl dX3_endCase_31 ?_
      refine lv_iconst (v := 1) hx hb dX3_endCase_34 (by decide) ?_
      refine lv_iadd hx hb dX3_endCase_35 ?_
      refine va_put (D := D) (ci := 3) (v := .int (w1 + 1)) (ty := .int) (C := RX3) (T := TX3) (N := 12) hx hb hts hiX3 tyX3 tyX3_ok nmX3 hown hK hP hD hS 0 rfl rfl 6 (by decide) (hts (.fieldLink RX3 37 "HeardSecond$Trial" "wonBy1" "I") (by decide +kernel)) (fun _ h9 => h9) rfl (by decide +kernel) (rfl) rfl (Nat.le_of_ble_eq_true rfl) dX3_endCase_36 (fun H locs hP hD hS => ?_)
      have hP : va_P D vwCl [(t0, .inr (3, [.int la, .int be, .int ou, .int si, .int (en + 1), .int w0, .int (w1 + 1), .int br, .ref wd, .int td, .ref tw, .ref ts]))] H := hP
      have hD : va_D A [(t0, .inr (3, [.int la, .int be, .int ou, .int si, .int (en + 1), .int w0, .int (w1 + 1), .int br, .ref wd, .int td, .ref tw, .ref ts]))] := hD
      refine lv_aload_n hx hb dX3_endCase_39 rfl (lv_at hl 0 rfl) ?_
      refine z_bwv (wr := []) (ws' := fun (_ : Unit) => [(t0, .inr (3, [.int (-1), .int (-1), .int 0, .int 0, .int (en + 1), .int w0, .int (w1 + 1), .int br, .ref wd, .int td, .ref tw, .ref ts]))]) (z_runV (As := []) (rest := []) (ci := 3) ⟨hx, hb, hml, hown, hts⟩ (c_X3_beginCase (t0 := t0) (wd := wd) (tw := tw) (ts := ts) (la := la) (be := be) (ou := ou) (si := si) (en := en + 1) (w0 := w0) (w1 := w1 + 1) (br := br) (td := td) _) (cwV 0 hts gX3_endCase_X3_beginCase rfl rfl rfl (by decide +kernel) ⟨Nat.le_of_ble_eq_true rfl, Nat.le_of_ble_eq_true rfl⟩) hK hP hD hN [0] rfl rfl rfl rfl rfl hl.1 rfl (Nat.le_of_ble_eq_true rfl) dX3_endCase_40 ⟨Nat.zero_le _, Nat.zero_le _⟩) hP hD hS hA [0] [] [0] rfl rfl rfl (by decide) rfl (fun _ => rfl) (fun u8 H locs hw6 hP hD hS => ?_)
      have hP : va_P D vwCl [(t0, .inr (3, [.int (-1), .int (-1), .int 0, .int 0, .int (en + 1), .int w0, .int (w1 + 1), .int br, .ref wd, .int td, .ref tw, .ref ts]))] H := hP
      have hD : va_D A [(t0, .inr (3, [.int (-1), .int (-1), .int 0, .int 0, .int (en + 1), .int w0, .int (w1 + 1), .int br, .ref wd, .int td, .ref tw, .ref ts]))] := hD
      -- path 2
      have hP : va_P D vwCl [(t0, .inr (3, [.int (-1), .int (-1), .int 0, .int 0, .int (en + 1), .int (jWon 0 x w0), .int (w1 + 1), .int br, .ref wd, .int td, .ref tw, .ref ts]))] H := by have e_ : w0 = jWon 0 x w0 := (by clear hret hl hS hD hP hK hA hN hts hx hb hr hml hown hlocks hiX3; simp_all [jWon]); rw [← e_]; exact hP
      have hD : va_D A [(t0, .inr (3, [.int (-1), .int (-1), .int 0, .int 0, .int (en + 1), .int (jWon 0 x w0), .int (w1 + 1), .int br, .ref wd, .int td, .ref tw, .ref ts]))] := by have e_ : w0 = jWon 0 x w0 := (by clear hret hl hS hD hP hK hA hN hts hx hb hr hml hown hlocks hiX3; simp_all [jWon]); rw [← e_]; exact hD
      have hP : va_P D vwCl [(t0, .inr (3, [.int (-1), .int (-1), .int 0, .int 0, .int (en + 1), .int (jWon 0 x w0), .int (jWon 1 x w1), .int br, .ref wd, .int td, .ref tw, .ref ts]))] H := by have e_ : w1 + 1 = jWon 1 x w1 := (by clear hret hl hS hD hP hK hA hN hts hx hb hr hml hown hlocks hiX3; simp_all [jWon]); rw [← e_]; exact hP
      have hD : va_D A [(t0, .inr (3, [.int (-1), .int (-1), .int 0, .int 0, .int (en + 1), .int (jWon 0 x w0), .int (jWon 1 x w1), .int br, .ref wd, .int td, .ref tw, .ref ts]))] := by have e_ : w1 + 1 = jWon 1 x w1 := (by clear hret hl hS hD hP hK hA hN hts hx hb hr hml hown hlocks hiX3; simp_all [jWon]); rw [← e_]; exact hD
      exact hret () _ _ _ _ dX3_endCase_43 (by trivial) hP hD hS
  · skip
    refine lv_aload_n hx hb dX3_endCase_14 rfl (lv_at hl 0 rfl) ?_
    refine lv_dup hx hb dX3_endCase_15 rfl ?_
    refine va_get (D := D) (ci := 3) (v := .int w0) (C := RX3) (T := TX3) (N := 12) hx hb hts hiX3 hown hK hP 0 rfl rfl 5 (by decide) (hts (.fieldLink RX3 34 "HeardSecond$Trial" "wonBy0" "I") (by decide +kernel)) (fun _ h9 => h9) rfl dX3_endCase_16 ?_
    refine lv_iconst (v := 1) hx hb dX3_endCase_19 (by decide) ?_
    refine lv_iadd hx hb dX3_endCase_20 ?_
    refine va_put (D := D) (ci := 3) (v := .int (w0 + 1)) (ty := .int) (C := RX3) (T := TX3) (N := 12) hx hb hts hiX3 tyX3 tyX3_ok nmX3 hown hK hP hD hS 0 rfl rfl 5 (by decide) (hts (.fieldLink RX3 34 "HeardSecond$Trial" "wonBy0" "I") (by decide +kernel)) (fun _ h9 => h9) rfl (by decide +kernel) (rfl) rfl (Nat.le_of_ble_eq_true rfl) dX3_endCase_21 (fun H locs hP hD hS => ?_)
    have hP : va_P D vwCl [(t0, .inr (3, [.int la, .int be, .int ou, .int si, .int (en + 1), .int (w0 + 1), .int w1, .int br, .ref wd, .int td, .ref tw, .ref ts]))] H := hP
    have hD : va_D A [(t0, .inr (3, [.int la, .int be, .int ou, .int si, .int (en + 1), .int (w0 + 1), .int w1, .int br, .ref wd, .int td, .ref tw, .ref ts]))] := hD
    refine lv_iload_n hx hb dX3_endCase_24 rfl (lv_at hl 1 rfl) ?_
    refine lv_iconst (v := 1) hx hb dX3_endCase_25 (by decide) ?_
    refine lv_icmp_ne (tgt := 39) hx hb dX3_endCase_26 (by decide) (fun c26_9 => ?_) (fun c26_9 => ?_)
    · skip
      refine lv_aload_n hx hb dX3_endCase_39 rfl (lv_at hl 0 rfl) ?_
      refine z_bwv (wr := []) (ws' := fun (_ : Unit) => [(t0, .inr (3, [.int (-1), .int (-1), .int 0, .int 0, .int (en + 1), .int (w0 + 1), .int w1, .int br, .ref wd, .int td, .ref tw, .ref ts]))]) (z_runV (As := []) (rest := []) (ci := 3) ⟨hx, hb, hml, hown, hts⟩ (c_X3_beginCase (t0 := t0) (wd := wd) (tw := tw) (ts := ts) (la := la) (be := be) (ou := ou) (si := si) (en := en + 1) (w0 := w0 + 1) (w1 := w1) (br := br) (td := td) _) (cwV 0 hts gX3_endCase_X3_beginCase rfl rfl rfl (by decide +kernel) ⟨Nat.le_of_ble_eq_true rfl, Nat.le_of_ble_eq_true rfl⟩) hK hP hD hN [0] rfl rfl rfl rfl rfl hl.1 rfl (Nat.le_of_ble_eq_true rfl) dX3_endCase_40 ⟨Nat.zero_le _, Nat.zero_le _⟩) hP hD hS hA [0] [] [0] rfl rfl rfl (by decide) rfl (fun _ => rfl) (fun u12 H locs hw10 hP hD hS => ?_)
      have hP : va_P D vwCl [(t0, .inr (3, [.int (-1), .int (-1), .int 0, .int 0, .int (en + 1), .int (w0 + 1), .int w1, .int br, .ref wd, .int td, .ref tw, .ref ts]))] H := hP
      have hD : va_D A [(t0, .inr (3, [.int (-1), .int (-1), .int 0, .int 0, .int (en + 1), .int (w0 + 1), .int w1, .int br, .ref wd, .int td, .ref tw, .ref ts]))] := hD
      -- path 3
      have hP : va_P D vwCl [(t0, .inr (3, [.int (-1), .int (-1), .int 0, .int 0, .int (en + 1), .int (jWon 0 x w0), .int w1, .int br, .ref wd, .int td, .ref tw, .ref ts]))] H := by have e_ : w0 + 1 = jWon 0 x w0 := (by clear hret hl hS hD hP hK hA hN hts hx hb hr hml hown hlocks hiX3; simp_all [jWon]); rw [← e_]; exact hP
      have hD : va_D A [(t0, .inr (3, [.int (-1), .int (-1), .int 0, .int 0, .int (en + 1), .int (jWon 0 x w0), .int w1, .int br, .ref wd, .int td, .ref tw, .ref ts]))] := by have e_ : w0 + 1 = jWon 0 x w0 := (by clear hret hl hS hD hP hK hA hN hts hx hb hr hml hown hlocks hiX3; simp_all [jWon]); rw [← e_]; exact hD
      have hP : va_P D vwCl [(t0, .inr (3, [.int (-1), .int (-1), .int 0, .int 0, .int (en + 1), .int (jWon 0 x w0), .int (jWon 1 x w1), .int br, .ref wd, .int td, .ref tw, .ref ts]))] H := by have e_ : w1 = jWon 1 x w1 := (by clear hret hl hS hD hP hK hA hN hts hx hb hr hml hown hlocks hiX3; simp_all [jWon]); rw [← e_]; exact hP
      have hD : va_D A [(t0, .inr (3, [.int (-1), .int (-1), .int 0, .int 0, .int (en + 1), .int (jWon 0 x w0), .int (jWon 1 x w1), .int br, .ref wd, .int td, .ref tw, .ref ts]))] := by have e_ : w1 = jWon 1 x w1 := (by clear hret hl hS hD hP hK hA hN hts hx hb hr hml hown hlocks hiX3; simp_all [jWon]); rw [← e_]; exact hD
      exact hret () _ _ _ _ dX3_endCase_43 (by trivial) hP hD hS
    · skip
      refine lv_aload_n hx hb dX3_endCase_29 rfl (lv_at hl 0 rfl) ?_
      refine lv_dup hx hb dX3_endCase_30 rfl ?_
      refine va_get (D := D) (ci := 3) (v := .int w1) (C := RX3) (T := TX3) (N := 12) hx hb hts hiX3 hown hK hP 0 rfl rfl 6 (by decide) (hts (.fieldLink RX3 37 "HeardSecond$Trial" "wonBy1" "I") (by decide +kernel)) (fun _ h9 => h9) rfl dX3_endCase_31 ?_
      refine lv_iconst (v := 1) hx hb dX3_endCase_34 (by decide) ?_
      refine lv_iadd hx hb dX3_endCase_35 ?_
      refine va_put (D := D) (ci := 3) (v := .int (w1 + 1)) (ty := .int) (C := RX3) (T := TX3) (N := 12) hx hb hts hiX3 tyX3 tyX3_ok nmX3 hown hK hP hD hS 0 rfl rfl 6 (by decide) (hts (.fieldLink RX3 37 "HeardSecond$Trial" "wonBy1" "I") (by decide +kernel)) (fun _ h9 => h9) rfl (by decide +kernel) (rfl) rfl (Nat.le_of_ble_eq_true rfl) dX3_endCase_36 (fun H locs hP hD hS => ?_)
      have hP : va_P D vwCl [(t0, .inr (3, [.int la, .int be, .int ou, .int si, .int (en + 1), .int (w0 + 1), .int (w1 + 1), .int br, .ref wd, .int td, .ref tw, .ref ts]))] H := hP
      have hD : va_D A [(t0, .inr (3, [.int la, .int be, .int ou, .int si, .int (en + 1), .int (w0 + 1), .int (w1 + 1), .int br, .ref wd, .int td, .ref tw, .ref ts]))] := hD
      refine lv_aload_n hx hb dX3_endCase_39 rfl (lv_at hl 0 rfl) ?_
      refine z_bwv (wr := []) (ws' := fun (_ : Unit) => [(t0, .inr (3, [.int (-1), .int (-1), .int 0, .int 0, .int (en + 1), .int (w0 + 1), .int (w1 + 1), .int br, .ref wd, .int td, .ref tw, .ref ts]))]) (z_runV (As := []) (rest := []) (ci := 3) ⟨hx, hb, hml, hown, hts⟩ (c_X3_beginCase (t0 := t0) (wd := wd) (tw := tw) (ts := ts) (la := la) (be := be) (ou := ou) (si := si) (en := en + 1) (w0 := w0 + 1) (w1 := w1 + 1) (br := br) (td := td) _) (cwV 0 hts gX3_endCase_X3_beginCase rfl rfl rfl (by decide +kernel) ⟨Nat.le_of_ble_eq_true rfl, Nat.le_of_ble_eq_true rfl⟩) hK hP hD hN [0] rfl rfl rfl rfl rfl hl.1 rfl (Nat.le_of_ble_eq_true rfl) dX3_endCase_40 ⟨Nat.zero_le _, Nat.zero_le _⟩) hP hD hS hA [0] [] [0] rfl rfl rfl (by decide) rfl (fun _ => rfl) (fun u15 H locs hw13 hP hD hS => ?_)
      have hP : va_P D vwCl [(t0, .inr (3, [.int (-1), .int (-1), .int 0, .int 0, .int (en + 1), .int (w0 + 1), .int (w1 + 1), .int br, .ref wd, .int td, .ref tw, .ref ts]))] H := hP
      have hD : va_D A [(t0, .inr (3, [.int (-1), .int (-1), .int 0, .int 0, .int (en + 1), .int (w0 + 1), .int (w1 + 1), .int br, .ref wd, .int td, .ref tw, .ref ts]))] := hD
      -- path 4
      have hP : va_P D vwCl [(t0, .inr (3, [.int (-1), .int (-1), .int 0, .int 0, .int (en + 1), .int (jWon 0 x w0), .int (w1 + 1), .int br, .ref wd, .int td, .ref tw, .ref ts]))] H := by have e_ : w0 + 1 = jWon 0 x w0 := (by clear hret hl hS hD hP hK hA hN hts hx hb hr hml hown hlocks hiX3; simp_all [jWon]); rw [← e_]; exact hP
      have hD : va_D A [(t0, .inr (3, [.int (-1), .int (-1), .int 0, .int 0, .int (en + 1), .int (jWon 0 x w0), .int (w1 + 1), .int br, .ref wd, .int td, .ref tw, .ref ts]))] := by have e_ : w0 + 1 = jWon 0 x w0 := (by clear hret hl hS hD hP hK hA hN hts hx hb hr hml hown hlocks hiX3; simp_all [jWon]); rw [← e_]; exact hD
      have hP : va_P D vwCl [(t0, .inr (3, [.int (-1), .int (-1), .int 0, .int 0, .int (en + 1), .int (jWon 0 x w0), .int (jWon 1 x w1), .int br, .ref wd, .int td, .ref tw, .ref ts]))] H := by have e_ : w1 + 1 = jWon 1 x w1 := (by clear hret hl hS hD hP hK hA hN hts hx hb hr hml hown hlocks hiX3; simp_all [jWon]); rw [← e_]; exact hP
      have hD : va_D A [(t0, .inr (3, [.int (-1), .int (-1), .int 0, .int 0, .int (en + 1), .int (jWon 0 x w0), .int (jWon 1 x w1), .int br, .ref wd, .int td, .ref tw, .ref ts]))] := by have e_ : w1 + 1 = jWon 1 x w1 := (by clear hret hl hS hD hP hK hA hN hts hx hb hr hml hown hlocks hiX3; simp_all [jWon]); rw [← e_]; exact hD
      exact hret () _ _ _ _ dX3_endCase_43 (by trivial) hP hD hS
abbrev rm_c_X3_takeFrom : Room := { frames := 2, cells := 0, slots := 0, locals := 43 }
set_option maxHeartbeats 400000 in
set_option maxRecDepth 20000 in
theorem c_X3_takeFrom {l : Launch} {D : va_G} {cA : ClassId} {t0 : Nat} {wd : Nat} {tw : Nat} {ts : Nat} {la : Int32} {be : Int32} {ou : Int32} {si : Int32} {en : Int32} {w0 : Int32} {w1 : Int32} {br : Int32} {td : Int32} {t1 : Nat} {wd1 : Nat} {tw1 : Nat} {ts1 : Nat} {la1 : Int32} {be1 : Int32} {ou1 : Int32} {si1 : Int32} {en1 : Int32} {w01 : Int32} {w11 : Int32} {br1 : Int32} {td1 : Int32} {fw : Nat → Int32} {ftw : Nat → Int32} {fts : Nat → Int32} {fw1 : Nat → Int32} {ftw1 : Nat → Int32} {fts1 : Nat → Int32} : zMv l yX3_takeFrom wsX3_takeFrom rm_c_X3_takeFrom D cA [(t0, .inr (3, [.int la, .int be, .int ou, .int si, .int en, .int w0, .int w1, .int br, .ref wd, .int td, .ref tw, .ref ts])), (wd, .inl (cA, 5, .inl fw)), (tw, .inl (cA, 8, .inl ftw)), (ts, .inl (cA, 8, .inl fts)), (t1, .inr (3, [.int la1, .int be1, .int ou1, .int si1, .int en1, .int w01, .int w11, .int br1, .ref wd1, .int td1, .ref tw1, .ref ts1])), (wd1, .inl (cA, 5, .inl fw1)), (tw1, .inl (cA, 8, .inl ftw1)), (ts1, .inl (cA, 8, .inl fts1))] [.ref t0, .ref t1] (fun (_ : Unit) => True) (fun (_ : Unit) => [(t0, .inr (3, [.int la1, .int be1, .int ou1, .int si1, .int en1, .int w01, .int w11, .int br1, .ref wd, .int td1, .ref tw, .ref ts])), (wd, .inl (cA, 5, .inl fw1)), (tw, .inl (cA, 8, .inl ftw1)), (ts, .inl (cA, 8, .inl fts1)), (t1, .inr (3, [.int la1, .int be1, .int ou1, .int si1, .int en1, .int w01, .int w11, .int br1, .ref wd1, .int td1, .ref tw1, .ref ts1])), (wd1, .inl (cA, 5, .inl fw1)), (tw1, .inl (cA, 8, .inl ftw1)), (ts1, .inl (cA, 8, .inl fts1))]) := by
  refine z_enterv (cc := cX3_takeFrom) (maxL := 2) (by decide) rfl (Nat.le_of_ble_eq_true rfl) (fun p e s m args below meth c ls A H0 H locs Q hi_ hA hK hP hD hS hl hret => ?_)
  obtain ⟨hx, hb, hr, hml, hown, hts, hlocks, hN⟩ := hi_
  have hl : lv_has ls 2 [(0, .ref t0), (1, .ref t1)] := hl
  have hiX3 : ∀ w ∈ wsX30, w ∈ wsX3_takeFrom := by decide +kernel
  refine lv_aload_n hx hb dX3_takeFrom_0 rfl (lv_at hl 1 rfl) ?_
  refine lv_ifnonnull (tgt := 5) hx hb dX3_takeFrom_1 (by decide) ?_
  refine lv_aload_n hx hb dX3_takeFrom_5 rfl (lv_at hl 0 rfl) ?_
  refine lv_aload_n hx hb dX3_takeFrom_6 rfl (lv_at hl 1 rfl) ?_
  refine va_get (D := D) (ci := 3) (v := .int la1) (C := RX3) (T := TX3) (N := 12) hx hb hts hiX3 hown hK hP 4 rfl rfl 0 (by decide) (hts (.fieldLink RX3 9 "HeardSecond$Trial" "last" "I") (by decide +kernel)) (fun _ h9 => h9) rfl dX3_takeFrom_7 ?_
  refine va_put (D := D) (ci := 3) (v := .int la1) (ty := .int) (C := RX3) (T := TX3) (N := 12) hx hb hts hiX3 tyX3 tyX3_ok nmX3 hown hK hP hD hS 0 rfl rfl 0 (by decide) (hts (.fieldLink RX3 9 "HeardSecond$Trial" "last" "I") (by decide +kernel)) (fun _ h9 => h9) rfl (by decide +kernel) (rfl) rfl (Nat.le_of_ble_eq_true rfl) dX3_takeFrom_10 (fun H locs hP hD hS => ?_)
  have hP : va_P D vwCl [(t0, .inr (3, [.int la1, .int be, .int ou, .int si, .int en, .int w0, .int w1, .int br, .ref wd, .int td, .ref tw, .ref ts])), (wd, .inl (cA, 5, .inl fw)), (tw, .inl (cA, 8, .inl ftw)), (ts, .inl (cA, 8, .inl fts)), (t1, .inr (3, [.int la1, .int be1, .int ou1, .int si1, .int en1, .int w01, .int w11, .int br1, .ref wd1, .int td1, .ref tw1, .ref ts1])), (wd1, .inl (cA, 5, .inl fw1)), (tw1, .inl (cA, 8, .inl ftw1)), (ts1, .inl (cA, 8, .inl fts1))] H := hP
  have hD : va_D A [(t0, .inr (3, [.int la1, .int be, .int ou, .int si, .int en, .int w0, .int w1, .int br, .ref wd, .int td, .ref tw, .ref ts])), (wd, .inl (cA, 5, .inl fw)), (tw, .inl (cA, 8, .inl ftw)), (ts, .inl (cA, 8, .inl fts)), (t1, .inr (3, [.int la1, .int be1, .int ou1, .int si1, .int en1, .int w01, .int w11, .int br1, .ref wd1, .int td1, .ref tw1, .ref ts1])), (wd1, .inl (cA, 5, .inl fw1)), (tw1, .inl (cA, 8, .inl ftw1)), (ts1, .inl (cA, 8, .inl fts1))] := hD
  refine lv_aload_n hx hb dX3_takeFrom_13 rfl (lv_at hl 0 rfl) ?_
  refine lv_aload_n hx hb dX3_takeFrom_14 rfl (lv_at hl 1 rfl) ?_
  refine va_get (D := D) (ci := 3) (v := .int be1) (C := RX3) (T := TX3) (N := 12) hx hb hts hiX3 hown hK hP 4 rfl rfl 1 (by decide) (hts (.fieldLink RX3 15 "HeardSecond$Trial" "believed" "I") (by decide +kernel)) (fun _ h9 => h9) rfl dX3_takeFrom_15 ?_
  refine va_put (D := D) (ci := 3) (v := .int be1) (ty := .int) (C := RX3) (T := TX3) (N := 12) hx hb hts hiX3 tyX3 tyX3_ok nmX3 hown hK hP hD hS 0 rfl rfl 1 (by decide) (hts (.fieldLink RX3 15 "HeardSecond$Trial" "believed" "I") (by decide +kernel)) (fun _ h9 => h9) rfl (by decide +kernel) (rfl) rfl (Nat.le_of_ble_eq_true rfl) dX3_takeFrom_18 (fun H locs hP hD hS => ?_)
  have hP : va_P D vwCl [(t0, .inr (3, [.int la1, .int be1, .int ou, .int si, .int en, .int w0, .int w1, .int br, .ref wd, .int td, .ref tw, .ref ts])), (wd, .inl (cA, 5, .inl fw)), (tw, .inl (cA, 8, .inl ftw)), (ts, .inl (cA, 8, .inl fts)), (t1, .inr (3, [.int la1, .int be1, .int ou1, .int si1, .int en1, .int w01, .int w11, .int br1, .ref wd1, .int td1, .ref tw1, .ref ts1])), (wd1, .inl (cA, 5, .inl fw1)), (tw1, .inl (cA, 8, .inl ftw1)), (ts1, .inl (cA, 8, .inl fts1))] H := hP
  have hD : va_D A [(t0, .inr (3, [.int la1, .int be1, .int ou, .int si, .int en, .int w0, .int w1, .int br, .ref wd, .int td, .ref tw, .ref ts])), (wd, .inl (cA, 5, .inl fw)), (tw, .inl (cA, 8, .inl ftw)), (ts, .inl (cA, 8, .inl fts)), (t1, .inr (3, [.int la1, .int be1, .int ou1, .int si1, .int en1, .int w01, .int w11, .int br1, .ref wd1, .int td1, .ref tw1, .ref ts1])), (wd1, .inl (cA, 5, .inl fw1)), (tw1, .inl (cA, 8, .inl ftw1)), (ts1, .inl (cA, 8, .inl fts1))] := hD
  refine lv_aload_n hx hb dX3_takeFrom_21 rfl (lv_at hl 0 rfl) ?_
  refine lv_aload_n hx hb dX3_takeFrom_22 rfl (lv_at hl 1 rfl) ?_
  refine va_get (D := D) (ci := 3) (v := .int ou1) (C := RX3) (T := TX3) (N := 12) hx hb hts hiX3 hown hK hP 4 rfl rfl 2 (by decide) (hts (.fieldLink RX3 50 "HeardSecond$Trial" "out" "I") (by decide +kernel)) (fun _ h9 => h9) rfl dX3_takeFrom_23 ?_
  refine va_put (D := D) (ci := 3) (v := .int ou1) (ty := .int) (C := RX3) (T := TX3) (N := 12) hx hb hts hiX3 tyX3 tyX3_ok nmX3 hown hK hP hD hS 0 rfl rfl 2 (by decide) (hts (.fieldLink RX3 50 "HeardSecond$Trial" "out" "I") (by decide +kernel)) (fun _ h9 => h9) rfl (by decide +kernel) (rfl) rfl (Nat.le_of_ble_eq_true rfl) dX3_takeFrom_26 (fun H locs hP hD hS => ?_)
  have hP : va_P D vwCl [(t0, .inr (3, [.int la1, .int be1, .int ou1, .int si, .int en, .int w0, .int w1, .int br, .ref wd, .int td, .ref tw, .ref ts])), (wd, .inl (cA, 5, .inl fw)), (tw, .inl (cA, 8, .inl ftw)), (ts, .inl (cA, 8, .inl fts)), (t1, .inr (3, [.int la1, .int be1, .int ou1, .int si1, .int en1, .int w01, .int w11, .int br1, .ref wd1, .int td1, .ref tw1, .ref ts1])), (wd1, .inl (cA, 5, .inl fw1)), (tw1, .inl (cA, 8, .inl ftw1)), (ts1, .inl (cA, 8, .inl fts1))] H := hP
  have hD : va_D A [(t0, .inr (3, [.int la1, .int be1, .int ou1, .int si, .int en, .int w0, .int w1, .int br, .ref wd, .int td, .ref tw, .ref ts])), (wd, .inl (cA, 5, .inl fw)), (tw, .inl (cA, 8, .inl ftw)), (ts, .inl (cA, 8, .inl fts)), (t1, .inr (3, [.int la1, .int be1, .int ou1, .int si1, .int en1, .int w01, .int w11, .int br1, .ref wd1, .int td1, .ref tw1, .ref ts1])), (wd1, .inl (cA, 5, .inl fw1)), (tw1, .inl (cA, 8, .inl ftw1)), (ts1, .inl (cA, 8, .inl fts1))] := hD
  refine lv_aload_n hx hb dX3_takeFrom_29 rfl (lv_at hl 0 rfl) ?_
  refine lv_aload_n hx hb dX3_takeFrom_30 rfl (lv_at hl 1 rfl) ?_
  refine va_get (D := D) (ci := 3) (v := .int si1) (C := RX3) (T := TX3) (N := 12) hx hb hts hiX3 hown hK hP 4 rfl rfl 3 (by decide) (hts (.fieldLink RX3 53 "HeardSecond$Trial" "silence" "I") (by decide +kernel)) (fun _ h9 => h9) rfl dX3_takeFrom_31 ?_
  refine va_put (D := D) (ci := 3) (v := .int si1) (ty := .int) (C := RX3) (T := TX3) (N := 12) hx hb hts hiX3 tyX3 tyX3_ok nmX3 hown hK hP hD hS 0 rfl rfl 3 (by decide) (hts (.fieldLink RX3 53 "HeardSecond$Trial" "silence" "I") (by decide +kernel)) (fun _ h9 => h9) rfl (by decide +kernel) (rfl) rfl (Nat.le_of_ble_eq_true rfl) dX3_takeFrom_34 (fun H locs hP hD hS => ?_)
  have hP : va_P D vwCl [(t0, .inr (3, [.int la1, .int be1, .int ou1, .int si1, .int en, .int w0, .int w1, .int br, .ref wd, .int td, .ref tw, .ref ts])), (wd, .inl (cA, 5, .inl fw)), (tw, .inl (cA, 8, .inl ftw)), (ts, .inl (cA, 8, .inl fts)), (t1, .inr (3, [.int la1, .int be1, .int ou1, .int si1, .int en1, .int w01, .int w11, .int br1, .ref wd1, .int td1, .ref tw1, .ref ts1])), (wd1, .inl (cA, 5, .inl fw1)), (tw1, .inl (cA, 8, .inl ftw1)), (ts1, .inl (cA, 8, .inl fts1))] H := hP
  have hD : va_D A [(t0, .inr (3, [.int la1, .int be1, .int ou1, .int si1, .int en, .int w0, .int w1, .int br, .ref wd, .int td, .ref tw, .ref ts])), (wd, .inl (cA, 5, .inl fw)), (tw, .inl (cA, 8, .inl ftw)), (ts, .inl (cA, 8, .inl fts)), (t1, .inr (3, [.int la1, .int be1, .int ou1, .int si1, .int en1, .int w01, .int w11, .int br1, .ref wd1, .int td1, .ref tw1, .ref ts1])), (wd1, .inl (cA, 5, .inl fw1)), (tw1, .inl (cA, 8, .inl ftw1)), (ts1, .inl (cA, 8, .inl fts1))] := hD
  refine lv_aload_n hx hb dX3_takeFrom_37 rfl (lv_at hl 0 rfl) ?_
  refine lv_aload_n hx hb dX3_takeFrom_38 rfl (lv_at hl 1 rfl) ?_
  refine va_get (D := D) (ci := 3) (v := .int en1) (C := RX3) (T := TX3) (N := 12) hx hb hts hiX3 hown hK hP 4 rfl rfl 4 (by decide) (hts (.fieldLink RX3 31 "HeardSecond$Trial" "ended" "I") (by decide +kernel)) (fun _ h9 => h9) rfl dX3_takeFrom_39 ?_
  refine va_put (D := D) (ci := 3) (v := .int en1) (ty := .int) (C := RX3) (T := TX3) (N := 12) hx hb hts hiX3 tyX3 tyX3_ok nmX3 hown hK hP hD hS 0 rfl rfl 4 (by decide) (hts (.fieldLink RX3 31 "HeardSecond$Trial" "ended" "I") (by decide +kernel)) (fun _ h9 => h9) rfl (by decide +kernel) (rfl) rfl (Nat.le_of_ble_eq_true rfl) dX3_takeFrom_42 (fun H locs hP hD hS => ?_)
  have hP : va_P D vwCl [(t0, .inr (3, [.int la1, .int be1, .int ou1, .int si1, .int en1, .int w0, .int w1, .int br, .ref wd, .int td, .ref tw, .ref ts])), (wd, .inl (cA, 5, .inl fw)), (tw, .inl (cA, 8, .inl ftw)), (ts, .inl (cA, 8, .inl fts)), (t1, .inr (3, [.int la1, .int be1, .int ou1, .int si1, .int en1, .int w01, .int w11, .int br1, .ref wd1, .int td1, .ref tw1, .ref ts1])), (wd1, .inl (cA, 5, .inl fw1)), (tw1, .inl (cA, 8, .inl ftw1)), (ts1, .inl (cA, 8, .inl fts1))] H := hP
  have hD : va_D A [(t0, .inr (3, [.int la1, .int be1, .int ou1, .int si1, .int en1, .int w0, .int w1, .int br, .ref wd, .int td, .ref tw, .ref ts])), (wd, .inl (cA, 5, .inl fw)), (tw, .inl (cA, 8, .inl ftw)), (ts, .inl (cA, 8, .inl fts)), (t1, .inr (3, [.int la1, .int be1, .int ou1, .int si1, .int en1, .int w01, .int w11, .int br1, .ref wd1, .int td1, .ref tw1, .ref ts1])), (wd1, .inl (cA, 5, .inl fw1)), (tw1, .inl (cA, 8, .inl ftw1)), (ts1, .inl (cA, 8, .inl fts1))] := hD
  refine lv_aload_n hx hb dX3_takeFrom_45 rfl (lv_at hl 0 rfl) ?_
  refine lv_aload_n hx hb dX3_takeFrom_46 rfl (lv_at hl 1 rfl) ?_
  refine va_get (D := D) (ci := 3) (v := .int w01) (C := RX3) (T := TX3) (N := 12) hx hb hts hiX3 hown hK hP 4 rfl rfl 5 (by decide) (hts (.fieldLink RX3 34 "HeardSecond$Trial" "wonBy0" "I") (by decide +kernel)) (fun _ h9 => h9) rfl dX3_takeFrom_47 ?_
  refine va_put (D := D) (ci := 3) (v := .int w01) (ty := .int) (C := RX3) (T := TX3) (N := 12) hx hb hts hiX3 tyX3 tyX3_ok nmX3 hown hK hP hD hS 0 rfl rfl 5 (by decide) (hts (.fieldLink RX3 34 "HeardSecond$Trial" "wonBy0" "I") (by decide +kernel)) (fun _ h9 => h9) rfl (by decide +kernel) (rfl) rfl (Nat.le_of_ble_eq_true rfl) dX3_takeFrom_50 (fun H locs hP hD hS => ?_)
  have hP : va_P D vwCl [(t0, .inr (3, [.int la1, .int be1, .int ou1, .int si1, .int en1, .int w01, .int w1, .int br, .ref wd, .int td, .ref tw, .ref ts])), (wd, .inl (cA, 5, .inl fw)), (tw, .inl (cA, 8, .inl ftw)), (ts, .inl (cA, 8, .inl fts)), (t1, .inr (3, [.int la1, .int be1, .int ou1, .int si1, .int en1, .int w01, .int w11, .int br1, .ref wd1, .int td1, .ref tw1, .ref ts1])), (wd1, .inl (cA, 5, .inl fw1)), (tw1, .inl (cA, 8, .inl ftw1)), (ts1, .inl (cA, 8, .inl fts1))] H := hP
  have hD : va_D A [(t0, .inr (3, [.int la1, .int be1, .int ou1, .int si1, .int en1, .int w01, .int w1, .int br, .ref wd, .int td, .ref tw, .ref ts])), (wd, .inl (cA, 5, .inl fw)), (tw, .inl (cA, 8, .inl ftw)), (ts, .inl (cA, 8, .inl fts)), (t1, .inr (3, [.int la1, .int be1, .int ou1, .int si1, .int en1, .int w01, .int w11, .int br1, .ref wd1, .int td1, .ref tw1, .ref ts1])), (wd1, .inl (cA, 5, .inl fw1)), (tw1, .inl (cA, 8, .inl ftw1)), (ts1, .inl (cA, 8, .inl fts1))] := hD
  refine lv_aload_n hx hb dX3_takeFrom_53 rfl (lv_at hl 0 rfl) ?_
  refine lv_aload_n hx hb dX3_takeFrom_54 rfl (lv_at hl 1 rfl) ?_
  refine va_get (D := D) (ci := 3) (v := .int w11) (C := RX3) (T := TX3) (N := 12) hx hb hts hiX3 hown hK hP 4 rfl rfl 6 (by decide) (hts (.fieldLink RX3 37 "HeardSecond$Trial" "wonBy1" "I") (by decide +kernel)) (fun _ h9 => h9) rfl dX3_takeFrom_55 ?_
  refine va_put (D := D) (ci := 3) (v := .int w11) (ty := .int) (C := RX3) (T := TX3) (N := 12) hx hb hts hiX3 tyX3 tyX3_ok nmX3 hown hK hP hD hS 0 rfl rfl 6 (by decide) (hts (.fieldLink RX3 37 "HeardSecond$Trial" "wonBy1" "I") (by decide +kernel)) (fun _ h9 => h9) rfl (by decide +kernel) (rfl) rfl (Nat.le_of_ble_eq_true rfl) dX3_takeFrom_58 (fun H locs hP hD hS => ?_)
  have hP : va_P D vwCl [(t0, .inr (3, [.int la1, .int be1, .int ou1, .int si1, .int en1, .int w01, .int w11, .int br, .ref wd, .int td, .ref tw, .ref ts])), (wd, .inl (cA, 5, .inl fw)), (tw, .inl (cA, 8, .inl ftw)), (ts, .inl (cA, 8, .inl fts)), (t1, .inr (3, [.int la1, .int be1, .int ou1, .int si1, .int en1, .int w01, .int w11, .int br1, .ref wd1, .int td1, .ref tw1, .ref ts1])), (wd1, .inl (cA, 5, .inl fw1)), (tw1, .inl (cA, 8, .inl ftw1)), (ts1, .inl (cA, 8, .inl fts1))] H := hP
  have hD : va_D A [(t0, .inr (3, [.int la1, .int be1, .int ou1, .int si1, .int en1, .int w01, .int w11, .int br, .ref wd, .int td, .ref tw, .ref ts])), (wd, .inl (cA, 5, .inl fw)), (tw, .inl (cA, 8, .inl ftw)), (ts, .inl (cA, 8, .inl fts)), (t1, .inr (3, [.int la1, .int be1, .int ou1, .int si1, .int en1, .int w01, .int w11, .int br1, .ref wd1, .int td1, .ref tw1, .ref ts1])), (wd1, .inl (cA, 5, .inl fw1)), (tw1, .inl (cA, 8, .inl ftw1)), (ts1, .inl (cA, 8, .inl fts1))] := hD
  refine lv_aload_n hx hb dX3_takeFrom_61 rfl (lv_at hl 0 rfl) ?_
  refine lv_aload_n hx hb dX3_takeFrom_62 rfl (lv_at hl 1 rfl) ?_
  refine va_get (D := D) (ci := 3) (v := .int br1) (C := RX3) (T := TX3) (N := 12) hx hb hts hiX3 hown hK hP 4 rfl rfl 7 (by decide) (hts (.fieldLink RX3 40 "HeardSecond$Trial" "breaths" "I") (by decide +kernel)) (fun _ h9 => h9) rfl dX3_takeFrom_63 ?_
  refine va_put (D := D) (ci := 3) (v := .int br1) (ty := .int) (C := RX3) (T := TX3) (N := 12) hx hb hts hiX3 tyX3 tyX3_ok nmX3 hown hK hP hD hS 0 rfl rfl 7 (by decide) (hts (.fieldLink RX3 40 "HeardSecond$Trial" "breaths" "I") (by decide +kernel)) (fun _ h9 => h9) rfl (by decide +kernel) (rfl) rfl (Nat.le_of_ble_eq_true rfl) dX3_takeFrom_66 (fun H locs hP hD hS => ?_)
  have hP : va_P D vwCl [(t0, .inr (3, [.int la1, .int be1, .int ou1, .int si1, .int en1, .int w01, .int w11, .int br1, .ref wd, .int td, .ref tw, .ref ts])), (wd, .inl (cA, 5, .inl fw)), (tw, .inl (cA, 8, .inl ftw)), (ts, .inl (cA, 8, .inl fts)), (t1, .inr (3, [.int la1, .int be1, .int ou1, .int si1, .int en1, .int w01, .int w11, .int br1, .ref wd1, .int td1, .ref tw1, .ref ts1])), (wd1, .inl (cA, 5, .inl fw1)), (tw1, .inl (cA, 8, .inl ftw1)), (ts1, .inl (cA, 8, .inl fts1))] H := hP
  have hD : va_D A [(t0, .inr (3, [.int la1, .int be1, .int ou1, .int si1, .int en1, .int w01, .int w11, .int br1, .ref wd, .int td, .ref tw, .ref ts])), (wd, .inl (cA, 5, .inl fw)), (tw, .inl (cA, 8, .inl ftw)), (ts, .inl (cA, 8, .inl fts)), (t1, .inr (3, [.int la1, .int be1, .int ou1, .int si1, .int en1, .int w01, .int w11, .int br1, .ref wd1, .int td1, .ref tw1, .ref ts1])), (wd1, .inl (cA, 5, .inl fw1)), (tw1, .inl (cA, 8, .inl ftw1)), (ts1, .inl (cA, 8, .inl fts1))] := hD
  refine lv_aload_n hx hb dX3_takeFrom_69 rfl (lv_at hl 0 rfl) ?_
  refine lv_aload_n hx hb dX3_takeFrom_70 rfl (lv_at hl 1 rfl) ?_
  refine va_get (D := D) (ci := 3) (v := .int td1) (C := RX3) (T := TX3) (N := 12) hx hb hts hiX3 hown hK hP 4 rfl rfl 9 (by decide) (hts (.fieldLink RX3 43 "HeardSecond$Trial" "told" "I") (by decide +kernel)) (fun _ h9 => h9) rfl dX3_takeFrom_71 ?_
  refine va_put (D := D) (ci := 3) (v := .int td1) (ty := .int) (C := RX3) (T := TX3) (N := 12) hx hb hts hiX3 tyX3 tyX3_ok nmX3 hown hK hP hD hS 0 rfl rfl 9 (by decide) (hts (.fieldLink RX3 43 "HeardSecond$Trial" "told" "I") (by decide +kernel)) (fun _ h9 => h9) rfl (by decide +kernel) (rfl) rfl (Nat.le_of_ble_eq_true rfl) dX3_takeFrom_74 (fun H locs hP hD hS => ?_)
  have hP : va_P D vwCl [(t0, .inr (3, [.int la1, .int be1, .int ou1, .int si1, .int en1, .int w01, .int w11, .int br1, .ref wd, .int td1, .ref tw, .ref ts])), (wd, .inl (cA, 5, .inl fw)), (tw, .inl (cA, 8, .inl ftw)), (ts, .inl (cA, 8, .inl fts)), (t1, .inr (3, [.int la1, .int be1, .int ou1, .int si1, .int en1, .int w01, .int w11, .int br1, .ref wd1, .int td1, .ref tw1, .ref ts1])), (wd1, .inl (cA, 5, .inl fw1)), (tw1, .inl (cA, 8, .inl ftw1)), (ts1, .inl (cA, 8, .inl fts1))] H := hP
  have hD : va_D A [(t0, .inr (3, [.int la1, .int be1, .int ou1, .int si1, .int en1, .int w01, .int w11, .int br1, .ref wd, .int td1, .ref tw, .ref ts])), (wd, .inl (cA, 5, .inl fw)), (tw, .inl (cA, 8, .inl ftw)), (ts, .inl (cA, 8, .inl fts)), (t1, .inr (3, [.int la1, .int be1, .int ou1, .int si1, .int en1, .int w01, .int w11, .int br1, .ref wd1, .int td1, .ref tw1, .ref ts1])), (wd1, .inl (cA, 5, .inl fw1)), (tw1, .inl (cA, 8, .inl ftw1)), (ts1, .inl (cA, 8, .inl fts1))] := hD
  refine lv_aload_n hx hb dX3_takeFrom_77 rfl (lv_at hl 1 rfl) ?_
  refine va_get (D := D) (ci := 3) (v := .ref wd1) (C := RX3) (T := TX3) (N := 12) hx hb hts hiX3 hown hK hP 4 rfl rfl 8 (by decide) (hts (.fieldLink RX3 18 "HeardSecond$Trial" "words" "[I") (by decide +kernel)) (fun _ h9 => h9) rfl dX3_takeFrom_78 ?_
  refine lv_aload_n hx hb dX3_takeFrom_81 rfl (lv_at hl 0 rfl) ?_
  refine va_get (D := D) (ci := 3) (v := .ref wd) (C := RX3) (T := TX3) (N := 12) hx hb hts hiX3 hown hK hP 0 rfl rfl 8 (by decide) (hts (.fieldLink RX3 18 "HeardSecond$Trial" "words" "[I") (by decide +kernel)) (fun _ h9 => h9) rfl dX3_takeFrom_82 ?_
  refine z_bwv (wr := [(t0, .inr (3, [.int la1, .int be1, .int ou1, .int si1, .int en1, .int w01, .int w11, .int br1, .ref wd, .int td1, .ref tw, .ref ts])), (tw, .inl (cA, 8, .inl ftw)), (ts, .inl (cA, 8, .inl fts)), (t1, .inr (3, [.int la1, .int be1, .int ou1, .int si1, .int en1, .int w01, .int w11, .int br1, .ref wd1, .int td1, .ref tw1, .ref ts1])), (tw1, .inl (cA, 8, .inl ftw1)), (ts1, .inl (cA, 8, .inl fts1))]) (ws' := fun (_ : Unit) => [(t0, .inr (3, [.int la1, .int be1, .int ou1, .int si1, .int en1, .int w01, .int w11, .int br1, .ref wd, .int td1, .ref tw, .ref ts])), (wd, .inl (cA, 5, .inl fw1)), (tw, .inl (cA, 8, .inl ftw)), (ts, .inl (cA, 8, .inl fts)), (t1, .inr (3, [.int la1, .int be1, .int ou1, .int si1, .int en1, .int w01, .int w11, .int br1, .ref wd1, .int td1, .ref tw1, .ref ts1])), (wd1, .inl (cA, 5, .inl fw1)), (tw1, .inl (cA, 8, .inl ftw1)), (ts1, .inl (cA, 8, .inl fts1))]) (z_runSN (As := [.ref wd1, .ref wd]) (rest := []) ⟨hx, hb, hml, hown, hts⟩ (c_X4_copy (n := 5) (q := wd1) (q2 := wd) (f := fw1) (f2 := fw) (by first | assumption | omega) _) (va_cnB (own := RX3) (host := "HeardSecond") (index := 56) 2 hts ggX3_takeFrom_X4_copy rfl rfl rfl (hN.get 33 rfl) (hts (.initialized RX4) (by decide +kernel)) (by decide +kernel) ⟨Nat.le_of_ble_eq_true rfl, Nat.le_of_ble_eq_true rfl⟩) (hts (.static yX4_copy) (by decide +kernel)) hK hP hD hN [5, 1] rfl rfl rfl hl.1 rfl (Nat.le_of_ble_eq_true rfl) dX3_takeFrom_85 ⟨Nat.zero_le _, Nat.zero_le _⟩) hP hD hS hA [5, 1] [0, 2, 3, 4, 6, 7] [0, 7, 1, 2, 3, 6, 4, 5] rfl rfl rfl (by decide) rfl (fun _ => rfl) (fun u3 H locs hw1 hP hD hS => ?_)
  have hP : va_P D vwCl [(t0, .inr (3, [.int la1, .int be1, .int ou1, .int si1, .int en1, .int w01, .int w11, .int br1, .ref wd, .int td1, .ref tw, .ref ts])), (wd, .inl (cA, 5, .inl fw1)), (tw, .inl (cA, 8, .inl ftw)), (ts, .inl (cA, 8, .inl fts)), (t1, .inr (3, [.int la1, .int be1, .int ou1, .int si1, .int en1, .int w01, .int w11, .int br1, .ref wd1, .int td1, .ref tw1, .ref ts1])), (wd1, .inl (cA, 5, .inl fw1)), (tw1, .inl (cA, 8, .inl ftw1)), (ts1, .inl (cA, 8, .inl fts1))] H := hP
  have hD : va_D A [(t0, .inr (3, [.int la1, .int be1, .int ou1, .int si1, .int en1, .int w01, .int w11, .int br1, .ref wd, .int td1, .ref tw, .ref ts])), (wd, .inl (cA, 5, .inl fw1)), (tw, .inl (cA, 8, .inl ftw)), (ts, .inl (cA, 8, .inl fts)), (t1, .inr (3, [.int la1, .int be1, .int ou1, .int si1, .int en1, .int w01, .int w11, .int br1, .ref wd1, .int td1, .ref tw1, .ref ts1])), (wd1, .inl (cA, 5, .inl fw1)), (tw1, .inl (cA, 8, .inl ftw1)), (ts1, .inl (cA, 8, .inl fts1))] := hD
  refine lv_aload_n hx hb dX3_takeFrom_88 rfl (lv_at hl 1 rfl) ?_
  refine va_get (D := D) (ci := 3) (v := .ref tw1) (C := RX3) (T := TX3) (N := 12) hx hb hts hiX3 hown hK hP 4 rfl rfl 10 (by decide) (hts (.fieldLink RX3 22 "HeardSecond$Trial" "toldWords" "[I") (by decide +kernel)) (fun _ h9 => h9) rfl dX3_takeFrom_89 ?_
  refine lv_aload_n hx hb dX3_takeFrom_92 rfl (lv_at hl 0 rfl) ?_
  refine va_get (D := D) (ci := 3) (v := .ref tw) (C := RX3) (T := TX3) (N := 12) hx hb hts hiX3 hown hK hP 0 rfl rfl 10 (by decide) (hts (.fieldLink RX3 22 "HeardSecond$Trial" "toldWords" "[I") (by decide +kernel)) (fun _ h9 => h9) rfl dX3_takeFrom_93 ?_
  refine z_bwv (wr := [(t0, .inr (3, [.int la1, .int be1, .int ou1, .int si1, .int en1, .int w01, .int w11, .int br1, .ref wd, .int td1, .ref tw, .ref ts])), (wd, .inl (cA, 5, .inl fw1)), (ts, .inl (cA, 8, .inl fts)), (t1, .inr (3, [.int la1, .int be1, .int ou1, .int si1, .int en1, .int w01, .int w11, .int br1, .ref wd1, .int td1, .ref tw1, .ref ts1])), (wd1, .inl (cA, 5, .inl fw1)), (ts1, .inl (cA, 8, .inl fts1))]) (ws' := fun (_ : Unit) => [(t0, .inr (3, [.int la1, .int be1, .int ou1, .int si1, .int en1, .int w01, .int w11, .int br1, .ref wd, .int td1, .ref tw, .ref ts])), (wd, .inl (cA, 5, .inl fw1)), (tw, .inl (cA, 8, .inl ftw1)), (ts, .inl (cA, 8, .inl fts)), (t1, .inr (3, [.int la1, .int be1, .int ou1, .int si1, .int en1, .int w01, .int w11, .int br1, .ref wd1, .int td1, .ref tw1, .ref ts1])), (wd1, .inl (cA, 5, .inl fw1)), (tw1, .inl (cA, 8, .inl ftw1)), (ts1, .inl (cA, 8, .inl fts1))]) (z_runSN (As := [.ref tw1, .ref tw]) (rest := []) ⟨hx, hb, hml, hown, hts⟩ (c_X4_copy (n := 8) (q := tw1) (q2 := tw) (f := ftw1) (f2 := ftw) (by first | assumption | omega) _) (va_cnB (own := RX3) (host := "HeardSecond") (index := 56) 2 hts ggX3_takeFrom_X4_copy rfl rfl rfl (hN.get 33 rfl) (hts (.initialized RX4) (by decide +kernel)) (by decide +kernel) ⟨Nat.le_of_ble_eq_true rfl, Nat.le_of_ble_eq_true rfl⟩) (hts (.static yX4_copy) (by decide +kernel)) hK hP hD hN [6, 2] rfl rfl rfl hl.1 rfl (Nat.le_of_ble_eq_true rfl) dX3_takeFrom_96 ⟨Nat.zero_le _, Nat.zero_le _⟩) hP hD hS hA [6, 2] [0, 1, 3, 4, 5, 7] [0, 1, 7, 2, 3, 4, 6, 5] rfl rfl rfl (by decide) rfl (fun _ => rfl) (fun u6 H locs hw4 hP hD hS => ?_)
  have hP : va_P D vwCl [(t0, .inr (3, [.int la1, .int be1, .int ou1, .int si1, .int en1, .int w01, .int w11, .int br1, .ref wd, .int td1, .ref tw, .ref ts])), (wd, .inl (cA, 5, .inl fw1)), (tw, .inl (cA, 8, .inl ftw1)), (ts, .inl (cA, 8, .inl fts)), (t1, .inr (3, [.int la1, .int be1, .int ou1, .int si1, .int en1, .int w01, .int w11, .int br1, .ref wd1, .int td1, .ref tw1, .ref ts1])), (wd1, .inl (cA, 5, .inl fw1)), (tw1, .inl (cA, 8, .inl ftw1)), (ts1, .inl (cA, 8, .inl fts1))] H := hP
  have hD : va_D A [(t0, .inr (3, [.int la1, .int be1, .int ou1, .int si1, .int en1, .int w01, .int w11, .int br1, .ref wd, .int td1, .ref tw, .ref ts])), (wd, .inl (cA, 5, .inl fw1)), (tw, .inl (cA, 8, .inl ftw1)), (ts, .inl (cA, 8, .inl fts)), (t1, .inr (3, [.int la1, .int be1, .int ou1, .int si1, .int en1, .int w01, .int w11, .int br1, .ref wd1, .int td1, .ref tw1, .ref ts1])), (wd1, .inl (cA, 5, .inl fw1)), (tw1, .inl (cA, 8, .inl ftw1)), (ts1, .inl (cA, 8, .inl fts1))] := hD
  refine lv_aload_n hx hb dX3_takeFrom_99 rfl (lv_at hl 1 rfl) ?_
  refine va_get (D := D) (ci := 3) (v := .ref ts1) (C := RX3) (T := TX3) (N := 12) hx hb hts hiX3 hown hK hP 4 rfl rfl 11 (by decide) (hts (.fieldLink RX3 25 "HeardSecond$Trial" "toldSeats" "[I") (by decide +kernel)) (fun _ h9 => h9) rfl dX3_takeFrom_100 ?_
  refine lv_aload_n hx hb dX3_takeFrom_103 rfl (lv_at hl 0 rfl) ?_
  refine va_get (D := D) (ci := 3) (v := .ref ts) (C := RX3) (T := TX3) (N := 12) hx hb hts hiX3 hown hK hP 0 rfl rfl 11 (by decide) (hts (.fieldLink RX3 25 "HeardSecond$Trial" "toldSeats" "[I") (by decide +kernel)) (fun _ h9 => h9) rfl dX3_takeFrom_104 ?_
  refine z_bwv (wr := [(t0, .inr (3, [.int la1, .int be1, .int ou1, .int si1, .int en1, .int w01, .int w11, .int br1, .ref wd, .int td1, .ref tw, .ref ts])), (wd, .inl (cA, 5, .inl fw1)), (tw, .inl (cA, 8, .inl ftw1)), (t1, .inr (3, [.int la1, .int be1, .int ou1, .int si1, .int en1, .int w01, .int w11, .int br1, .ref wd1, .int td1, .ref tw1, .ref ts1])), (wd1, .inl (cA, 5, .inl fw1)), (tw1, .inl (cA, 8, .inl ftw1))]) (ws' := fun (_ : Unit) => [(t0, .inr (3, [.int la1, .int be1, .int ou1, .int si1, .int en1, .int w01, .int w11, .int br1, .ref wd, .int td1, .ref tw, .ref ts])), (wd, .inl (cA, 5, .inl fw1)), (tw, .inl (cA, 8, .inl ftw1)), (ts, .inl (cA, 8, .inl fts1)), (t1, .inr (3, [.int la1, .int be1, .int ou1, .int si1, .int en1, .int w01, .int w11, .int br1, .ref wd1, .int td1, .ref tw1, .ref ts1])), (wd1, .inl (cA, 5, .inl fw1)), (tw1, .inl (cA, 8, .inl ftw1)), (ts1, .inl (cA, 8, .inl fts1))]) (z_runSN (As := [.ref ts1, .ref ts]) (rest := []) ⟨hx, hb, hml, hown, hts⟩ (c_X4_copy (n := 8) (q := ts1) (q2 := ts) (f := fts1) (f2 := fts) (by first | assumption | omega) _) (va_cnB (own := RX3) (host := "HeardSecond") (index := 56) 2 hts ggX3_takeFrom_X4_copy rfl rfl rfl (hN.get 33 rfl) (hts (.initialized RX4) (by decide +kernel)) (by decide +kernel) ⟨Nat.le_of_ble_eq_true rfl, Nat.le_of_ble_eq_true rfl⟩) (hts (.static yX4_copy) (by decide +kernel)) hK hP hD hN [7, 3] rfl rfl rfl hl.1 rfl (Nat.le_of_ble_eq_true rfl) dX3_takeFrom_107 ⟨Nat.zero_le _, Nat.zero_le _⟩) hP hD hS hA [7, 3] [0, 1, 2, 4, 5, 6] [0, 1, 2, 7, 3, 4, 5, 6] rfl rfl rfl (by decide) rfl (fun _ => rfl) (fun u9 H locs hw7 hP hD hS => ?_)
  have hP : va_P D vwCl [(t0, .inr (3, [.int la1, .int be1, .int ou1, .int si1, .int en1, .int w01, .int w11, .int br1, .ref wd, .int td1, .ref tw, .ref ts])), (wd, .inl (cA, 5, .inl fw1)), (tw, .inl (cA, 8, .inl ftw1)), (ts, .inl (cA, 8, .inl fts1)), (t1, .inr (3, [.int la1, .int be1, .int ou1, .int si1, .int en1, .int w01, .int w11, .int br1, .ref wd1, .int td1, .ref tw1, .ref ts1])), (wd1, .inl (cA, 5, .inl fw1)), (tw1, .inl (cA, 8, .inl ftw1)), (ts1, .inl (cA, 8, .inl fts1))] H := hP
  have hD : va_D A [(t0, .inr (3, [.int la1, .int be1, .int ou1, .int si1, .int en1, .int w01, .int w11, .int br1, .ref wd, .int td1, .ref tw, .ref ts])), (wd, .inl (cA, 5, .inl fw1)), (tw, .inl (cA, 8, .inl ftw1)), (ts, .inl (cA, 8, .inl fts1)), (t1, .inr (3, [.int la1, .int be1, .int ou1, .int si1, .int en1, .int w01, .int w11, .int br1, .ref wd1, .int td1, .ref tw1, .ref ts1])), (wd1, .inl (cA, 5, .inl fw1)), (tw1, .inl (cA, 8, .inl ftw1)), (ts1, .inl (cA, 8, .inl fts1))] := hD
  -- path 1
  exact hret () _ _ _ _ dX3_takeFrom_110 (by trivial) hP hD hS
abbrev rm_c_X3_keepSilence : Room := { frames := 2, cells := 0, slots := 0, locals := 41 }
set_option maxHeartbeats 400000 in
set_option maxRecDepth 20000 in
theorem c_X3_keepSilence {l : Launch} {D : va_G} {cA : ClassId} {t0 : Nat} {wd : Nat} {tw : Nat} {ts : Nat} {la : Int32} {be : Int32} {ou : Int32} {si : Int32} {en : Int32} {w0 : Int32} {w1 : Int32} {br : Int32} {td : Int32} {fw : Nat → Int32} {b0 : Nat} {qk : Nat} {qs : Nat} {N : Nat} {pt : Int32} {sf : Nat → Int32} (h5 : N ≤ 5) : zMv l yX3_keepSilence wsX3_keepSilence rm_c_X3_keepSilence D cA [(t0, .inr (3, [.int la, .int be, .int ou, .int si, .int en, .int w0, .int w1, .int br, .ref wd, .int td, .ref tw, .ref ts])), (wd, .inl (cA, 5, .inl fw)), (b0, .inr (0, [.ref qk, .ref qs, .int (nI N), .int pt])), (qs, .inl (cA, 5, .inl sf))] [.ref t0, .ref b0] (fun (u : jT) => u = jQuiet N sf pt la be ou si en w0 w1 br fw) (fun (u : jT) => [(t0, .inr (3, [.int u.1, .int u.2.1, .int u.2.2.1, .int u.2.2.2.1, .int u.2.2.2.2.1, .int u.2.2.2.2.2.1, .int u.2.2.2.2.2.2.1, .int u.2.2.2.2.2.2.2.1, .ref wd, .int td, .ref tw, .ref ts])), (wd, .inl (cA, 5, .inl u.2.2.2.2.2.2.2.2)), (b0, .inr (0, [.ref qk, .ref qs, .int (nI N), .int pt])), (qs, .inl (cA, 5, .inl sf))]) := by
  refine z_enterv (cc := cX3_keepSilence) (maxL := 2) (by decide) rfl (Nat.le_of_ble_eq_true rfl) (fun p e s m args below meth c ls A H0 H locs Q hi_ hA hK hP hD hS hl hret => ?_)
  obtain ⟨hx, hb, hr, hml, hown, hts, hlocks, hN⟩ := hi_
  have hl : lv_has ls 2 [(0, .ref t0), (1, .ref b0)] := hl
  have hiX0 : ∀ w ∈ wsX00, w ∈ wsX3_keepSilence := by decide +kernel
  have hiX3 : ∀ w ∈ wsX30, w ∈ wsX3_keepSilence := by decide +kernel
  refine lv_aload_n hx hb dX3_keepSilence_0 rfl (lv_at hl 0 rfl) ?_
  refine lv_dup hx hb dX3_keepSilence_1 rfl ?_
  refine va_get (D := D) (ci := 3) (v := .int si) (C := RX3) (T := TX3) (N := 12) hx hb hts hiX3 hown hK hP 0 rfl rfl 3 (by decide) (hts (.fieldLink RX3 53 "HeardSecond$Trial" "silence" "I") (by decide +kernel)) (fun _ h9 => h9) rfl dX3_keepSilence_2 ?_
  refine lv_iconst (v := 1) hx hb dX3_keepSilence_5 (by decide) ?_
  refine lv_iadd hx hb dX3_keepSilence_6 ?_
  refine va_put (D := D) (ci := 3) (v := .int (si + 1)) (ty := .int) (C := RX3) (T := TX3) (N := 12) hx hb hts hiX3 tyX3 tyX3_ok nmX3 hown hK hP hD hS 0 rfl rfl 3 (by decide) (hts (.fieldLink RX3 53 "HeardSecond$Trial" "silence" "I") (by decide +kernel)) (fun _ h9 => h9) rfl (by decide +kernel) (rfl) rfl (Nat.le_of_ble_eq_true rfl) dX3_keepSilence_7 (fun H locs hP hD hS => ?_)
  have hP : va_P D vwCl [(t0, .inr (3, [.int la, .int be, .int ou, .int (si + 1), .int en, .int w0, .int w1, .int br, .ref wd, .int td, .ref tw, .ref ts])), (wd, .inl (cA, 5, .inl fw)), (b0, .inr (0, [.ref qk, .ref qs, .int (nI N), .int pt])), (qs, .inl (cA, 5, .inl sf))] H := hP
  have hD : va_D A [(t0, .inr (3, [.int la, .int be, .int ou, .int (si + 1), .int en, .int w0, .int w1, .int br, .ref wd, .int td, .ref tw, .ref ts])), (wd, .inl (cA, 5, .inl fw)), (b0, .inr (0, [.ref qk, .ref qs, .int (nI N), .int pt])), (qs, .inl (cA, 5, .inl sf))] := hD
  refine lv_aload_n hx hb dX3_keepSilence_10 rfl (lv_at hl 1 rfl) ?_
  refine lv_ifnull hx hb dX3_keepSilence_11 ?_
  refine lv_aload_n hx hb dX3_keepSilence_14 rfl (lv_at hl 0 rfl) ?_
  refine va_get (D := D) (ci := 3) (v := .int (si + 1)) (C := RX3) (T := TX3) (N := 12) hx hb hts hiX3 hown hK hP 0 rfl rfl 3 (by decide) (hts (.fieldLink RX3 53 "HeardSecond$Trial" "silence" "I") (by decide +kernel)) (fun _ h9 => h9) rfl dX3_keepSilence_15 ?_
  refine lv_aload_n hx hb dX3_keepSilence_18 rfl (lv_at hl 1 rfl) ?_
  refine va_getN (D := D) (ci := 0) (v := .int pt) (C := RX0) (T := TX0) (N := 4) hx hb hts hiX0 hown hK hP 2 rfl rfl 3 (by decide) (hN.getb 3 rfl) (fun _ h9 => h9) rfl dX3_keepSilence_19 ?_
  refine lv_icmp_lt (tgt := 37) hx hb dX3_keepSilence_22 (by decide) (fun c22_1 => ?_) (fun c22_1 => ?_)
  · skip
    -- path 1
    exact hret (la, (be, (ou, (si + 1, (en, (w0, (w1, (br, fw)))))))) _ _ _ _ dX3_keepSilence_37 (by clear hret hl hS hD hP hK hA hN hts hx hb hr hml hown hlocks hiX0 hiX3; simp_all [jQuiet, Int32.not_le, Int32.not_lt]) hP hD hS
  · skip
    refine lv_aload_n hx hb dX3_keepSilence_25 rfl (lv_at hl 0 rfl) ?_
    refine lv_aload_n hx hb dX3_keepSilence_26 rfl (lv_at hl 1 rfl) ?_
    refine lv_aload_n hx hb dX3_keepSilence_27 rfl (lv_at hl 0 rfl) ?_
    refine va_get (D := D) (ci := 3) (v := .int be) (C := RX3) (T := TX3) (N := 12) hx hb hts hiX3 hown hK hP 0 rfl rfl 1 (by decide) (hts (.fieldLink RX3 15 "HeardSecond$Trial" "believed" "I") (by decide +kernel)) (fun _ h9 => h9) rfl dX3_keepSilence_28 ?_
    refine z_bri (z_runV (As := [.int be]) (rest := [.ref t0]) (ci := 0) ⟨hx, hb, hml, hown, hts⟩ (c_X0_sideAt (b0 := b0) (qk := qk) (qs := qs) (N := N) (pt := pt) (sf := sf) (x := be) (by first | assumption | omega) _) (cwV 1 hts gX3_keepSilence_X0_sideAt rfl rfl rfl (by decide +kernel) ⟨Nat.le_of_ble_eq_true rfl, Nat.le_of_ble_eq_true rfl⟩) hK hP hD hN [2, 3] rfl rfl rfl rfl rfl hl.1 rfl (Nat.le_of_ble_eq_true rfl) dX3_keepSilence_31 ⟨Nat.zero_le _, Nat.zero_le _⟩) hP hD hS hA [2, 3] rfl (fun r3 u4 H locs hw2 hP hS => ?_)
    obtain rfl : r3 = jKind N sf be := hw2
    refine z_bwv (wr := [(wd, .inl (cA, 5, .inl fw)), (b0, .inr (0, [.ref qk, .ref qs, .int (nI N), .int pt])), (qs, .inl (cA, 5, .inl sf))]) (ws' := fun (_ : Unit) => [(t0, .inr (3, [.int (-1), .int (-1), .int 0, .int 0, .int (en + 1), .int (jWon 0 (jKind N sf be) w0), .int (jWon 1 (jKind N sf be) w1), .int br, .ref wd, .int td, .ref tw, .ref ts])), (wd, .inl (cA, 5, .inl fw)), (b0, .inr (0, [.ref qk, .ref qs, .int (nI N), .int pt])), (qs, .inl (cA, 5, .inl sf))]) (z_runV (As := [.int (jKind N sf be)]) (rest := []) (ci := 3) ⟨hx, hb, hml, hown, hts⟩ (c_X3_endCase (t0 := t0) (wd := wd) (tw := tw) (ts := ts) (la := la) (be := be) (ou := ou) (si := si + 1) (en := en) (w0 := w0) (w1 := w1) (br := br) (td := td) (x := jKind N sf be) _) (cwV 1 hts gX3_keepSilence_X3_endCase rfl rfl rfl (by decide +kernel) ⟨Nat.le_of_ble_eq_true rfl, Nat.le_of_ble_eq_true rfl⟩) hK hP hD hN [0] rfl rfl rfl rfl rfl hl.1 rfl (Nat.le_of_ble_eq_true rfl) dX3_keepSilence_34 ⟨Nat.zero_le _, Nat.zero_le _⟩) hP hD hS hA [0] [1, 2, 3] [3, 0, 1, 2] rfl rfl rfl (by decide) rfl (fun _ => rfl) (fun u7 H locs hw5 hP hD hS => ?_)
    have hP : va_P D vwCl [(t0, .inr (3, [.int (-1), .int (-1), .int 0, .int 0, .int (en + 1), .int (jWon 0 (jKind N sf be) w0), .int (jWon 1 (jKind N sf be) w1), .int br, .ref wd, .int td, .ref tw, .ref ts])), (wd, .inl (cA, 5, .inl fw)), (b0, .inr (0, [.ref qk, .ref qs, .int (nI N), .int pt])), (qs, .inl (cA, 5, .inl sf))] H := hP
    have hD : va_D A [(t0, .inr (3, [.int (-1), .int (-1), .int 0, .int 0, .int (en + 1), .int (jWon 0 (jKind N sf be) w0), .int (jWon 1 (jKind N sf be) w1), .int br, .ref wd, .int td, .ref tw, .ref ts])), (wd, .inl (cA, 5, .inl fw)), (b0, .inr (0, [.ref qk, .ref qs, .int (nI N), .int pt])), (qs, .inl (cA, 5, .inl sf))] := hD
    -- path 2
    exact hret (-1, (-1, (0, (0, (en + 1, (jWon 0 (jKind N sf be) w0, (jWon 1 (jKind N sf be) w1, (br, fw)))))))) _ _ _ _ dX3_keepSilence_37 (by clear hret hl hS hD hP hK hA hN hts hx hb hr hml hown hlocks hiX0 hiX3; simp_all [jQuiet, Int32.not_le, Int32.not_lt]) hP hD hS
abbrev rm_c_X3_speak : Room := { frames := 2, cells := 0, slots := 0, locals := 44 }
set_option maxHeartbeats 400000 in
set_option maxRecDepth 20000 in
theorem c_X3_speak {l : Launch} {D : va_G} {cA : ClassId} {t0 : Nat} {wd : Nat} {tw : Nat} {ts : Nat} {la : Int32} {be : Int32} {ou : Int32} {si : Int32} {en : Int32} {w0 : Int32} {w1 : Int32} {br : Int32} {td : Int32} {fw : Nat → Int32} {b0 : Nat} {qk : Nat} {qs : Nat} {N : Nat} {pt : Int32} {kf : Nat → Int32} {x : Int32} (h5 : N ≤ 5) : zMv l yX3_speak wsX3_speak rm_c_X3_speak D cA [(t0, .inr (3, [.int la, .int be, .int ou, .int si, .int en, .int w0, .int w1, .int br, .ref wd, .int td, .ref tw, .ref ts])), (wd, .inl (cA, 5, .inl fw)), (b0, .inr (0, [.ref qk, .ref qs, .int (nI N), .int pt])), (qk, .inl (cA, 5, .inl kf))] [.ref t0, .ref b0, .int x] (fun (u : Int32 × Int32 × (Nat → Int32)) => u = jSpeak N kf x la be fw) (fun (u : Int32 × Int32 × (Nat → Int32)) => [(t0, .inr (3, [.int u.1, .int u.2.1, .int ou, .int si, .int en, .int w0, .int w1, .int br, .ref wd, .int td, .ref tw, .ref ts])), (wd, .inl (cA, 5, .inl u.2.2)), (b0, .inr (0, [.ref qk, .ref qs, .int (nI N), .int pt])), (qk, .inl (cA, 5, .inl kf))]) := by
  refine z_enterv (cc := cX3_speak) (maxL := 3) (by decide) rfl (Nat.le_of_ble_eq_true rfl) (fun p e s m args below meth c ls A H0 H locs Q hi_ hA hK hP hD hS hl hret => ?_)
  obtain ⟨hx, hb, hr, hml, hown, hts, hlocks, hN⟩ := hi_
  have hl : lv_has ls 3 [(0, .ref t0), (1, .ref b0), (2, .int x)] := hl
  have hiX3 : ∀ w ∈ wsX30, w ∈ wsX3_speak := by decide +kernel
  refine lv_aload_n hx hb dX3_speak_0 rfl (lv_at hl 0 rfl) ?_
  refine va_get (D := D) (ci := 3) (v := .ref wd) (C := RX3) (T := TX3) (N := 12) hx hb hts hiX3 hown hK hP 0 rfl rfl 8 (by decide) (hts (.fieldLink RX3 18 "HeardSecond$Trial" "words" "[I") (by decide +kernel)) (fun _ h9 => h9) rfl dX3_speak_1 ?_
  refine lv_iload_n hx hb dX3_speak_4 rfl (lv_at hl 2 rfl) ?_
  refine lv_aload_n hx hb dX3_speak_5 rfl (lv_at hl 0 rfl) ?_
  refine va_get (D := D) (ci := 3) (v := .ref wd) (C := RX3) (T := TX3) (N := 12) hx hb hts hiX3 hown hK hP 0 rfl rfl 8 (by decide) (hts (.fieldLink RX3 18 "HeardSecond$Trial" "words" "[I") (by decide +kernel)) (fun _ h9 => h9) rfl dX3_speak_6 ?_
  refine lv_iload_n hx hb dX3_speak_9 rfl (lv_at hl 2 rfl) ?_
  refine z_bri (z_runSN (As := [.ref wd, .int x]) (rest := [.int x, .ref wd]) ⟨hx, hb, hml, hown, hts⟩ (c_X4_at (n := 5) (q := wd) (f := fw) (x := x) (by first | assumption | omega) _) (va_cnB (own := RX3) (host := "HeardSecond") (index := 78) 2 hts ggX3_speak_X4_at rfl rfl rfl (hN.get 30 rfl) (hts (.initialized RX4) (by decide +kernel)) (by decide +kernel) ⟨Nat.le_of_ble_eq_true rfl, Nat.le_of_ble_eq_true rfl⟩) (hts (.static yX4_at) (by decide +kernel)) hK hP hD hN [1] rfl rfl rfl hl.1 rfl (Nat.le_of_ble_eq_true rfl) dX3_speak_10 ⟨Nat.zero_le _, Nat.zero_le _⟩) hP hD hS hA [1] rfl (fun r2 u3 H locs hw1 hP hS => ?_)
  obtain rfl : r2 = jAt 5 fw x := hw1
  refine lv_iconst (v := 1) hx hb dX3_speak_13 (by decide) ?_
  refine lv_iadd hx hb dX3_speak_14 ?_
  refine z_bwv (wr := [(t0, .inr (3, [.int la, .int be, .int ou, .int si, .int en, .int w0, .int w1, .int br, .ref wd, .int td, .ref tw, .ref ts])), (b0, .inr (0, [.ref qk, .ref qs, .int (nI N), .int pt])), (qk, .inl (cA, 5, .inl kf))]) (ws' := fun (_ : Unit) => [(t0, .inr (3, [.int la, .int be, .int ou, .int si, .int en, .int w0, .int w1, .int br, .ref wd, .int td, .ref tw, .ref ts])), (wd, .inl (cA, 5, .inl (jPut 5 fw x ((jAt 5 fw x) + 1)))), (b0, .inr (0, [.ref qk, .ref qs, .int (nI N), .int pt])), (qk, .inl (cA, 5, .inl kf))]) (z_runSN (As := [.ref wd, .int x, .int ((jAt 5 fw x) + 1)]) (rest := []) ⟨hx, hb, hml, hown, hts⟩ (c_X4_put (n := 5) (q := wd) (f := fw) (x := x) (v := (jAt 5 fw x) + 1) (by first | assumption | omega) _) (va_cnB (own := RX3) (host := "HeardSecond") (index := 82) 3 hts ggX3_speak_X4_put rfl rfl rfl (hN.get 31 rfl) (hts (.initialized RX4) (by decide +kernel)) (by decide +kernel) ⟨Nat.le_of_ble_eq_true rfl, Nat.le_of_ble_eq_true rfl⟩) (hts (.static yX4_put) (by decide +kernel)) hK hP hD hN [1] rfl rfl rfl hl.1 rfl (Nat.le_of_ble_eq_true rfl) dX3_speak_15 ⟨Nat.zero_le _, Nat.zero_le _⟩) hP hD hS hA [1] [0, 2, 3] [0, 3, 1, 2] rfl rfl rfl (by decide) rfl (fun _ => rfl) (fun u6 H locs hw4 hP hD hS => ?_)
  have hP : va_P D vwCl [(t0, .inr (3, [.int la, .int be, .int ou, .int si, .int en, .int w0, .int w1, .int br, .ref wd, .int td, .ref tw, .ref ts])), (wd, .inl (cA, 5, .inl (jPut 5 fw x ((jAt 5 fw x) + 1)))), (b0, .inr (0, [.ref qk, .ref qs, .int (nI N), .int pt])), (qk, .inl (cA, 5, .inl kf))] H := hP
  have hD : va_D A [(t0, .inr (3, [.int la, .int be, .int ou, .int si, .int en, .int w0, .int w1, .int br, .ref wd, .int td, .ref tw, .ref ts])), (wd, .inl (cA, 5, .inl (jPut 5 fw x ((jAt 5 fw x) + 1)))), (b0, .inr (0, [.ref qk, .ref qs, .int (nI N), .int pt])), (qk, .inl (cA, 5, .inl kf))] := hD
  refine lv_aload_n hx hb dX3_speak_18 rfl (lv_at hl 1 rfl) ?_
  refine lv_ifnull hx hb dX3_speak_19 ?_
  refine lv_iload_n hx hb dX3_speak_22 rfl (lv_at hl 2 rfl) ?_
  refine lv_aload_n hx hb dX3_speak_23 rfl (lv_at hl 0 rfl) ?_
  refine va_get (D := D) (ci := 3) (v := .int la) (C := RX3) (T := TX3) (N := 12) hx hb hts hiX3 hown hK hP 0 rfl rfl 0 (by decide) (hts (.fieldLink RX3 9 "HeardSecond$Trial" "last" "I") (by decide +kernel)) (fun _ h9 => h9) rfl dX3_speak_24 ?_
  refine lv_icmp_eq (tgt := 52) hx hb dX3_speak_27 (by decide) (fun c27_7 => ?_) (fun c27_7 => ?_)
  · skip
    -- path 1
    exact hret (la, (be, jPut 5 fw x ((jAt 5 fw x) + 1))) _ _ _ _ dX3_speak_52 (by clear hret hl hS hD hP hK hA hN hts hx hb hr hml hown hlocks hiX3; simp_all [jSpeak]) hP hD hS
  · skip
    refine lv_aload_n hx hb dX3_speak_30 rfl (lv_at hl 0 rfl) ?_
    refine lv_aload_n hx hb dX3_speak_31 rfl (lv_at hl 1 rfl) ?_
    refine lv_iload_n hx hb dX3_speak_32 rfl (lv_at hl 2 rfl) ?_
    refine lv_aload_n hx hb dX3_speak_33 rfl (lv_at hl 0 rfl) ?_
    refine va_get (D := D) (ci := 3) (v := .int la) (C := RX3) (T := TX3) (N := 12) hx hb hts hiX3 hown hK hP 0 rfl rfl 0 (by decide) (hts (.fieldLink RX3 9 "HeardSecond$Trial" "last" "I") (by decide +kernel)) (fun _ h9 => h9) rfl dX3_speak_34 ?_
    refine z_bri (z_runV (As := [.int x, .int la]) (rest := [.ref t0]) (ci := 0) ⟨hx, hb, hml, hown, hts⟩ (c_X0_believedBehind (b0 := b0) (qk := qk) (qs := qs) (N := N) (pt := pt) (kf := kf) (x := x) (last := la) (by first | assumption | omega) _) (cwV 2 hts gX3_speak_X0_believedBehind rfl rfl rfl (by decide +kernel) ⟨Nat.le_of_ble_eq_true rfl, Nat.le_of_ble_eq_true rfl⟩) hK hP hD hN [2, 3] rfl rfl rfl rfl rfl hl.1 rfl (Nat.le_of_ble_eq_true rfl) dX3_speak_37 ⟨Nat.zero_le _, Nat.zero_le _⟩) hP hD hS hA [2, 3] rfl (fun r9 u10 H locs hw8 hP hS => ?_)
    obtain rfl : r9 = jBel N kf x la := hw8
    refine va_put (D := D) (ci := 3) (v := .int (jBel N kf x la)) (ty := .int) (C := RX3) (T := TX3) (N := 12) hx hb hts hiX3 tyX3 tyX3_ok nmX3 hown hK hP hD hS 0 rfl rfl 1 (by decide) (hts (.fieldLink RX3 15 "HeardSecond$Trial" "believed" "I") (by decide +kernel)) (fun _ h9 => h9) rfl (by decide +kernel) (rfl) rfl (Nat.le_of_ble_eq_true rfl) dX3_speak_40 (fun H locs hP hD hS => ?_)
    have hP : va_P D vwCl [(t0, .inr (3, [.int la, .int (jBel N kf x la), .int ou, .int si, .int en, .int w0, .int w1, .int br, .ref wd, .int td, .ref tw, .ref ts])), (wd, .inl (cA, 5, .inl (jPut 5 fw x ((jAt 5 fw x) + 1)))), (b0, .inr (0, [.ref qk, .ref qs, .int (nI N), .int pt])), (qk, .inl (cA, 5, .inl kf))] H := hP
    have hD : va_D A [(t0, .inr (3, [.int la, .int (jBel N kf x la), .int ou, .int si, .int en, .int w0, .int w1, .int br, .ref wd, .int td, .ref tw, .ref ts])), (wd, .inl (cA, 5, .inl (jPut 5 fw x ((jAt 5 fw x) + 1)))), (b0, .inr (0, [.ref qk, .ref qs, .int (nI N), .int pt])), (qk, .inl (cA, 5, .inl kf))] := hD
    refine lv_aload_n hx hb dX3_speak_43 rfl (lv_at hl 0 rfl) ?_
    refine lv_aload_n hx hb dX3_speak_44 rfl (lv_at hl 1 rfl) ?_
    refine lv_iload_n hx hb dX3_speak_45 rfl (lv_at hl 2 rfl) ?_
    refine z_bri (z_runV (As := [.int x]) (rest := [.ref t0]) (ci := 0) ⟨hx, hb, hml, hown, hts⟩ (c_X0_lastBehind (b0 := b0) (qk := qk) (qs := qs) (N := N) (pt := pt) (kf := kf) (x := x) (by first | assumption | omega) _) (cwV 1 hts gX3_speak_X0_lastBehind rfl rfl rfl (by decide +kernel) ⟨Nat.le_of_ble_eq_true rfl, Nat.le_of_ble_eq_true rfl⟩) hK hP hD hN [2, 3] rfl rfl rfl rfl rfl hl.1 rfl (Nat.le_of_ble_eq_true rfl) dX3_speak_46 ⟨Nat.zero_le _, Nat.zero_le _⟩) hP hD hS hA [2, 3] rfl (fun r12 u13 H locs hw11 hP hS => ?_)
    obtain rfl : r12 = jLast N kf x := hw11
    refine va_put (D := D) (ci := 3) (v := .int (jLast N kf x)) (ty := .int) (C := RX3) (T := TX3) (N := 12) hx hb hts hiX3 tyX3 tyX3_ok nmX3 hown hK hP hD hS 0 rfl rfl 0 (by decide) (hts (.fieldLink RX3 9 "HeardSecond$Trial" "last" "I") (by decide +kernel)) (fun _ h9 => h9) rfl (by decide +kernel) (rfl) rfl (Nat.le_of_ble_eq_true rfl) dX3_speak_49 (fun H locs hP hD hS => ?_)
    have hP : va_P D vwCl [(t0, .inr (3, [.int (jLast N kf x), .int (jBel N kf x la), .int ou, .int si, .int en, .int w0, .int w1, .int br, .ref wd, .int td, .ref tw, .ref ts])), (wd, .inl (cA, 5, .inl (jPut 5 fw x ((jAt 5 fw x) + 1)))), (b0, .inr (0, [.ref qk, .ref qs, .int (nI N), .int pt])), (qk, .inl (cA, 5, .inl kf))] H := hP
    have hD : va_D A [(t0, .inr (3, [.int (jLast N kf x), .int (jBel N kf x la), .int ou, .int si, .int en, .int w0, .int w1, .int br, .ref wd, .int td, .ref tw, .ref ts])), (wd, .inl (cA, 5, .inl (jPut 5 fw x ((jAt 5 fw x) + 1)))), (b0, .inr (0, [.ref qk, .ref qs, .int (nI N), .int pt])), (qk, .inl (cA, 5, .inl kf))] := hD
    -- path 2
    exact hret (jLast N kf x, (jBel N kf x la, jPut 5 fw x ((jAt 5 fw x) + 1))) _ _ _ _ dX3_speak_52 (by clear hret hl hS hD hP hK hA hN hts hx hb hr hml hown hlocks hiX3; simp_all [jSpeak]) hP hD hS
abbrev rm_c_X3_breathe : Room := { frames := 3, cells := 0, slots := 0, locals := 66 }
set_option maxHeartbeats 400000 in
set_option maxRecDepth 20000 in
theorem c_X3_breathe {l : Launch} {D : va_G} {cA : ClassId} {t0 : Nat} {wd : Nat} {tw : Nat} {ts : Nat} {la : Int32} {be : Int32} {ou : Int32} {si : Int32} {en : Int32} {w0 : Int32} {w1 : Int32} {br : Int32} {td : Int32} {fw : Nat → Int32} {b0 : Nat} {qk : Nat} {qs : Nat} {N : Nat} {pt : Int32} {kf : Nat → Int32} {sf : Nat → Int32} {who : Int32} (h5 : N ≤ 5) : zMi l yX3_breathe wsX3_breathe rm_c_X3_breathe D cA [(t0, .inr (3, [.int la, .int be, .int ou, .int si, .int en, .int w0, .int w1, .int br, .ref wd, .int td, .ref tw, .ref ts])), (wd, .inl (cA, 5, .inl fw)), (b0, .inr (0, [.ref qk, .ref qs, .int (nI N), .int pt])), (qk, .inl (cA, 5, .inl kf)), (qs, .inl (cA, 5, .inl sf))] [.ref t0, .ref b0, .int who] (fun (r : Int32) (u : jT) => r = (jBr N kf ou la who 5).1 ∧ u = jBreathe N kf sf pt who la be ou si en w0 w1 br fw) (fun (u : jT) => [(t0, .inr (3, [.int u.1, .int u.2.1, .int u.2.2.1, .int u.2.2.2.1, .int u.2.2.2.2.1, .int u.2.2.2.2.2.1, .int u.2.2.2.2.2.2.1, .int u.2.2.2.2.2.2.2.1, .ref wd, .int td, .ref tw, .ref ts])), (wd, .inl (cA, 5, .inl u.2.2.2.2.2.2.2.2)), (b0, .inr (0, [.ref qk, .ref qs, .int (nI N), .int pt])), (qk, .inl (cA, 5, .inl kf)), (qs, .inl (cA, 5, .inl sf))]) := by
  refine z_enteri (cc := cX3_breathe) (maxL := 7) (ty := .int) (by decide) rfl (Nat.le_of_ble_eq_true rfl) (fun p e s m args below meth c ls A H0 H locs Q hi_ hA hK hP hD hS hl hret => ?_)
  obtain ⟨hx, hb, hr, hml, hown, hts, hlocks, hN⟩ := hi_
  have hl : lv_has ls 7 [(0, .ref t0), (1, .ref b0), (2, .int who)] := hl
  have hiX3 : ∀ w ∈ wsX30, w ∈ wsX3_breathe := by decide +kernel
  refine lv_aload_n hx hb dX3_breathe_0 rfl (lv_at hl 1 rfl) ?_
  refine lv_ifnonnull (tgt := 6) hx hb dX3_breathe_1 (by decide) ?_
  refine lv_iconst (v := 0) hx hb dX3_breathe_6 (by decide) ?_
  refine lv_istore_n (lv' := [(3, .int 0), (0, .ref t0), (1, .ref b0), (2, .int who)]) hx hb dX3_breathe_7 rfl hl (by decide) rfl (fun ls hl => ?_)
  refine lv_iconst (v := 0) hx hb dX3_breathe_8 (by decide) ?_
  refine lv_istore (lv' := [(4, .int 0), (3, .int 0), (0, .ref t0), (1, .ref b0), (2, .int who)]) hx hb dX3_breathe_9 hl (by decide) rfl (fun ls hl => ?_)
  refine lv_iconst (v := (-1)) hx hb dX3_breathe_11 (by decide) ?_
  refine lv_istore (lv' := [(5, .int (-1)), (4, .int 0), (3, .int 0), (0, .ref t0), (1, .ref b0), (2, .int who)]) hx hb dX3_breathe_12 hl (by decide) rfl (fun ls hl => ?_)
  refine lv_iconst (v := nI 0) hx hb dX3_breathe_14 (by decide) ?_
  refine lv_istore (lv' := [(6, .int (nI 0)), (5, .int (-1)), (4, .int 0), (3, .int 0), (0, .ref t0), (1, .ref b0), (2, .int who)]) hx hb dX3_breathe_15 hl (by decide) rfl (fun ls hl => ?_)
  have L17 : ∀ (n_ : Nat) (i : Nat) (a : Int32) (b : Int32) (c_ : Int32) (hm_ : 6 ≤ i + n_) (hi : i ≤ 5) (hg : jBr N kf ou la who i = (a, b, c_)) (H : Heap) (locs : List Loc) (ls : Array Slot), va_P D vwCl [(t0, .inr (3, [.int la, .int be, .int ou, .int si, .int en, .int w0, .int w1, .int br, .ref wd, .int td, .ref tw, .ref ts])), (wd, .inl (cA, 5, .inl fw)), (b0, .inr (0, [.ref qk, .ref qs, .int (nI N), .int pt])), (qk, .inl (cA, 5, .inl kf)), (qs, .inl (cA, 5, .inl sf))] H → va_D A [(t0, .inr (3, [.int la, .int be, .int ou, .int si, .int en, .int w0, .int w1, .int br, .ref wd, .int td, .ref tw, .ref ts])), (wd, .inl (cA, 5, .inl fw)), (b0, .inr (0, [.ref qk, .ref qs, .int (nI N), .int pt])), (qk, .inl (cA, 5, .inl kf)), (qs, .inl (cA, 5, .inl sf))] → va_S A H0 H locs → lv_has ls 7 [(0, .ref t0), (1, .ref b0), (2, .int who), (3, .int a), (4, .int b), (5, .int c_), (6, .int (nI i))] → W p l e rm_c_X3_breathe s m args below meth c H locs 0 0 Q (F0 m 17 ls []) := by
    intro n_
    induction n_ with
    | zero =>
      intro i a b c_ hm_ hi hg
      exact absurd hm_ (by omega)
    | succ n_ ih_ =>
      intro i a b c_ hm_ hi hg H locs ls hP hD hS hl
      have ih1 := ih_
      clear ih_
      refine lv_iload hx hb dX3_breathe_17 (lv_at hl 6 rfl) ?_
      refine lv_iconst (v := 5) hx hb dX3_breathe_19 (by decide) ?_
      refine lv_icmp_ge (tgt := 71) hx hb dX3_breathe_20 (by decide) (fun c20_2 => ?_) (fun c20_2 => ?_)
      · skip
        have ht_ : i = 5 := by have := (nI_leI (a := 5) (by omega) (by omega)).mp c20_2; omega
        subst ht_
        refine lv_aload_n hx hb dX3_breathe_71 rfl (lv_at hl 0 rfl) ?_
        refine lv_dup hx hb dX3_breathe_72 rfl ?_
        refine va_get (D := D) (ci := 3) (v := .int br) (C := RX3) (T := TX3) (N := 12) hx hb hts hiX3 hown hK hP 0 rfl rfl 7 (by decide) (hts (.fieldLink RX3 40 "HeardSecond$Trial" "breaths" "I") (by decide +kernel)) (fun _ h9 => h9) rfl dX3_breathe_73 ?_
        refine lv_iconst (v := 1) hx hb dX3_breathe_76 (by decide) ?_
        refine lv_iadd hx hb dX3_breathe_77 ?_
        refine va_put (D := D) (ci := 3) (v := .int (br + 1)) (ty := .int) (C := RX3) (T := TX3) (N := 12) hx hb hts hiX3 tyX3 tyX3_ok nmX3 hown hK hP hD hS 0 rfl rfl 7 (by decide) (hts (.fieldLink RX3 40 "HeardSecond$Trial" "breaths" "I") (by decide +kernel)) (fun _ h9 => h9) rfl (by decide +kernel) (rfl) rfl (Nat.le_of_ble_eq_true rfl) dX3_breathe_78 (fun H locs hP hD hS => ?_)
        have hP : va_P D vwCl [(t0, .inr (3, [.int la, .int be, .int ou, .int si, .int en, .int w0, .int w1, .int (br + 1), .ref wd, .int td, .ref tw, .ref ts])), (wd, .inl (cA, 5, .inl fw)), (b0, .inr (0, [.ref qk, .ref qs, .int (nI N), .int pt])), (qk, .inl (cA, 5, .inl kf)), (qs, .inl (cA, 5, .inl sf))] H := hP
        have hD : va_D A [(t0, .inr (3, [.int la, .int be, .int ou, .int si, .int en, .int w0, .int w1, .int (br + 1), .ref wd, .int td, .ref tw, .ref ts])), (wd, .inl (cA, 5, .inl fw)), (b0, .inr (0, [.ref qk, .ref qs, .int (nI N), .int pt])), (qk, .inl (cA, 5, .inl kf)), (qs, .inl (cA, 5, .inl sf))] := hD
        refine lv_iload_n hx hb dX3_breathe_81 rfl (lv_at hl 3 rfl) ?_
        refine lv_if_ne (tgt := 93) hx hb dX3_breathe_82 (by decide) (fun c82_3 => ?_) (fun c82_3 => ?_)
        · skip
          refine lv_aload_n hx hb dX3_breathe_93 rfl (lv_at hl 0 rfl) ?_
          refine lv_iconst (v := 0) hx hb dX3_breathe_94 (by decide) ?_
          refine va_put (D := D) (ci := 3) (v := .int 0) (ty := .int) (C := RX3) (T := TX3) (N := 12) hx hb hts hiX3 tyX3 tyX3_ok nmX3 hown hK hP hD hS 0 rfl rfl 3 (by decide) (hts (.fieldLink RX3 53 "HeardSecond$Trial" "silence" "I") (by decide +kernel)) (fun _ h9 => h9) rfl (by decide +kernel) (rfl) rfl (Nat.le_of_ble_eq_true rfl) dX3_breathe_95 (fun H locs hP hD hS => ?_)
          have hP : va_P D vwCl [(t0, .inr (3, [.int la, .int be, .int ou, .int 0, .int en, .int w0, .int w1, .int (br + 1), .ref wd, .int td, .ref tw, .ref ts])), (wd, .inl (cA, 5, .inl fw)), (b0, .inr (0, [.ref qk, .ref qs, .int (nI N), .int pt])), (qk, .inl (cA, 5, .inl kf)), (qs, .inl (cA, 5, .inl sf))] H := hP
          have hD : va_D A [(t0, .inr (3, [.int la, .int be, .int ou, .int 0, .int en, .int w0, .int w1, .int (br + 1), .ref wd, .int td, .ref tw, .ref ts])), (wd, .inl (cA, 5, .inl fw)), (b0, .inr (0, [.ref qk, .ref qs, .int (nI N), .int pt])), (qk, .inl (cA, 5, .inl kf)), (qs, .inl (cA, 5, .inl sf))] := hD
          refine lv_iload_n hx hb dX3_breathe_98 rfl (lv_at hl 3 rfl) ?_
          refine lv_iconst (v := 1) hx hb dX3_breathe_99 (by decide) ?_
          refine lv_icmp_ne (tgt := 113) hx hb dX3_breathe_100 (by decide) (fun c100_4 => ?_) (fun c100_4 => ?_)
          · skip
            refine lv_aload_n hx hb dX3_breathe_113 rfl (lv_at hl 0 rfl) ?_
            refine lv_aload_n hx hb dX3_breathe_114 rfl (lv_at hl 0 rfl) ?_
            refine va_get (D := D) (ci := 3) (v := .int ou) (C := RX3) (T := TX3) (N := 12) hx hb hts hiX3 hown hK hP 0 rfl rfl 2 (by decide) (hts (.fieldLink RX3 50 "HeardSecond$Trial" "out" "I") (by decide +kernel)) (fun _ h9 => h9) rfl dX3_breathe_115 ?_
            refine lv_iload hx hb dX3_breathe_118 (lv_at hl 4 rfl) ?_
            refine lv_ior hx hb dX3_breathe_120 ?_
            refine va_put (D := D) (ci := 3) (v := .int (ou ||| b)) (ty := .int) (C := RX3) (T := TX3) (N := 12) hx hb hts hiX3 tyX3 tyX3_ok nmX3 hown hK hP hD hS 0 rfl rfl 2 (by decide) (hts (.fieldLink RX3 50 "HeardSecond$Trial" "out" "I") (by decide +kernel)) (fun _ h9 => h9) rfl (by decide +kernel) (rfl) rfl (Nat.le_of_ble_eq_true rfl) dX3_breathe_121 (fun H locs hP hD hS => ?_)
            have hP : va_P D vwCl [(t0, .inr (3, [.int la, .int be, .int (ou ||| b), .int 0, .int en, .int w0, .int w1, .int (br + 1), .ref wd, .int td, .ref tw, .ref ts])), (wd, .inl (cA, 5, .inl fw)), (b0, .inr (0, [.ref qk, .ref qs, .int (nI N), .int pt])), (qk, .inl (cA, 5, .inl kf)), (qs, .inl (cA, 5, .inl sf))] H := hP
            have hD : va_D A [(t0, .inr (3, [.int la, .int be, .int (ou ||| b), .int 0, .int en, .int w0, .int w1, .int (br + 1), .ref wd, .int td, .ref tw, .ref ts])), (wd, .inl (cA, 5, .inl fw)), (b0, .inr (0, [.ref qk, .ref qs, .int (nI N), .int pt])), (qk, .inl (cA, 5, .inl kf)), (qs, .inl (cA, 5, .inl sf))] := hD
            refine lv_iload_n hx hb dX3_breathe_124 rfl (lv_at hl 3 rfl) ?_
            -- path 1
            exact hret (a) (la, (be, (ou ||| b, (0, (en, (w0, (w1, (br + 1, fw)))))))) _ _ _ _ dX3_breathe_125 (rfl) (by clear hret hl hS hD hP hK hA hN hts hx hb hr hml hown hlocks hiX3 ih1; simp_all [jBreathe]) hP hD hS
          · skip
            refine lv_aload_n hx hb dX3_breathe_103 rfl (lv_at hl 0 rfl) ?_
            refine lv_aload_n hx hb dX3_breathe_104 rfl (lv_at hl 1 rfl) ?_
            refine lv_iload hx hb dX3_breathe_105 (lv_at hl 5 rfl) ?_
            refine z_bwv (wr := [(qs, .inl (cA, 5, .inl sf))]) (ws' := fun u7 => [(t0, .inr (3, [.int u7.1, .int u7.2.1, .int ou, .int 0, .int en, .int w0, .int w1, .int (br + 1), .ref wd, .int td, .ref tw, .ref ts])), (wd, .inl (cA, 5, .inl u7.2.2)), (b0, .inr (0, [.ref qk, .ref qs, .int (nI N), .int pt])), (qk, .inl (cA, 5, .inl kf)), (qs, .inl (cA, 5, .inl sf))]) (z_runV (As := [.ref b0, .int c_]) (rest := []) (ci := 3) ⟨hx, hb, hml, hown, hts⟩ (c_X3_speak (t0 := t0) (wd := wd) (tw := tw) (ts := ts) (la := la) (be := be) (ou := ou) (si := 0) (en := en) (w0 := w0) (w1 := w1) (br := br + 1) (td := td) (fw := fw) (b0 := b0) (qk := qk) (qs := qs) (N := N) (pt := pt) (kf := kf) (x := c_) (by first | assumption | omega) _) (cwV 2 hts gX3_breathe_X3_speak rfl rfl rfl (by decide +kernel) ⟨Nat.le_of_ble_eq_true rfl, Nat.le_of_ble_eq_true rfl⟩) hK hP hD hN [0, 1, 2, 3] rfl rfl rfl rfl rfl hl.1 rfl (Nat.le_of_ble_eq_true rfl) dX3_breathe_107 ⟨Nat.zero_le _, Nat.zero_le _⟩) hP hD hS hA [0, 1, 2, 3] [4] [1, 2, 3, 4, 0] rfl rfl rfl (by decide) rfl (fun _ => rfl) (fun u7 H locs hw5 hP hD hS => ?_)
            obtain rfl : u7 = jSpeak N kf c_ la be fw := hw5
            have hP : va_P D vwCl [(t0, .inr (3, [.int ((jSpeak N kf c_ la be fw).1), .int ((jSpeak N kf c_ la be fw).2.1), .int ou, .int 0, .int en, .int w0, .int w1, .int (br + 1), .ref wd, .int td, .ref tw, .ref ts])), (wd, .inl (cA, 5, .inl ((jSpeak N kf c_ la be fw).2.2))), (b0, .inr (0, [.ref qk, .ref qs, .int (nI N), .int pt])), (qk, .inl (cA, 5, .inl kf)), (qs, .inl (cA, 5, .inl sf))] H := hP
            have hD : va_D A [(t0, .inr (3, [.int ((jSpeak N kf c_ la be fw).1), .int ((jSpeak N kf c_ la be fw).2.1), .int ou, .int 0, .int en, .int w0, .int w1, .int (br + 1), .ref wd, .int td, .ref tw, .ref ts])), (wd, .inl (cA, 5, .inl ((jSpeak N kf c_ la be fw).2.2))), (b0, .inr (0, [.ref qk, .ref qs, .int (nI N), .int pt])), (qk, .inl (cA, 5, .inl kf)), (qs, .inl (cA, 5, .inl sf))] := hD
            refine lv_goto (tgt := 124) hx hb dX3_breathe_110 (by decide) ?_
            refine lv_iload_n hx hb dX3_breathe_124 rfl (lv_at hl 3 rfl) ?_
            -- path 2
            exact hret (a) ((jSpeak N kf c_ la be fw).1, ((jSpeak N kf c_ la be fw).2.1, (ou, (0, (en, (w0, (w1, (br + 1, (jSpeak N kf c_ la be fw).2.2)))))))) _ _ _ _ dX3_breathe_125 (rfl) (by clear hret hl hS hD hP hK hA hN hts hx hb hr hml hown hlocks hiX3 ih1; simp_all [jBreathe]) hP hD hS
        · skip
          refine lv_aload_n hx hb dX3_breathe_85 rfl (lv_at hl 0 rfl) ?_
          refine lv_aload_n hx hb dX3_breathe_86 rfl (lv_at hl 1 rfl) ?_
          refine z_bwv (wr := [(qk, .inl (cA, 5, .inl kf))]) (ws' := fun u10 => [(t0, .inr (3, [.int u10.1, .int u10.2.1, .int u10.2.2.1, .int u10.2.2.2.1, .int u10.2.2.2.2.1, .int u10.2.2.2.2.2.1, .int u10.2.2.2.2.2.2.1, .int u10.2.2.2.2.2.2.2.1, .ref wd, .int td, .ref tw, .ref ts])), (wd, .inl (cA, 5, .inl u10.2.2.2.2.2.2.2.2)), (b0, .inr (0, [.ref qk, .ref qs, .int (nI N), .int pt])), (qk, .inl (cA, 5, .inl kf)), (qs, .inl (cA, 5, .inl sf))]) (z_runV (As := [.ref b0]) (rest := []) (ci := 3) ⟨hx, hb, hml, hown, hts⟩ (c_X3_keepSilence (t0 := t0) (wd := wd) (tw := tw) (ts := ts) (la := la) (be := be) (ou := ou) (si := si) (en := en) (w0 := w0) (w1 := w1) (br := br + 1) (td := td) (fw := fw) (b0 := b0) (qk := qk) (qs := qs) (N := N) (pt := pt) (sf := sf) (by first | assumption | omega) _) (cwV 1 hts gX3_breathe_X3_keepSilence rfl rfl rfl (by decide +kernel) ⟨Nat.le_of_ble_eq_true rfl, Nat.le_of_ble_eq_true rfl⟩) hK hP hD hN [0, 1, 2, 4] rfl rfl rfl rfl rfl hl.1 rfl (Nat.le_of_ble_eq_true rfl) dX3_breathe_87 ⟨Nat.zero_le _, Nat.zero_le _⟩) hP hD hS hA [0, 1, 2, 4] [3] [1, 2, 3, 0, 4] rfl rfl rfl (by decide) rfl (fun _ => rfl) (fun u10 H locs hw8 hP hD hS => ?_)
          obtain rfl : u10 = jQuiet N sf pt la be ou si en w0 w1 (br + 1) fw := hw8
          have hP : va_P D vwCl [(t0, .inr (3, [.int ((jQuiet N sf pt la be ou si en w0 w1 (br + 1) fw).1), .int ((jQuiet N sf pt la be ou si en w0 w1 (br + 1) fw).2.1), .int ((jQuiet N sf pt la be ou si en w0 w1 (br + 1) fw).2.2.1), .int ((jQuiet N sf pt la be ou si en w0 w1 (br + 1) fw).2.2.2.1), .int ((jQuiet N sf pt la be ou si en w0 w1 (br + 1) fw).2.2.2.2.1), .int ((jQuiet N sf pt la be ou si en w0 w1 (br + 1) fw).2.2.2.2.2.1), .int ((jQuiet N sf pt la be ou si en w0 w1 (br + 1) fw).2.2.2.2.2.2.1), .int ((jQuiet N sf pt la be ou si en w0 w1 (br + 1) fw).2.2.2.2.2.2.2.1), .ref wd, .int td, .ref tw, .ref ts])), (wd, .inl (cA, 5, .inl ((jQuiet N sf pt la be ou si en w0 w1 (br + 1) fw).2.2.2.2.2.2.2.2))), (b0, .inr (0, [.ref qk, .ref qs, .int (nI N), .int pt])), (qk, .inl (cA, 5, .inl kf)), (qs, .inl (cA, 5, .inl sf))] H := hP
          have hD : va_D A [(t0, .inr (3, [.int ((jQuiet N sf pt la be ou si en w0 w1 (br + 1) fw).1), .int ((jQuiet N sf pt la be ou si en w0 w1 (br + 1) fw).2.1), .int ((jQuiet N sf pt la be ou si en w0 w1 (br + 1) fw).2.2.1), .int ((jQuiet N sf pt la be ou si en w0 w1 (br + 1) fw).2.2.2.1), .int ((jQuiet N sf pt la be ou si en w0 w1 (br + 1) fw).2.2.2.2.1), .int ((jQuiet N sf pt la be ou si en w0 w1 (br + 1) fw).2.2.2.2.2.1), .int ((jQuiet N sf pt la be ou si en w0 w1 (br + 1) fw).2.2.2.2.2.2.1), .int ((jQuiet N sf pt la be ou si en w0 w1 (br + 1) fw).2.2.2.2.2.2.2.1), .ref wd, .int td, .ref tw, .ref ts])), (wd, .inl (cA, 5, .inl ((jQuiet N sf pt la be ou si en w0 w1 (br + 1) fw).2.2.2.2.2.2.2.2))), (b0, .inr (0, [.ref qk, .ref qs, .int (nI N), .int pt])), (qk, .inl (cA, 5, .inl kf)), (qs, .inl (cA, 5, .inl sf))] := hD
          refine lv_goto (tgt := 124) hx hb dX3_breathe_90 (by decide) ?_
          refine lv_iload_n hx hb dX3_breathe_124 rfl (lv_at hl 3 rfl) ?_
          -- path 3
          exact hret (a) ((jQuiet N sf pt la be ou si en w0 w1 (br + 1) fw).1, ((jQuiet N sf pt la be ou si en w0 w1 (br + 1) fw).2.1, ((jQuiet N sf pt la be ou si en w0 w1 (br + 1) fw).2.2.1, ((jQuiet N sf pt la be ou si en w0 w1 (br + 1) fw).2.2.2.1, ((jQuiet N sf pt la be ou si en w0 w1 (br + 1) fw).2.2.2.2.1, ((jQuiet N sf pt la be ou si en w0 w1 (br + 1) fw).2.2.2.2.2.1, ((jQuiet N sf pt la be ou si en w0 w1 (br + 1) fw).2.2.2.2.2.2.1, ((jQuiet N sf pt la be ou si en w0 w1 (br + 1) fw).2.2.2.2.2.2.2.1, (jQuiet N sf pt la be ou si en w0 w1 (br + 1) fw).2.2.2.2.2.2.2.2)))))))) _ _ _ _ dX3_breathe_125 (rfl) (by clear hret hl hS hD hP hK hA hN hts hx hb hr hml hown hlocks hiX3 ih1; simp_all [jBreathe]) hP hD hS
      · skip
        have hlt : i < 5 := Nat.lt_of_not_le (fun q_ => c20_2 ((nI_leI (a := 5) (by omega) (by omega)).mpr q_))
        refine lv_iload hx hb dX3_breathe_23 (lv_at hl 6 rfl) ?_
        refine lv_iload_n hx hb dX3_breathe_25 rfl (lv_at hl 2 rfl) ?_
        refine z_bri (z_runSN (As := [.int (nI i), .int who]) (rest := []) ⟨hx, hb, hml, hown, hts⟩ (c_X4_isIn (x := nI i) (o := who) _) (va_cnB (own := RX3) (host := "HeardSecond") (index := 60) 2 hts ggX3_breathe_X4_isIn rfl rfl rfl (hN.get 29 rfl) (hts (.initialized RX4) (by decide +kernel)) (by decide +kernel) ⟨Nat.le_of_ble_eq_true rfl, Nat.le_of_ble_eq_true rfl⟩) (hts (.static yX4_isIn) (by decide +kernel)) hK hP hD hN [] rfl rfl rfl hl.1 rfl (Nat.le_of_ble_eq_true rfl) dX3_breathe_26 ⟨Nat.zero_le _, Nat.zero_le _⟩) hP hD hS hA [] rfl (fun r12 u13 H locs hw11 hP hS => ?_)
        obtain rfl : r12 = bI (jIsIn (nI i) who) := hw11
        refine lv_if_eq (tgt := 65) hx hb dX3_breathe_29 (by decide) (fun c29_14 => ?_) (fun c29_14 => ?_)
        · skip
          have c29_14 := bI_0.mp c29_14
          refine lv_iinc (v := nI (i + 1)) (lv' := [(6, .int (nI (i + 1))), (0, .ref t0), (1, .ref b0), (2, .int who), (3, .int a), (4, .int b), (5, .int c_)]) hx hb dX3_breathe_65 hl (k := 6) rfl (nI_1 i) (by decide) rfl (fun ls hl => ?_)
          refine lv_goto (tgt := 17) hx hb dX3_breathe_68 (by decide) ?_
          exact ih1 (i + 1) a b c_ (by omega) (by first | assumption | omega) (by clear hret hl hS hD hP hK hA hN hts hx hb hr hml hown hlocks hiX3 ih1; rw [jBr]; simp_all) _ _ _ hP hD hS (lv_sub hl [1, 2, 3, 4, 5, 6, 0] rfl)
        · skip
          have c29_14 := bI_n0.mp c29_14
          refine lv_aload_n hx hb dX3_breathe_32 rfl (lv_at hl 1 rfl) ?_
          refine lv_iload hx hb dX3_breathe_33 (lv_at hl 6 rfl) ?_
          refine lv_aload_n hx hb dX3_breathe_35 rfl (lv_at hl 0 rfl) ?_
          refine va_get (D := D) (ci := 3) (v := .int la) (C := RX3) (T := TX3) (N := 12) hx hb hts hiX3 hown hK hP 0 rfl rfl 0 (by decide) (hts (.fieldLink RX3 9 "HeardSecond$Trial" "last" "I") (by decide +kernel)) (fun _ h9 => h9) rfl dX3_breathe_36 ?_
          refine lv_aload_n hx hb dX3_breathe_39 rfl (lv_at hl 0 rfl) ?_
          refine va_get (D := D) (ci := 3) (v := .int ou) (C := RX3) (T := TX3) (N := 12) hx hb hts hiX3 hown hK hP 0 rfl rfl 2 (by decide) (hts (.fieldLink RX3 50 "HeardSecond$Trial" "out" "I") (by decide +kernel)) (fun _ h9 => h9) rfl dX3_breathe_40 ?_
          refine z_bri (z_runV (As := [.int (nI i), .int la, .int ou]) (rest := []) (ci := 0) ⟨hx, hb, hml, hown, hts⟩ (c_X0_counts (b0 := b0) (qk := qk) (qs := qs) (N := N) (pt := pt) (kf := kf) (x := nI i) (last := la) (o := ou) (by first | assumption | omega) _) (cwV 3 hts gX3_breathe_X0_counts rfl rfl rfl (by decide +kernel) ⟨Nat.le_of_ble_eq_true rfl, Nat.le_of_ble_eq_true rfl⟩) hK hP hD hN [2, 3] rfl rfl rfl rfl rfl hl.1 rfl (Nat.le_of_ble_eq_true rfl) dX3_breathe_43 ⟨Nat.zero_le _, Nat.zero_le _⟩) hP hD hS hA [2, 3] rfl (fun r16 u17 H locs hw15 hP hS => ?_)
          obtain rfl : r16 = bI (jCounts N kf (nI i) la ou) := hw15
          refine lv_if_eq (tgt := 65) hx hb dX3_breathe_46 (by decide) (fun c46_18 => ?_) (fun c46_18 => ?_)
          · skip
            have c46_18 := bI_0.mp c46_18
            refine lv_iinc (v := nI (i + 1)) (lv' := [(6, .int (nI (i + 1))), (0, .ref t0), (1, .ref b0), (2, .int who), (3, .int a), (4, .int b), (5, .int c_)]) hx hb dX3_breathe_65 hl (k := 6) rfl (nI_1 i) (by decide) rfl (fun ls hl => ?_)
            refine lv_goto (tgt := 17) hx hb dX3_breathe_68 (by decide) ?_
            exact ih1 (i + 1) a b c_ (by omega) (by first | assumption | omega) (by clear hret hl hS hD hP hK hA hN hts hx hb hr hml hown hlocks hiX3 ih1; rw [jBr]; simp_all) _ _ _ hP hD hS (lv_sub hl [1, 2, 3, 4, 5, 6, 0] rfl)
          · skip
            have c46_18 := bI_n0.mp c46_18
            refine lv_iinc (v := a + 1) (lv' := [(3, .int (a + 1)), (0, .ref t0), (1, .ref b0), (2, .int who), (4, .int b), (5, .int c_), (6, .int (nI i))]) hx hb dX3_breathe_49 hl (k := 3) rfl (rfl) (by decide) rfl (fun ls hl => ?_)
            refine lv_iload hx hb dX3_breathe_52 (lv_at hl 4 rfl) ?_
            refine lv_iconst (v := 1) hx hb dX3_breathe_54 (by decide) ?_
            refine lv_iload hx hb dX3_breathe_55 (lv_at hl 6 rfl) ?_
            refine lv_ishl hx hb dX3_breathe_57 ?_
            refine lv_ior hx hb dX3_breathe_58 ?_
            refine lv_istore (lv' := [(4, .int (b ||| (1 <<< ((nI i) &&& 31)))), (3, .int (a + 1)), (0, .ref t0), (1, .ref b0), (2, .int who), (5, .int c_), (6, .int (nI i))]) hx hb dX3_breathe_59 hl (by decide) rfl (fun ls hl => ?_)
            refine lv_iload hx hb dX3_breathe_61 (lv_at hl 6 rfl) ?_
            refine lv_istore (lv' := [(5, .int (nI i)), (4, .int (b ||| (1 <<< ((nI i) &&& 31)))), (3, .int (a + 1)), (0, .ref t0), (1, .ref b0), (2, .int who), (6, .int (nI i))]) hx hb dX3_breathe_63 hl (by decide) rfl (fun ls hl => ?_)
            refine lv_iinc (v := nI (i + 1)) (lv' := [(6, .int (nI (i + 1))), (5, .int (nI i)), (4, .int (b ||| (1 <<< ((nI i) &&& 31)))), (3, .int (a + 1)), (0, .ref t0), (1, .ref b0), (2, .int who)]) hx hb dX3_breathe_65 hl (k := 6) rfl (nI_1 i) (by decide) rfl (fun ls hl => ?_)
            refine lv_goto (tgt := 17) hx hb dX3_breathe_68 (by decide) ?_
            exact ih1 (i + 1) (a + 1) (b ||| (1 <<< ((nI i) &&& 31))) (nI i) (by omega) (by first | assumption | omega) (by clear hret hl hS hD hP hK hA hN hts hx hb hr hml hown hlocks hiX3 ih1; rw [jBr]; simp_all) _ _ _ hP hD hS (lv_sub hl [4, 5, 6, 3, 2, 1, 0] rfl)
  exact L17 6 0 0 0 (-1) (by omega) (by first | assumption | omega) (by rfl) _ _ _ hP hD hS (lv_sub hl [4, 5, 6, 3, 2, 1, 0] rfl)
abbrev rm_c_X3_tell : Room := { frames := 1, cells := 0, slots := 0, locals := 22 }
set_option maxHeartbeats 400000 in
set_option maxRecDepth 20000 in
theorem c_X3_tell {l : Launch} {D : va_G} {cA : ClassId} {t0 : Nat} {wd : Nat} {tw : Nat} {ts : Nat} {t : Nat} {la : Int32} {be : Int32} {ou : Int32} {si : Int32} {en : Int32} {w0 : Int32} {w1 : Int32} {br : Int32} {ftw : Nat → Int32} {fts : Nat → Int32} {x : Int32} {y : Int32} (ht : t < 8) : zMv l yX3_tell wsX3_tell rm_c_X3_tell D cA [(t0, .inr (3, [.int la, .int be, .int ou, .int si, .int en, .int w0, .int w1, .int br, .ref wd, .int (nI t), .ref tw, .ref ts])), (tw, .inl (cA, 8, .inl ftw)), (ts, .inl (cA, 8, .inl fts))] [.ref t0, .int x, .int y] (fun (_ : Unit) => True) (fun (_ : Unit) => [(t0, .inr (3, [.int la, .int be, .int ou, .int si, .int en, .int w0, .int w1, .int br, .ref wd, .int (nI (t + 1)), .ref tw, .ref ts])), (tw, .inl (cA, 8, .inl (upd ftw t x))), (ts, .inl (cA, 8, .inl (upd fts t y)))]) := by
  refine z_enterv (cc := cX3_tell) (maxL := 3) (by decide) rfl (Nat.le_of_ble_eq_true rfl) (fun p e s m args below meth c ls A H0 H locs Q hi_ hA hK hP hD hS hl hret => ?_)
  obtain ⟨hx, hb, hr, hml, hown, hts, hlocks, hN⟩ := hi_
  have hl : lv_has ls 3 [(0, .ref t0), (1, .int x), (2, .int y)] := hl
  have hiX3 : ∀ w ∈ wsX30, w ∈ wsX3_tell := by decide +kernel
  refine lv_aload_n hx hb dX3_tell_0 rfl (lv_at hl 0 rfl) ?_
  refine va_get (D := D) (ci := 3) (v := .int (nI t)) (C := RX3) (T := TX3) (N := 12) hx hb hts hiX3 hown hK hP 0 rfl rfl 9 (by decide) (hts (.fieldLink RX3 43 "HeardSecond$Trial" "told" "I") (by decide +kernel)) (fun _ h9 => h9) rfl dX3_tell_1 ?_
  refine lv_bipush (v := 8) hx hb dX3_tell_4 (by decide) ?_
  refine lv_icmp_ge (tgt := 43) hx hb dX3_tell_6 (by decide) (fun c6_1 => ?_) (fun c6_1 => ?_)
  · skip
    exact absurd ((nI_leI (a := 8) (b := t) (by omega) (by omega)).mp c6_1) (by omega)
  · skip
    refine lv_aload_n hx hb dX3_tell_9 rfl (lv_at hl 0 rfl) ?_
    refine va_get (D := D) (ci := 3) (v := .ref tw) (C := RX3) (T := TX3) (N := 12) hx hb hts hiX3 hown hK hP 0 rfl rfl 10 (by decide) (hts (.fieldLink RX3 22 "HeardSecond$Trial" "toldWords" "[I") (by decide +kernel)) (fun _ h9 => h9) rfl dX3_tell_10 ?_
    refine lv_aload_n hx hb dX3_tell_13 rfl (lv_at hl 0 rfl) ?_
    refine va_get (D := D) (ci := 3) (v := .int (nI t)) (C := RX3) (T := TX3) (N := 12) hx hb hts hiX3 hown hK hP 0 rfl rfl 9 (by decide) (hts (.fieldLink RX3 43 "HeardSecond$Trial" "told" "I") (by decide +kernel)) (fun _ h9 => h9) rfl dX3_tell_14 ?_
    refine lv_iload_n hx hb dX3_tell_17 rfl (lv_at hl 1 rfl) ?_
    refine z_bwv (wr := [(t0, .inr (3, [.int la, .int be, .int ou, .int si, .int en, .int w0, .int w1, .int br, .ref wd, .int (nI t), .ref tw, .ref ts])), (ts, .inl (cA, 8, .inl fts))]) (ws' := fun (_ : Unit) => [(t0, .inr (3, [.int la, .int be, .int ou, .int si, .int en, .int w0, .int w1, .int br, .ref wd, .int (nI t), .ref tw, .ref ts])), (tw, .inl (cA, 8, .inl (jPut 8 ftw (nI t) x))), (ts, .inl (cA, 8, .inl fts))]) (z_runSN (As := [.ref tw, .int (nI t), .int x]) (rest := []) ⟨hx, hb, hml, hown, hts⟩ (c_X4_put (n := 8) (q := tw) (f := ftw) (x := nI t) (v := x) (by first | assumption | omega) _) (va_cnB (own := RX3) (host := "HeardSecond") (index := 82) 3 hts ggX3_tell_X4_put rfl rfl rfl (hN.get 31 rfl) (hts (.initialized RX4) (by decide +kernel)) (by decide +kernel) ⟨Nat.le_of_ble_eq_true rfl, Nat.le_of_ble_eq_true rfl⟩) (hts (.static yX4_put) (by decide +kernel)) hK hP hD hN [1] rfl rfl rfl hl.1 rfl (Nat.le_of_ble_eq_true rfl) dX3_tell_18 ⟨Nat.zero_le _, Nat.zero_le _⟩) hP hD hS hA [1] [0, 2] [0, 2, 1] rfl rfl rfl (by decide) rfl (fun _ => rfl) (fun u4 H locs hw2 hP hD hS => ?_)
    have hP : va_P D vwCl [(t0, .inr (3, [.int la, .int be, .int ou, .int si, .int en, .int w0, .int w1, .int br, .ref wd, .int (nI t), .ref tw, .ref ts])), (tw, .inl (cA, 8, .inl (jPut 8 ftw (nI t) x))), (ts, .inl (cA, 8, .inl fts))] H := hP
    have hD : va_D A [(t0, .inr (3, [.int la, .int be, .int ou, .int si, .int en, .int w0, .int w1, .int br, .ref wd, .int (nI t), .ref tw, .ref ts])), (tw, .inl (cA, 8, .inl (jPut 8 ftw (nI t) x))), (ts, .inl (cA, 8, .inl fts))] := hD
    refine lv_aload_n hx hb dX3_tell_21 rfl (lv_at hl 0 rfl) ?_
    refine va_get (D := D) (ci := 3) (v := .ref ts) (C := RX3) (T := TX3) (N := 12) hx hb hts hiX3 hown hK hP 0 rfl rfl 11 (by decide) (hts (.fieldLink RX3 25 "HeardSecond$Trial" "toldSeats" "[I") (by decide +kernel)) (fun _ h9 => h9) rfl dX3_tell_22 ?_
    refine lv_aload_n hx hb dX3_tell_25 rfl (lv_at hl 0 rfl) ?_
    refine va_get (D := D) (ci := 3) (v := .int (nI t)) (C := RX3) (T := TX3) (N := 12) hx hb hts hiX3 hown hK hP 0 rfl rfl 9 (by decide) (hts (.fieldLink RX3 43 "HeardSecond$Trial" "told" "I") (by decide +kernel)) (fun _ h9 => h9) rfl dX3_tell_26 ?_
    refine lv_iload_n hx hb dX3_tell_29 rfl (lv_at hl 2 rfl) ?_
    refine z_bwv (wr := [(t0, .inr (3, [.int la, .int be, .int ou, .int si, .int en, .int w0, .int w1, .int br, .ref wd, .int (nI t), .ref tw, .ref ts])), (tw, .inl (cA, 8, .inl (jPut 8 ftw (nI t) x)))]) (ws' := fun (_ : Unit) => [(t0, .inr (3, [.int la, .int be, .int ou, .int si, .int en, .int w0, .int w1, .int br, .ref wd, .int (nI t), .ref tw, .ref ts])), (tw, .inl (cA, 8, .inl (jPut 8 ftw (nI t) x))), (ts, .inl (cA, 8, .inl (jPut 8 fts (nI t) y)))]) (z_runSN (As := [.ref ts, .int (nI t), .int y]) (rest := []) ⟨hx, hb, hml, hown, hts⟩ (c_X4_put (n := 8) (q := ts) (f := fts) (x := nI t) (v := y) (by first | assumption | omega) _) (va_cnB (own := RX3) (host := "HeardSecond") (index := 82) 3 hts ggX3_tell_X4_put rfl rfl rfl (hN.get 31 rfl) (hts (.initialized RX4) (by decide +kernel)) (by decide +kernel) ⟨Nat.le_of_ble_eq_true rfl, Nat.le_of_ble_eq_true rfl⟩) (hts (.static yX4_put) (by decide +kernel)) hK hP hD hN [2] rfl rfl rfl hl.1 rfl (Nat.le_of_ble_eq_true rfl) dX3_tell_30 ⟨Nat.zero_le _, Nat.zero_le _⟩) hP hD hS hA [2] [0, 1] [0, 1, 2] rfl rfl rfl (by decide) rfl (fun _ => rfl) (fun u7 H locs hw5 hP hD hS => ?_)
    have hP : va_P D vwCl [(t0, .inr (3, [.int la, .int be, .int ou, .int si, .int en, .int w0, .int w1, .int br, .ref wd, .int (nI t), .ref tw, .ref ts])), (tw, .inl (cA, 8, .inl (jPut 8 ftw (nI t) x))), (ts, .inl (cA, 8, .inl (jPut 8 fts (nI t) y)))] H := hP
    have hD : va_D A [(t0, .inr (3, [.int la, .int be, .int ou, .int si, .int en, .int w0, .int w1, .int br, .ref wd, .int (nI t), .ref tw, .ref ts])), (tw, .inl (cA, 8, .inl (jPut 8 ftw (nI t) x))), (ts, .inl (cA, 8, .inl (jPut 8 fts (nI t) y)))] := hD
    refine lv_aload_n hx hb dX3_tell_33 rfl (lv_at hl 0 rfl) ?_
    refine lv_dup hx hb dX3_tell_34 rfl ?_
    refine va_get (D := D) (ci := 3) (v := .int (nI t)) (C := RX3) (T := TX3) (N := 12) hx hb hts hiX3 hown hK hP 0 rfl rfl 9 (by decide) (hts (.fieldLink RX3 43 "HeardSecond$Trial" "told" "I") (by decide +kernel)) (fun _ h9 => h9) rfl dX3_tell_35 ?_
    refine lv_iconst (v := 1) hx hb dX3_tell_38 (by decide) ?_
    refine lv_iadd hx hb dX3_tell_39 ?_
    refine va_put (D := D) (ci := 3) (v := .int ((nI t) + 1)) (ty := .int) (C := RX3) (T := TX3) (N := 12) hx hb hts hiX3 tyX3 tyX3_ok nmX3 hown hK hP hD hS 0 rfl rfl 9 (by decide) (hts (.fieldLink RX3 43 "HeardSecond$Trial" "told" "I") (by decide +kernel)) (fun _ h9 => h9) rfl (by decide +kernel) (rfl) rfl (Nat.le_of_ble_eq_true rfl) dX3_tell_40 (fun H locs hP hD hS => ?_)
    have hP : va_P D vwCl [(t0, .inr (3, [.int la, .int be, .int ou, .int si, .int en, .int w0, .int w1, .int br, .ref wd, .int ((nI t) + 1), .ref tw, .ref ts])), (tw, .inl (cA, 8, .inl (jPut 8 ftw (nI t) x))), (ts, .inl (cA, 8, .inl (jPut 8 fts (nI t) y)))] H := hP
    have hD : va_D A [(t0, .inr (3, [.int la, .int be, .int ou, .int si, .int en, .int w0, .int w1, .int br, .ref wd, .int ((nI t) + 1), .ref tw, .ref ts])), (tw, .inl (cA, 8, .inl (jPut 8 ftw (nI t) x))), (ts, .inl (cA, 8, .inl (jPut 8 fts (nI t) y)))] := hD
    -- path 1
    have hP : va_P D vwCl [(t0, .inr (3, [.int la, .int be, .int ou, .int si, .int en, .int w0, .int w1, .int br, .ref wd, .int (nI (t + 1)), .ref tw, .ref ts])), (tw, .inl (cA, 8, .inl (jPut 8 ftw (nI t) x))), (ts, .inl (cA, 8, .inl (jPut 8 fts (nI t) y)))] H := by have e_ : (nI t) + 1 = nI (t + 1) := (by clear hret hl hS hD hP hK hA hN hts hx hb hr hml hown hlocks hiX3; exact nI_1 t); rw [← e_]; exact hP
    have hD : va_D A [(t0, .inr (3, [.int la, .int be, .int ou, .int si, .int en, .int w0, .int w1, .int br, .ref wd, .int (nI (t + 1)), .ref tw, .ref ts])), (tw, .inl (cA, 8, .inl (jPut 8 ftw (nI t) x))), (ts, .inl (cA, 8, .inl (jPut 8 fts (nI t) y)))] := by have e_ : (nI t) + 1 = nI (t + 1) := (by clear hret hl hS hD hP hK hA hN hts hx hb hr hml hown hlocks hiX3; exact nI_1 t); rw [← e_]; exact hD
    have hP : va_P D vwCl [(t0, .inr (3, [.int la, .int be, .int ou, .int si, .int en, .int w0, .int w1, .int br, .ref wd, .int (nI (t + 1)), .ref tw, .ref ts])), (tw, .inl (cA, 8, .inl (upd ftw t x))), (ts, .inl (cA, 8, .inl (jPut 8 fts (nI t) y)))] H := z_arrP hP 1 (g := (upd ftw t x)) rfl (by clear hret hl hS hD hP hK hA hN hts hx hb hr hml hown hlocks hiX3; intro j _; rw [jPut_nI ht (by decide)]) rfl
    have hD : va_D A [(t0, .inr (3, [.int la, .int be, .int ou, .int si, .int en, .int w0, .int w1, .int br, .ref wd, .int (nI (t + 1)), .ref tw, .ref ts])), (tw, .inl (cA, 8, .inl (upd ftw t x))), (ts, .inl (cA, 8, .inl (jPut 8 fts (nI t) y)))] := z_arrD hD 1 rfl rfl
    have hP : va_P D vwCl [(t0, .inr (3, [.int la, .int be, .int ou, .int si, .int en, .int w0, .int w1, .int br, .ref wd, .int (nI (t + 1)), .ref tw, .ref ts])), (tw, .inl (cA, 8, .inl (upd ftw t x))), (ts, .inl (cA, 8, .inl (upd fts t y)))] H := z_arrP hP 2 (g := (upd fts t y)) rfl (by clear hret hl hS hD hP hK hA hN hts hx hb hr hml hown hlocks hiX3; intro j _; rw [jPut_nI ht (by decide)]) rfl
    have hD : va_D A [(t0, .inr (3, [.int la, .int be, .int ou, .int si, .int en, .int w0, .int w1, .int br, .ref wd, .int (nI (t + 1)), .ref tw, .ref ts])), (tw, .inl (cA, 8, .inl (upd ftw t x))), (ts, .inl (cA, 8, .inl (upd fts t y)))] := z_arrD hD 2 rfl rfl
    exact hret () _ _ _ _ dX3_tell_43 (by trivial) hP hD hS
abbrev rm_c_X3_allows : Room := { frames := 1, cells := 0, slots := 0, locals := 21 }
set_option maxHeartbeats 400000 in
set_option maxRecDepth 20000 in
theorem c_X3_allows {l : Launch} {D : va_G} {cA : ClassId} {t0 : Nat} {wd : Nat} {tw : Nat} {ts : Nat} {t : Nat} {la : Int32} {be : Int32} {ou : Int32} {si : Int32} {en : Int32} {w0 : Int32} {w1 : Int32} {br : Int32} {ftw : Nat → Int32} {fts : Nat → Int32} {x : Int32} {y : Int32} (ht : t ≤ 8) : zMi l yX3_allows wsX3_allows rm_c_X3_allows D cA [(t0, .inr (3, [.int la, .int be, .int ou, .int si, .int en, .int w0, .int w1, .int br, .ref wd, .int (nI t), .ref tw, .ref ts])), (tw, .inl (cA, 8, .inl ftw)), (ts, .inl (cA, 8, .inl fts))] [.ref t0, .int x, .int y] (fun (r : Int32) (_ : Unit) => r = bI (jAllows t ftw fts x y)) (fun (_ : Unit) => [(t0, .inr (3, [.int la, .int be, .int ou, .int si, .int en, .int w0, .int w1, .int br, .ref wd, .int (nI t), .ref tw, .ref ts])), (tw, .inl (cA, 8, .inl ftw)), (ts, .inl (cA, 8, .inl fts))]) := by
  refine z_enteri (cc := cX3_allows) (maxL := 4) (ty := .boolean) (by decide) rfl (Nat.le_of_ble_eq_true rfl) (fun p e s m args below meth c ls A H0 H locs Q hi_ hA hK hP hD hS hl hret => ?_)
  obtain ⟨hx, hb, hr, hml, hown, hts, hlocks, hN⟩ := hi_
  have hl : lv_has ls 4 [(0, .ref t0), (1, .int x), (2, .int y)] := hl
  have hiX3 : ∀ w ∈ wsX30, w ∈ wsX3_allows := by decide +kernel
  refine lv_iconst (v := nI 0) hx hb dX3_allows_0 (by decide) ?_
  refine lv_istore_n (lv' := [(3, .int (nI 0)), (0, .ref t0), (1, .int x), (2, .int y)]) hx hb dX3_allows_1 rfl hl (by decide) rfl (fun ls hl => ?_)
  have L2 : ∀ (n_ : Nat) (i : Nat) (hm_ : t + 1 ≤ i + n_) (hi : i ≤ t) (hg : ∀ j, j < i → ftw j = x → fts j = y) (H : Heap) (locs : List Loc) (ls : Array Slot), va_P D vwCl [(t0, .inr (3, [.int la, .int be, .int ou, .int si, .int en, .int w0, .int w1, .int br, .ref wd, .int (nI t), .ref tw, .ref ts])), (tw, .inl (cA, 8, .inl ftw)), (ts, .inl (cA, 8, .inl fts))] H → va_D A [(t0, .inr (3, [.int la, .int be, .int ou, .int si, .int en, .int w0, .int w1, .int br, .ref wd, .int (nI t), .ref tw, .ref ts])), (tw, .inl (cA, 8, .inl ftw)), (ts, .inl (cA, 8, .inl fts))] → va_S A H0 H locs → lv_has ls 4 [(0, .ref t0), (1, .int x), (2, .int y), (3, .int (nI i))] → W p l e rm_c_X3_allows s m args below meth c H locs 0 0 Q (F0 m 2 ls []) := by
    intro n_
    induction n_ with
    | zero =>
      intro i hm_ hi hg
      exact absurd hm_ (by omega)
    | succ n_ ih_ =>
      intro i hm_ hi hg H locs ls hP hD hS hl
      have ih1 := ih_
      clear ih_
      refine lv_iload_n hx hb dX3_allows_2 rfl (lv_at hl 3 rfl) ?_
      refine lv_aload_n hx hb dX3_allows_3 rfl (lv_at hl 0 rfl) ?_
      refine va_get (D := D) (ci := 3) (v := .int (nI t)) (C := RX3) (T := TX3) (N := 12) hx hb hts hiX3 hown hK hP 0 rfl rfl 9 (by decide) (hts (.fieldLink RX3 43 "HeardSecond$Trial" "told" "I") (by decide +kernel)) (fun _ h9 => h9) rfl dX3_allows_4 ?_
      refine lv_icmp_ge (tgt := 42) hx hb dX3_allows_7 (by decide) (fun c7_2 => ?_) (fun c7_2 => ?_)
      · skip
        have ht_ := (nI_leI (by omega) (by omega)).mp c7_2
        refine lv_iconst (v := 1) hx hb dX3_allows_42 (by decide) ?_
        -- path 1
        exact hret (1) () _ _ _ _ dX3_allows_43 (rfl) (by clear hret hl hS hD hP hK hA hN hts hx hb hr hml hown hlocks hiX3 ih1; first | (rw [show jAllows t ftw fts x y = true from decide_eq_true (fun j hj => hg j (by omega))]; rfl) | (rw [show jAllows t ftw fts x y = false from decide_eq_false (fun q_ => absurd (q_ i hlt (by assumption)) (by assumption))]; rfl)) hP hD hS
      · skip
        have hlt : i < t := Nat.lt_of_not_le (fun q_ => c7_2 ((nI_leI (by omega) (by omega)).mpr q_))
        refine lv_aload_n hx hb dX3_allows_10 rfl (lv_at hl 0 rfl) ?_
        refine va_get (D := D) (ci := 3) (v := .ref tw) (C := RX3) (T := TX3) (N := 12) hx hb hts hiX3 hown hK hP 0 rfl rfl 10 (by decide) (hts (.fieldLink RX3 22 "HeardSecond$Trial" "toldWords" "[I") (by decide +kernel)) (fun _ h9 => h9) rfl dX3_allows_11 ?_
        refine lv_iload_n hx hb dX3_allows_14 rfl (lv_at hl 3 rfl) ?_
        refine z_bri (z_runSN (As := [.ref tw, .int (nI i)]) (rest := []) ⟨hx, hb, hml, hown, hts⟩ (c_X4_at (n := 8) (q := tw) (f := ftw) (x := nI i) (by first | assumption | omega) _) (va_cnB (own := RX3) (host := "HeardSecond") (index := 78) 2 hts ggX3_allows_X4_at rfl rfl rfl (hN.get 30 rfl) (hts (.initialized RX4) (by decide +kernel)) (by decide +kernel) ⟨Nat.le_of_ble_eq_true rfl, Nat.le_of_ble_eq_true rfl⟩) (hts (.static yX4_at) (by decide +kernel)) hK hP hD hN [1] rfl rfl rfl hl.1 rfl (Nat.le_of_ble_eq_true rfl) dX3_allows_15 ⟨Nat.zero_le _, Nat.zero_le _⟩) hP hD hS hA [1] rfl (fun r4 u5 H locs hw3 hP hS => ?_)
        obtain rfl : r4 = jAt 8 ftw (nI i) := hw3
        refine z_top (y := ftw i) (jAt_nI (by omega) (by decide)) ?_
        refine lv_iload_n hx hb dX3_allows_18 rfl (lv_at hl 1 rfl) ?_
        refine lv_icmp_ne (tgt := 36) hx hb dX3_allows_19 (by decide) (fun c19_6 => ?_) (fun c19_6 => ?_)
        · skip
          refine lv_iinc (v := nI (i + 1)) (lv' := [(3, .int (nI (i + 1))), (0, .ref t0), (1, .int x), (2, .int y)]) hx hb dX3_allows_36 hl (k := 3) rfl (nI_1 i) (by decide) rfl (fun ls hl => ?_)
          refine lv_goto (tgt := 2) hx hb dX3_allows_39 (by decide) ?_
          exact ih1 (i + 1) (by omega) (by first | assumption | omega) (by clear hret hl hS hD hP hK hA hN hts hx hb hr hml hown hlocks hiX3 ih1; intro j hj hx_; rcases Nat.lt_succ_iff_lt_or_eq.mp hj with h_ | h_ <;> first | exact hg j h_ hx_ | (subst h_; first | exact absurd hx_ (by assumption) | assumption | grind)) _ _ _ hP hD hS (lv_sub hl [1, 2, 3, 0] rfl)
        · skip
          refine lv_aload_n hx hb dX3_allows_22 rfl (lv_at hl 0 rfl) ?_
          refine va_get (D := D) (ci := 3) (v := .ref ts) (C := RX3) (T := TX3) (N := 12) hx hb hts hiX3 hown hK hP 0 rfl rfl 11 (by decide) (hts (.fieldLink RX3 25 "HeardSecond$Trial" "toldSeats" "[I") (by decide +kernel)) (fun _ h9 => h9) rfl dX3_allows_23 ?_
          refine lv_iload_n hx hb dX3_allows_26 rfl (lv_at hl 3 rfl) ?_
          refine z_bri (z_runSN (As := [.ref ts, .int (nI i)]) (rest := []) ⟨hx, hb, hml, hown, hts⟩ (c_X4_at (n := 8) (q := ts) (f := fts) (x := nI i) (by first | assumption | omega) _) (va_cnB (own := RX3) (host := "HeardSecond") (index := 78) 2 hts ggX3_allows_X4_at rfl rfl rfl (hN.get 30 rfl) (hts (.initialized RX4) (by decide +kernel)) (by decide +kernel) ⟨Nat.le_of_ble_eq_true rfl, Nat.le_of_ble_eq_true rfl⟩) (hts (.static yX4_at) (by decide +kernel)) hK hP hD hN [2] rfl rfl rfl hl.1 rfl (Nat.le_of_ble_eq_true rfl) dX3_allows_27 ⟨Nat.zero_le _, Nat.zero_le _⟩) hP hD hS hA [2] rfl (fun r8 u9 H locs hw7 hP hS => ?_)
          obtain rfl : r8 = jAt 8 fts (nI i) := hw7
          refine z_top (y := fts i) (jAt_nI (by omega) (by decide)) ?_
          refine lv_iload_n hx hb dX3_allows_30 rfl (lv_at hl 2 rfl) ?_
          refine lv_icmp_eq (tgt := 36) hx hb dX3_allows_31 (by decide) (fun c31_10 => ?_) (fun c31_10 => ?_)
          · skip
            refine lv_iinc (v := nI (i + 1)) (lv' := [(3, .int (nI (i + 1))), (0, .ref t0), (1, .int x), (2, .int y)]) hx hb dX3_allows_36 hl (k := 3) rfl (nI_1 i) (by decide) rfl (fun ls hl => ?_)
            refine lv_goto (tgt := 2) hx hb dX3_allows_39 (by decide) ?_
            exact ih1 (i + 1) (by omega) (by first | assumption | omega) (by clear hret hl hS hD hP hK hA hN hts hx hb hr hml hown hlocks hiX3 ih1; intro j hj hx_; rcases Nat.lt_succ_iff_lt_or_eq.mp hj with h_ | h_ <;> first | exact hg j h_ hx_ | (subst h_; first | exact absurd hx_ (by assumption) | assumption | grind)) _ _ _ hP hD hS (lv_sub hl [1, 2, 3, 0] rfl)
          · skip
            refine lv_iconst (v := 0) hx hb dX3_allows_34 (by decide) ?_
            -- path 2
            exact hret (0) () _ _ _ _ dX3_allows_35 (rfl) (by clear hret hl hS hD hP hK hA hN hts hx hb hr hml hown hlocks hiX3 ih1; first | (rw [show jAllows t ftw fts x y = true from decide_eq_true (fun j hj => hg j (by omega))]; rfl) | (rw [show jAllows t ftw fts x y = false from decide_eq_false (fun q_ => absurd (q_ i hlt (by assumption)) (by assumption))]; rfl)) hP hD hS
  exact L2 (t + 1) 0 (by omega) (by first | assumption | omega) (by clear hret hl hS hD hP hK hA hN hts hx hb hr hml hown hlocks hiX3 L2; intro j hj; omega) _ _ _ hP hD hS (lv_sub hl [1, 2, 3, 0] rfl)
