abbrev rm_c_X4_count : Room := { frames := 0, cells := 0, slots := 0, locals := 0 }
set_option maxHeartbeats 400000 in
set_option maxRecDepth 20000 in
theorem c_X4_count {l : Launch} {D : va_G} {cA : ClassId} {x0 : Nat} {h0 : Nat} {b0 : Nat} {t0 : Nat} {t1 : Nat} {t2 : Nat} {o0 : Nat} {ik : Int32} {cr : Int32} {q : Nat} {n : Nat} {f : Nat → Int32} {qk : Nat} {qs : Nat} {N : Nat} {pt : Int32} {wd : Nat} {tw : Nat} {ts : Nat} {la : Int32} {be : Int32} {ou : Int32} {si : Int32} {en : Int32} {w0 : Int32} {w1 : Int32} {br : Int32} {td : Int32} {wh : Int32} : zMi l yX4_count wsX4_count rm_c_X4_count D cA [(x0, .inr (4, [.ref h0, .ref b0, .ref t0, .ref t1, .ref t2, .ref o0, .int ik, .int cr])), (h0, .inr (2, [.ref q, .int (nI n)])), (q, .inl (cA, 18, .inl f)), (b0, .inr (0, [.ref qk, .ref qs, .int (nI N), .int pt])), (t0, .inr (3, [.int la, .int be, .int ou, .int si, .int en, .int w0, .int w1, .int br, .ref wd, .int td, .ref tw, .ref ts]))] [.ref x0, .int wh] (fun (r : Int32) (_ : Unit) => r = jCount N n pt la be si en w0 w1 br td cr wh) (fun (_ : Unit) => [(x0, .inr (4, [.ref h0, .ref b0, .ref t0, .ref t1, .ref t2, .ref o0, .int ik, .int cr])), (h0, .inr (2, [.ref q, .int (nI n)])), (q, .inl (cA, 18, .inl f)), (b0, .inr (0, [.ref qk, .ref qs, .int (nI N), .int pt])), (t0, .inr (3, [.int la, .int be, .int ou, .int si, .int en, .int w0, .int w1, .int br, .ref wd, .int td, .ref tw, .ref ts]))]) := by
  refine z_enteri (cc := cX4_count) (maxL := 2) (ty := .int) (by decide) rfl (Nat.le_of_ble_eq_true rfl) (fun p e s m args below meth c ls A H0 H locs Q hi_ hA hK hP hD hS hl hret => ?_)
  obtain ⟨hx, hb, hr, hml, hown, hts, hlocks, hN⟩ := hi_
  have hl : lv_has ls 2 [(0, .ref x0), (1, .int wh)] := hl
  have hiX0 : ∀ w ∈ wsX00, w ∈ wsX4_count := by decide +kernel
  have hiX2 : ∀ w ∈ wsX20, w ∈ wsX4_count := by decide +kernel
  have hiX3 : ∀ w ∈ wsX30, w ∈ wsX4_count := by decide +kernel
  have hiX4 : ∀ w ∈ wsX40, w ∈ wsX4_count := by decide +kernel
  refine lv_iload_n hx hb dX4_count_0 rfl (lv_at hl 1 rfl) ?_
  by_cases c1_1v0 : wh = 0
  · skip
    refine lv_tableIn (off := 63) (tgt := 64) hx hb dX4_count_1 (by rw [c1_1v0]; decide) (by rw [c1_1v0]; decide) (by rw [c1_1v0]; rfl) (by decide) ?_
    refine lv_aload_n hx hb dX4_count_64 rfl (lv_at hl 0 rfl) ?_
    refine va_get (D := D) (ci := 4) (v := .ref b0) (C := RX4) (T := TX4) (N := 8) hx hb hts hiX4 hown hK hP 0 rfl rfl 1 (by decide) (hts (.fieldLink RX4 19 "HeardSecond" "bench" "LHeardSecond$Bench;") (by decide +kernel)) (fun _ h9 => h9) rfl dX4_count_65 ?_
    refine va_getN (D := D) (ci := 0) (v := .int (nI N)) (C := RX0) (T := TX0) (N := 4) hx hb hts hiX0 hown hK hP 3 rfl rfl 2 (by decide) (hN.getb 2 rfl) (fun _ h9 => h9) rfl dX4_count_68 ?_
    -- path 1
    exact hret (nI N) () _ _ _ _ dX4_count_71 (rfl) (by clear hret hl hS hD hP hK hA hN hts hx hb hr hml hown hlocks hiX0 hiX2 hiX3 hiX4; grind [jCount]) hP hD hS
  by_cases c1_1v1 : wh = 1
  · skip
    refine lv_tableIn (off := 71) (tgt := 72) hx hb dX4_count_1 (by rw [c1_1v1]; decide) (by rw [c1_1v1]; decide) (by rw [c1_1v1]; rfl) (by decide) ?_
    refine lv_aload_n hx hb dX4_count_72 rfl (lv_at hl 0 rfl) ?_
    refine va_get (D := D) (ci := 4) (v := .ref b0) (C := RX4) (T := TX4) (N := 8) hx hb hts hiX4 hown hK hP 0 rfl rfl 1 (by decide) (hts (.fieldLink RX4 19 "HeardSecond" "bench" "LHeardSecond$Bench;") (by decide +kernel)) (fun _ h9 => h9) rfl dX4_count_73 ?_
    refine va_getN (D := D) (ci := 0) (v := .int pt) (C := RX0) (T := TX0) (N := 4) hx hb hts hiX0 hown hK hP 3 rfl rfl 3 (by decide) (hN.getb 4 rfl) (fun _ h9 => h9) rfl dX4_count_76 ?_
    -- path 2
    exact hret (pt) () _ _ _ _ dX4_count_79 (rfl) (by clear hret hl hS hD hP hK hA hN hts hx hb hr hml hown hlocks hiX0 hiX2 hiX3 hiX4; grind [jCount]) hP hD hS
  by_cases c1_1v2 : wh = 2
  · skip
    refine lv_tableIn (off := 79) (tgt := 80) hx hb dX4_count_1 (by rw [c1_1v2]; decide) (by rw [c1_1v2]; decide) (by rw [c1_1v2]; rfl) (by decide) ?_
    refine lv_aload_n hx hb dX4_count_80 rfl (lv_at hl 0 rfl) ?_
    refine va_get (D := D) (ci := 4) (v := .ref t0) (C := RX4) (T := TX4) (N := 8) hx hb hts hiX4 hown hK hP 0 rfl rfl 2 (by decide) (hts (.fieldLink RX4 26 "HeardSecond" "now" "LHeardSecond$Trial;") (by decide +kernel)) (fun _ h9 => h9) rfl dX4_count_81 ?_
    refine va_getN (D := D) (ci := 3) (v := .int la) (C := RX3) (T := TX3) (N := 12) hx hb hts hiX3 hown hK hP 4 rfl rfl 0 (by decide) (hN.getb 6 rfl) (fun _ h9 => h9) rfl dX4_count_84 ?_
    -- path 3
    exact hret (la) () _ _ _ _ dX4_count_87 (rfl) (by clear hret hl hS hD hP hK hA hN hts hx hb hr hml hown hlocks hiX0 hiX2 hiX3 hiX4; grind [jCount]) hP hD hS
  by_cases c1_1v3 : wh = 3
  · skip
    refine lv_tableIn (off := 87) (tgt := 88) hx hb dX4_count_1 (by rw [c1_1v3]; decide) (by rw [c1_1v3]; decide) (by rw [c1_1v3]; rfl) (by decide) ?_
    refine lv_aload_n hx hb dX4_count_88 rfl (lv_at hl 0 rfl) ?_
    refine va_get (D := D) (ci := 4) (v := .ref t0) (C := RX4) (T := TX4) (N := 8) hx hb hts hiX4 hown hK hP 0 rfl rfl 2 (by decide) (hts (.fieldLink RX4 26 "HeardSecond" "now" "LHeardSecond$Trial;") (by decide +kernel)) (fun _ h9 => h9) rfl dX4_count_89 ?_
    refine va_getN (D := D) (ci := 3) (v := .int be) (C := RX3) (T := TX3) (N := 12) hx hb hts hiX3 hown hK hP 4 rfl rfl 1 (by decide) (hN.getb 8 rfl) (fun _ h9 => h9) rfl dX4_count_92 ?_
    -- path 4
    exact hret (be) () _ _ _ _ dX4_count_95 (rfl) (by clear hret hl hS hD hP hK hA hN hts hx hb hr hml hown hlocks hiX0 hiX2 hiX3 hiX4; grind [jCount]) hP hD hS
  by_cases c1_1v4 : wh = 4
  · skip
    refine lv_tableIn (off := 95) (tgt := 96) hx hb dX4_count_1 (by rw [c1_1v4]; decide) (by rw [c1_1v4]; decide) (by rw [c1_1v4]; rfl) (by decide) ?_
    refine lv_aload_n hx hb dX4_count_96 rfl (lv_at hl 0 rfl) ?_
    refine va_get (D := D) (ci := 4) (v := .ref t0) (C := RX4) (T := TX4) (N := 8) hx hb hts hiX4 hown hK hP 0 rfl rfl 2 (by decide) (hts (.fieldLink RX4 26 "HeardSecond" "now" "LHeardSecond$Trial;") (by decide +kernel)) (fun _ h9 => h9) rfl dX4_count_97 ?_
    refine va_getN (D := D) (ci := 3) (v := .int si) (C := RX3) (T := TX3) (N := 12) hx hb hts hiX3 hown hK hP 4 rfl rfl 3 (by decide) (hN.getb 11 rfl) (fun _ h9 => h9) rfl dX4_count_100 ?_
    -- path 5
    exact hret (si) () _ _ _ _ dX4_count_103 (rfl) (by clear hret hl hS hD hP hK hA hN hts hx hb hr hml hown hlocks hiX0 hiX2 hiX3 hiX4; grind [jCount]) hP hD hS
  by_cases c1_1v5 : wh = 5
  · skip
    refine lv_tableIn (off := 103) (tgt := 104) hx hb dX4_count_1 (by rw [c1_1v5]; decide) (by rw [c1_1v5]; decide) (by rw [c1_1v5]; rfl) (by decide) ?_
    refine lv_aload_n hx hb dX4_count_104 rfl (lv_at hl 0 rfl) ?_
    refine va_get (D := D) (ci := 4) (v := .ref t0) (C := RX4) (T := TX4) (N := 8) hx hb hts hiX4 hown hK hP 0 rfl rfl 2 (by decide) (hts (.fieldLink RX4 26 "HeardSecond" "now" "LHeardSecond$Trial;") (by decide +kernel)) (fun _ h9 => h9) rfl dX4_count_105 ?_
    refine va_getN (D := D) (ci := 3) (v := .int en) (C := RX3) (T := TX3) (N := 12) hx hb hts hiX3 hown hK hP 4 rfl rfl 4 (by decide) (hN.getb 12 rfl) (fun _ h9 => h9) rfl dX4_count_108 ?_
    -- path 6
    exact hret (en) () _ _ _ _ dX4_count_111 (rfl) (by clear hret hl hS hD hP hK hA hN hts hx hb hr hml hown hlocks hiX0 hiX2 hiX3 hiX4; grind [jCount]) hP hD hS
  by_cases c1_1v6 : wh = 6
  · skip
    refine lv_tableIn (off := 111) (tgt := 112) hx hb dX4_count_1 (by rw [c1_1v6]; decide) (by rw [c1_1v6]; decide) (by rw [c1_1v6]; rfl) (by decide) ?_
    refine lv_aload_n hx hb dX4_count_112 rfl (lv_at hl 0 rfl) ?_
    refine va_get (D := D) (ci := 4) (v := .ref t0) (C := RX4) (T := TX4) (N := 8) hx hb hts hiX4 hown hK hP 0 rfl rfl 2 (by decide) (hts (.fieldLink RX4 26 "HeardSecond" "now" "LHeardSecond$Trial;") (by decide +kernel)) (fun _ h9 => h9) rfl dX4_count_113 ?_
    refine va_getN (D := D) (ci := 3) (v := .int w0) (C := RX3) (T := TX3) (N := 12) hx hb hts hiX3 hown hK hP 4 rfl rfl 5 (by decide) (hN.getb 13 rfl) (fun _ h9 => h9) rfl dX4_count_116 ?_
    -- path 7
    exact hret (w0) () _ _ _ _ dX4_count_119 (rfl) (by clear hret hl hS hD hP hK hA hN hts hx hb hr hml hown hlocks hiX0 hiX2 hiX3 hiX4; grind [jCount]) hP hD hS
  by_cases c1_1v7 : wh = 7
  · skip
    refine lv_tableIn (off := 119) (tgt := 120) hx hb dX4_count_1 (by rw [c1_1v7]; decide) (by rw [c1_1v7]; decide) (by rw [c1_1v7]; rfl) (by decide) ?_
    refine lv_aload_n hx hb dX4_count_120 rfl (lv_at hl 0 rfl) ?_
    refine va_get (D := D) (ci := 4) (v := .ref t0) (C := RX4) (T := TX4) (N := 8) hx hb hts hiX4 hown hK hP 0 rfl rfl 2 (by decide) (hts (.fieldLink RX4 26 "HeardSecond" "now" "LHeardSecond$Trial;") (by decide +kernel)) (fun _ h9 => h9) rfl dX4_count_121 ?_
    refine va_getN (D := D) (ci := 3) (v := .int w1) (C := RX3) (T := TX3) (N := 12) hx hb hts hiX3 hown hK hP 4 rfl rfl 6 (by decide) (hN.getb 14 rfl) (fun _ h9 => h9) rfl dX4_count_124 ?_
    -- path 8
    exact hret (w1) () _ _ _ _ dX4_count_127 (rfl) (by clear hret hl hS hD hP hK hA hN hts hx hb hr hml hown hlocks hiX0 hiX2 hiX3 hiX4; grind [jCount]) hP hD hS
  by_cases c1_1v8 : wh = 8
  · skip
    refine lv_tableIn (off := 127) (tgt := 128) hx hb dX4_count_1 (by rw [c1_1v8]; decide) (by rw [c1_1v8]; decide) (by rw [c1_1v8]; rfl) (by decide) ?_
    refine lv_aload_n hx hb dX4_count_128 rfl (lv_at hl 0 rfl) ?_
    refine va_get (D := D) (ci := 4) (v := .ref t0) (C := RX4) (T := TX4) (N := 8) hx hb hts hiX4 hown hK hP 0 rfl rfl 2 (by decide) (hts (.fieldLink RX4 26 "HeardSecond" "now" "LHeardSecond$Trial;") (by decide +kernel)) (fun _ h9 => h9) rfl dX4_count_129 ?_
    refine va_getN (D := D) (ci := 3) (v := .int br) (C := RX3) (T := TX3) (N := 12) hx hb hts hiX3 hown hK hP 4 rfl rfl 7 (by decide) (hN.getb 15 rfl) (fun _ h9 => h9) rfl dX4_count_132 ?_
    -- path 9
    exact hret (br) () _ _ _ _ dX4_count_135 (rfl) (by clear hret hl hS hD hP hK hA hN hts hx hb hr hml hown hlocks hiX0 hiX2 hiX3 hiX4; grind [jCount]) hP hD hS
  by_cases c1_1v9 : wh = 9
  · skip
    refine lv_tableIn (off := 135) (tgt := 136) hx hb dX4_count_1 (by rw [c1_1v9]; decide) (by rw [c1_1v9]; decide) (by rw [c1_1v9]; rfl) (by decide) ?_
    refine lv_aload_n hx hb dX4_count_136 rfl (lv_at hl 0 rfl) ?_
    refine va_get (D := D) (ci := 4) (v := .ref t0) (C := RX4) (T := TX4) (N := 8) hx hb hts hiX4 hown hK hP 0 rfl rfl 2 (by decide) (hts (.fieldLink RX4 26 "HeardSecond" "now" "LHeardSecond$Trial;") (by decide +kernel)) (fun _ h9 => h9) rfl dX4_count_137 ?_
    refine va_getN (D := D) (ci := 3) (v := .int td) (C := RX3) (T := TX3) (N := 12) hx hb hts hiX3 hown hK hP 4 rfl rfl 9 (by decide) (hN.getb 17 rfl) (fun _ h9 => h9) rfl dX4_count_140 ?_
    -- path 10
    exact hret (td) () _ _ _ _ dX4_count_143 (rfl) (by clear hret hl hS hD hP hK hA hN hts hx hb hr hml hown hlocks hiX0 hiX2 hiX3 hiX4; grind [jCount]) hP hD hS
  by_cases c1_1v10 : wh = 10
  · skip
    refine lv_tableIn (off := 143) (tgt := 144) hx hb dX4_count_1 (by rw [c1_1v10]; decide) (by rw [c1_1v10]; decide) (by rw [c1_1v10]; rfl) (by decide) ?_
    refine lv_aload_n hx hb dX4_count_144 rfl (lv_at hl 0 rfl) ?_
    refine va_get (D := D) (ci := 4) (v := .ref h0) (C := RX4) (T := TX4) (N := 8) hx hb hts hiX4 hown hK hP 0 rfl rfl 0 (by decide) (hts (.fieldLink RX4 10 "HeardSecond" "page" "LHeardSecond$Page;") (by decide +kernel)) (fun _ h9 => h9) rfl dX4_count_145 ?_
    refine va_getN (D := D) (ci := 2) (v := .int (nI n)) (C := RX2) (T := TX2) (N := 2) hx hb hts hiX2 hown hK hP 1 rfl rfl 1 (by decide) (hN.getb 1 rfl) (fun _ h9 => h9) rfl dX4_count_148 ?_
    -- path 11
    exact hret (nI n) () _ _ _ _ dX4_count_151 (rfl) (by clear hret hl hS hD hP hK hA hN hts hx hb hr hml hown hlocks hiX0 hiX2 hiX3 hiX4; grind [jCount]) hP hD hS
  by_cases c1_1v11 : wh = 11
  · skip
    refine lv_tableIn (off := 151) (tgt := 152) hx hb dX4_count_1 (by rw [c1_1v11]; decide) (by rw [c1_1v11]; decide) (by rw [c1_1v11]; rfl) (by decide) ?_
    refine lv_aload_n hx hb dX4_count_152 rfl (lv_at hl 0 rfl) ?_
    refine va_get (D := D) (ci := 4) (v := .int cr) (C := RX4) (T := TX4) (N := 8) hx hb hts hiX4 hown hK hP 0 rfl rfl 7 (by decide) (hts (.fieldLink RX4 49 "HeardSecond" "courtsRead" "I") (by decide +kernel)) (fun _ h9 => h9) rfl dX4_count_153 ?_
    -- path 12
    exact hret (cr) () _ _ _ _ dX4_count_156 (rfl) (by clear hret hl hS hD hP hK hA hN hts hx hb hr hml hown hlocks hiX0 hiX2 hiX3 hiX4; grind [jCount]) hP hD hS
  refine lv_tableOut (tgt := 157) hx hb dX4_count_1 (z_out0_11 c1_1v0 c1_1v1 c1_1v2 c1_1v3 c1_1v4 c1_1v5 c1_1v6 c1_1v7 c1_1v8 c1_1v9 c1_1v10 c1_1v11) (by decide) ?_
  refine lv_bipush (v := (-102)) hx hb dX4_count_157 (by decide) ?_
  -- path 13
  exact hret ((-102)) () _ _ _ _ dX4_count_159 (rfl) (by clear hret hl hS hD hP hK hA hN hts hx hb hr hml hown hlocks hiX0 hiX2 hiX3 hiX4; grind [jCount]) hP hD hS
abbrev rm_c_X4_runSessions : Room := { frames := 4, cells := 0, slots := 0, locals := 92 }
set_option maxHeartbeats 1000000 in
set_option maxRecDepth 20000 in
theorem c_X4_runSessions {l : Launch} {D : va_G} {cA : ClassId} {x0 : Nat} {h0 : Nat} {b0 : Nat} {t0 : Nat} {t1 : Nat} {t2 : Nat} {o0 : Nat} {ik : Int32} {cr : Int32} {qk : Nat} {qs : Nat} {N : Nat} {pt : Int32} {kf : Nat → Int32} {sf : Nat → Int32} {wd2 : Nat} {tw2 : Nat} {ts2 : Nat} {la2 : Int32} {be2 : Int32} {ou2 : Int32} {si2 : Int32} {en2 : Int32} {w02 : Int32} {w12 : Int32} {br2 : Int32} {td2 : Int32} {fw2 : Nat → Int32} {mb : Nat} {sd : Int32} (h5 : N ≤ 5) (hmb : mb ≤ 60) : zMi l yX4_runSessions wsX4_runSessions rm_c_X4_runSessions D cA [(x0, .inr (4, [.ref h0, .ref b0, .ref t0, .ref t1, .ref t2, .ref o0, .int ik, .int cr])), (b0, .inr (0, [.ref qk, .ref qs, .int (nI N), .int pt])), (qk, .inl (cA, 5, .inl kf)), (qs, .inl (cA, 5, .inl sf)), (t2, .inr (3, [.int la2, .int be2, .int ou2, .int si2, .int en2, .int w02, .int w12, .int br2, .ref wd2, .int td2, .ref tw2, .ref ts2])), (wd2, .inl (cA, 5, .inl fw2))] [.ref x0, .int (nI mb), .int sd] (fun (r : Int32) (u : jT) => r = Int64.toInt32 (jRun N kf sf pt (Int32.toInt64 sd) (la2, be2, ou2, si2, en2, w02, w12, br2, fw2) mb).1 ∧ u = (jRun N kf sf pt (Int32.toInt64 sd) (la2, be2, ou2, si2, en2, w02, w12, br2, fw2) mb).2) (fun (u : jT) => [(x0, .inr (4, [.ref h0, .ref b0, .ref t0, .ref t1, .ref t2, .ref o0, .int ik, .int cr])), (b0, .inr (0, [.ref qk, .ref qs, .int (nI N), .int pt])), (qk, .inl (cA, 5, .inl kf)), (qs, .inl (cA, 5, .inl sf)), (t2, .inr (3, [.int u.1, .int u.2.1, .int u.2.2.1, .int u.2.2.2.1, .int u.2.2.2.2.1, .int u.2.2.2.2.2.1, .int u.2.2.2.2.2.2.1, .int u.2.2.2.2.2.2.2.1, .ref wd2, .int td2, .ref tw2, .ref ts2])), (wd2, .inl (cA, 5, .inl u.2.2.2.2.2.2.2.2))]) := by
  refine z_enteri (cc := cX4_runSessions) (maxL := 8) (ty := .int) (by decide) rfl (Nat.le_of_ble_eq_true rfl) (fun p e s m args below meth c ls A H0 H locs Q hi_ hA hK hP hD hS hl hret => ?_)
  obtain ⟨hx, hb, hr, hml, hown, hts, hlocks, hN⟩ := hi_
  have hl : lv_has ls 8 [(0, .ref x0), (1, .int (nI mb)), (2, .int sd)] := hl
  have hiX0 : ∀ w ∈ wsX00, w ∈ wsX4_runSessions := by decide +kernel
  have hiX4 : ∀ w ∈ wsX40, w ∈ wsX4_runSessions := by decide +kernel
  refine lv_iload_n hx hb dX4_runSessions_0 rfl (lv_at hl 2 rfl) ?_
  refine lv_i2l hx hb dX4_runSessions_1 rfl ?_
  refine lv_lstore_n (lv' := [(3, .long (Int32.toInt64 sd)), (0, .ref x0), (1, .int (nI mb)), (2, .int sd)]) hx hb dX4_runSessions_2 rfl hl (by decide) rfl (fun ls hl => ?_)
  refine lv_iconst (v := nI 0) hx hb dX4_runSessions_3 (by decide) ?_
  refine lv_istore (lv' := [(5, .int (nI 0)), (3, .long (Int32.toInt64 sd)), (0, .ref x0), (1, .int (nI mb)), (2, .int sd)]) hx hb dX4_runSessions_4 hl (by decide) rfl (fun ls hl => ?_)
  have L6 : ∀ (n_ : Nat) (k : Nat) (d : Int64) (sg : jT) (hm_ : mb + 1 ≤ k + n_) (hk_ : k ≤ mb) (hk : (d, sg) = jRun N kf sf pt (Int32.toInt64 sd) (la2, be2, ou2, si2, en2, w02, w12, br2, fw2) k) (H : Heap) (locs : List Loc) (ls : Array Slot), va_P D vwCl [(x0, .inr (4, [.ref h0, .ref b0, .ref t0, .ref t1, .ref t2, .ref o0, .int ik, .int cr])), (b0, .inr (0, [.ref qk, .ref qs, .int (nI N), .int pt])), (qk, .inl (cA, 5, .inl kf)), (qs, .inl (cA, 5, .inl sf)), (t2, .inr (3, [.int sg.1, .int sg.2.1, .int sg.2.2.1, .int sg.2.2.2.1, .int sg.2.2.2.2.1, .int sg.2.2.2.2.2.1, .int sg.2.2.2.2.2.2.1, .int sg.2.2.2.2.2.2.2.1, .ref wd2, .int td2, .ref tw2, .ref ts2])), (wd2, .inl (cA, 5, .inl sg.2.2.2.2.2.2.2.2))] H → va_D A [(x0, .inr (4, [.ref h0, .ref b0, .ref t0, .ref t1, .ref t2, .ref o0, .int ik, .int cr])), (b0, .inr (0, [.ref qk, .ref qs, .int (nI N), .int pt])), (qk, .inl (cA, 5, .inl kf)), (qs, .inl (cA, 5, .inl sf)), (t2, .inr (3, [.int sg.1, .int sg.2.1, .int sg.2.2.1, .int sg.2.2.2.1, .int sg.2.2.2.2.1, .int sg.2.2.2.2.2.1, .int sg.2.2.2.2.2.2.1, .int sg.2.2.2.2.2.2.2.1, .ref wd2, .int td2, .ref tw2, .ref ts2])), (wd2, .inl (cA, 5, .inl sg.2.2.2.2.2.2.2.2))] → va_S A H0 H locs → lv_has ls 8 [(0, .ref x0), (1, .int (nI mb)), (3, .long d), (5, .int (nI k))] → W p l e rm_c_X4_runSessions s m args below meth c H locs 0 0 Q (F0 m 6 ls []) := by
    intro n_
    induction n_ with
    | zero =>
      intro k d sg hm_ hk_ hk
      exact absurd hm_ (by omega)
    | succ n_ ih_ =>
      intro k d sg hm_ hk_ hk H locs ls hP hD hS hl
      have ih1 := ih_
      clear ih_
      refine lv_iload hx hb dX4_runSessions_6 (lv_at hl 3 rfl) ?_
      refine lv_iload_n hx hb dX4_runSessions_8 rfl (lv_at hl 1 rfl) ?_
      refine lv_icmp_ge (tgt := 84) hx hb dX4_runSessions_9 (by decide) (fun c9_2 => ?_) (fun c9_2 => ?_)
      · skip
        have ht_ : k = mb := by have := (nI_leI (a := mb) (b := k) (by omega) (by omega)).mp c9_2; omega
        refine lv_lload_n hx hb dX4_runSessions_84 rfl (lv_at hl 2 rfl) ?_
        refine lv_l2i hx hb dX4_runSessions_85 rfl ?_
        -- path 1
        exact hret (Int64.toInt32 d) (sg.1, (sg.2.1, (sg.2.2.1, (sg.2.2.2.1, (sg.2.2.2.2.1, (sg.2.2.2.2.2.1, (sg.2.2.2.2.2.2.1, (sg.2.2.2.2.2.2.2.1, sg.2.2.2.2.2.2.2.2)))))))) _ _ _ _ dX4_runSessions_86 (rfl) (by clear hret hl hS hD hP hK hA hN hts hx hb hr hml hown hlocks hiX0 hiX4 ih1; rw [← ht_, ← hk]; exact ⟨rfl, rfl⟩) hP hD hS
      · skip
        have hltk : k < mb := Nat.lt_of_not_le (fun q_ => c9_2 ((nI_leI (a := mb) (b := k) (by omega) (by omega)).mpr q_))
        refine lv_iconst (v := 0) hx hb dX4_runSessions_12 (by decide) ?_
        refine lv_istore (lv' := [(6, .int 0), (0, .ref x0), (1, .int (nI mb)), (3, .long d), (5, .int (nI k))]) hx hb dX4_runSessions_13 hl (by decide) rfl (fun ls hl => ?_)
        refine lv_iconst (v := nI 0) hx hb dX4_runSessions_15 (by decide) ?_
        refine lv_istore (lv' := [(7, .int (nI 0)), (6, .int 0), (0, .ref x0), (1, .int (nI mb)), (3, .long d), (5, .int (nI k))]) hx hb dX4_runSessions_16 hl (by decide) rfl (fun ls hl => ?_)
        have L18 : ∀ (n_ : Nat) (sx : Nat) (d2 : Int64) (v : Int32) (hm_ : N + 1 ≤ sx + n_) (hs : sx ≤ N) (hd : (d2, v) = jDraw d sx) (H : Heap) (locs : List Loc) (ls : Array Slot), va_P D vwCl [(x0, .inr (4, [.ref h0, .ref b0, .ref t0, .ref t1, .ref t2, .ref o0, .int ik, .int cr])), (b0, .inr (0, [.ref qk, .ref qs, .int (nI N), .int pt])), (qk, .inl (cA, 5, .inl kf)), (qs, .inl (cA, 5, .inl sf)), (t2, .inr (3, [.int sg.1, .int sg.2.1, .int sg.2.2.1, .int sg.2.2.2.1, .int sg.2.2.2.2.1, .int sg.2.2.2.2.2.1, .int sg.2.2.2.2.2.2.1, .int sg.2.2.2.2.2.2.2.1, .ref wd2, .int td2, .ref tw2, .ref ts2])), (wd2, .inl (cA, 5, .inl sg.2.2.2.2.2.2.2.2))] H → va_D A [(x0, .inr (4, [.ref h0, .ref b0, .ref t0, .ref t1, .ref t2, .ref o0, .int ik, .int cr])), (b0, .inr (0, [.ref qk, .ref qs, .int (nI N), .int pt])), (qk, .inl (cA, 5, .inl kf)), (qs, .inl (cA, 5, .inl sf)), (t2, .inr (3, [.int sg.1, .int sg.2.1, .int sg.2.2.1, .int sg.2.2.2.1, .int sg.2.2.2.2.1, .int sg.2.2.2.2.2.1, .int sg.2.2.2.2.2.2.1, .int sg.2.2.2.2.2.2.2.1, .ref wd2, .int td2, .ref tw2, .ref ts2])), (wd2, .inl (cA, 5, .inl sg.2.2.2.2.2.2.2.2))] → va_S A H0 H locs → lv_has ls 8 [(0, .ref x0), (1, .int (nI mb)), (3, .long d2), (5, .int (nI k)), (6, .int v), (7, .int (nI sx))] → W p l e rm_c_X4_runSessions s m args below meth c H locs 0 0 Q (F0 m 18 ls []) := by
          intro n_
          induction n_ with
          | zero =>
            intro sx d2 v hm_ hs hd
            exact absurd hm_ (by omega)
          | succ n_ ih_ =>
            intro sx d2 v hm_ hs hd H locs ls hP hD hS hl
            have ih3 := ih_
            clear ih_
            refine lv_iload hx hb dX4_runSessions_18 (lv_at hl 5 rfl) ?_
            refine lv_aload_n hx hb dX4_runSessions_20 rfl (lv_at hl 0 rfl) ?_
            refine va_get (D := D) (ci := 4) (v := .ref b0) (C := RX4) (T := TX4) (N := 8) hx hb hts hiX4 hown hK hP 0 rfl rfl 1 (by decide) (hts (.fieldLink RX4 19 "HeardSecond" "bench" "LHeardSecond$Bench;") (by decide +kernel)) (fun _ h9 => h9) rfl dX4_runSessions_21 ?_
            refine va_getN (D := D) (ci := 0) (v := .int (nI N)) (C := RX0) (T := TX0) (N := 4) hx hb hts hiX0 hown hK hP 1 rfl rfl 2 (by decide) (hN.getb 2 rfl) (fun _ h9 => h9) rfl dX4_runSessions_24 ?_
            refine lv_icmp_ge (tgt := 64) hx hb dX4_runSessions_27 (by decide) (fun c27_4 => ?_) (fun c27_4 => ?_)
            · skip
              have ht_ : sx = N := by have := (nI_leI (a := N) (b := sx) (by omega) (by omega)).mp c27_4; omega
              refine lv_aload_n hx hb dX4_runSessions_64 rfl (lv_at hl 0 rfl) ?_
              refine va_get (D := D) (ci := 4) (v := .ref t2) (C := RX4) (T := TX4) (N := 8) hx hb hts hiX4 hown hK hP 0 rfl rfl 4 (by decide) (hts (.fieldLink RX4 33 "HeardSecond" "trying" "LHeardSecond$Trial;") (by decide +kernel)) (fun _ h9 => h9) rfl dX4_runSessions_65 ?_
              refine lv_aload_n hx hb dX4_runSessions_68 rfl (lv_at hl 0 rfl) ?_
              refine va_get (D := D) (ci := 4) (v := .ref b0) (C := RX4) (T := TX4) (N := 8) hx hb hts hiX4 hown hK hP 0 rfl rfl 1 (by decide) (hts (.fieldLink RX4 19 "HeardSecond" "bench" "LHeardSecond$Bench;") (by decide +kernel)) (fun _ h9 => h9) rfl dX4_runSessions_69 ?_
              refine lv_iload hx hb dX4_runSessions_72 (lv_at hl 4 rfl) ?_
              refine z_bwi (wr := [(x0, .inr (4, [.ref h0, .ref b0, .ref t0, .ref t1, .ref t2, .ref o0, .int ik, .int cr]))]) (ws' := fun u_7 => [(x0, .inr (4, [.ref h0, .ref b0, .ref t0, .ref t1, .ref t2, .ref o0, .int ik, .int cr])), (b0, .inr (0, [.ref qk, .ref qs, .int (nI N), .int pt])), (qk, .inl (cA, 5, .inl kf)), (qs, .inl (cA, 5, .inl sf)), (t2, .inr (3, [.int u_7.1, .int u_7.2.1, .int u_7.2.2.1, .int u_7.2.2.2.1, .int u_7.2.2.2.2.1, .int u_7.2.2.2.2.2.1, .int u_7.2.2.2.2.2.2.1, .int u_7.2.2.2.2.2.2.2.1, .ref wd2, .int td2, .ref tw2, .ref ts2])), (wd2, .inl (cA, 5, .inl u_7.2.2.2.2.2.2.2.2))]) (z_runV (As := [.ref b0, .int v]) (rest := []) (ci := 3) ⟨hx, hb, hml, hown, hts⟩ (c_X3_breathe (t0 := t2) (wd := wd2) (tw := tw2) (ts := ts2) (la := sg.1) (be := sg.2.1) (ou := sg.2.2.1) (si := sg.2.2.2.1) (en := sg.2.2.2.2.1) (w0 := sg.2.2.2.2.2.1) (w1 := sg.2.2.2.2.2.2.1) (br := sg.2.2.2.2.2.2.2.1) (td := td2) (fw := sg.2.2.2.2.2.2.2.2) (b0 := b0) (qk := qk) (qs := qs) (N := N) (pt := pt) (kf := kf) (sf := sf) (who := v) (by first | assumption | omega) _) (cwV 2 hts gX4_runSessions_X3_breathe rfl rfl rfl (by decide +kernel) ⟨Nat.le_of_ble_eq_true rfl, Nat.le_of_ble_eq_true rfl⟩) hK hP hD hN [4, 5, 1, 2, 3] rfl rfl rfl rfl rfl hl.1 rfl (Nat.le_of_ble_eq_true rfl) dX4_runSessions_74 ⟨Nat.zero_le _, Nat.zero_le _⟩) hP hD hS hA [4, 5, 1, 2, 3] [0] [0, 3, 4, 5, 1, 2] rfl rfl rfl (by decide) rfl (fun _ => rfl) (fun r_6 u_7 H locs hq_5 hP hD hS => ?_)
              obtain ⟨rfl, rfl⟩ : r_6 = (jBr N kf sg.2.2.1 sg.1 v 5).1 ∧ u_7 = jBreathe N kf sf pt v sg.1 sg.2.1 sg.2.2.1 sg.2.2.2.1 sg.2.2.2.2.1 sg.2.2.2.2.2.1 sg.2.2.2.2.2.2.1 sg.2.2.2.2.2.2.2.1 sg.2.2.2.2.2.2.2.2 := hq_5
              have hP : va_P D vwCl [(x0, .inr (4, [.ref h0, .ref b0, .ref t0, .ref t1, .ref t2, .ref o0, .int ik, .int cr])), (b0, .inr (0, [.ref qk, .ref qs, .int (nI N), .int pt])), (qk, .inl (cA, 5, .inl kf)), (qs, .inl (cA, 5, .inl sf)), (t2, .inr (3, [.int ((jBreathe N kf sf pt v sg.1 sg.2.1 sg.2.2.1 sg.2.2.2.1 sg.2.2.2.2.1 sg.2.2.2.2.2.1 sg.2.2.2.2.2.2.1 sg.2.2.2.2.2.2.2.1 sg.2.2.2.2.2.2.2.2).1), .int ((jBreathe N kf sf pt v sg.1 sg.2.1 sg.2.2.1 sg.2.2.2.1 sg.2.2.2.2.1 sg.2.2.2.2.2.1 sg.2.2.2.2.2.2.1 sg.2.2.2.2.2.2.2.1 sg.2.2.2.2.2.2.2.2).2.1), .int ((jBreathe N kf sf pt v sg.1 sg.2.1 sg.2.2.1 sg.2.2.2.1 sg.2.2.2.2.1 sg.2.2.2.2.2.1 sg.2.2.2.2.2.2.1 sg.2.2.2.2.2.2.2.1 sg.2.2.2.2.2.2.2.2).2.2.1), .int ((jBreathe N kf sf pt v sg.1 sg.2.1 sg.2.2.1 sg.2.2.2.1 sg.2.2.2.2.1 sg.2.2.2.2.2.1 sg.2.2.2.2.2.2.1 sg.2.2.2.2.2.2.2.1 sg.2.2.2.2.2.2.2.2).2.2.2.1), .int ((jBreathe N kf sf pt v sg.1 sg.2.1 sg.2.2.1 sg.2.2.2.1 sg.2.2.2.2.1 sg.2.2.2.2.2.1 sg.2.2.2.2.2.2.1 sg.2.2.2.2.2.2.2.1 sg.2.2.2.2.2.2.2.2).2.2.2.2.1), .int ((jBreathe N kf sf pt v sg.1 sg.2.1 sg.2.2.1 sg.2.2.2.1 sg.2.2.2.2.1 sg.2.2.2.2.2.1 sg.2.2.2.2.2.2.1 sg.2.2.2.2.2.2.2.1 sg.2.2.2.2.2.2.2.2).2.2.2.2.2.1), .int ((jBreathe N kf sf pt v sg.1 sg.2.1 sg.2.2.1 sg.2.2.2.1 sg.2.2.2.2.1 sg.2.2.2.2.2.1 sg.2.2.2.2.2.2.1 sg.2.2.2.2.2.2.2.1 sg.2.2.2.2.2.2.2.2).2.2.2.2.2.2.1), .int ((jBreathe N kf sf pt v sg.1 sg.2.1 sg.2.2.1 sg.2.2.2.1 sg.2.2.2.2.1 sg.2.2.2.2.2.1 sg.2.2.2.2.2.2.1 sg.2.2.2.2.2.2.2.1 sg.2.2.2.2.2.2.2.2).2.2.2.2.2.2.2.1), .ref wd2, .int td2, .ref tw2, .ref ts2])), (wd2, .inl (cA, 5, .inl ((jBreathe N kf sf pt v sg.1 sg.2.1 sg.2.2.1 sg.2.2.2.1 sg.2.2.2.2.1 sg.2.2.2.2.2.1 sg.2.2.2.2.2.2.1 sg.2.2.2.2.2.2.2.1 sg.2.2.2.2.2.2.2.2).2.2.2.2.2.2.2.2)))] H := hP
              have hD : va_D A [(x0, .inr (4, [.ref h0, .ref b0, .ref t0, .ref t1, .ref t2, .ref o0, .int ik, .int cr])), (b0, .inr (0, [.ref qk, .ref qs, .int (nI N), .int pt])), (qk, .inl (cA, 5, .inl kf)), (qs, .inl (cA, 5, .inl sf)), (t2, .inr (3, [.int ((jBreathe N kf sf pt v sg.1 sg.2.1 sg.2.2.1 sg.2.2.2.1 sg.2.2.2.2.1 sg.2.2.2.2.2.1 sg.2.2.2.2.2.2.1 sg.2.2.2.2.2.2.2.1 sg.2.2.2.2.2.2.2.2).1), .int ((jBreathe N kf sf pt v sg.1 sg.2.1 sg.2.2.1 sg.2.2.2.1 sg.2.2.2.2.1 sg.2.2.2.2.2.1 sg.2.2.2.2.2.2.1 sg.2.2.2.2.2.2.2.1 sg.2.2.2.2.2.2.2.2).2.1), .int ((jBreathe N kf sf pt v sg.1 sg.2.1 sg.2.2.1 sg.2.2.2.1 sg.2.2.2.2.1 sg.2.2.2.2.2.1 sg.2.2.2.2.2.2.1 sg.2.2.2.2.2.2.2.1 sg.2.2.2.2.2.2.2.2).2.2.1), .int ((jBreathe N kf sf pt v sg.1 sg.2.1 sg.2.2.1 sg.2.2.2.1 sg.2.2.2.2.1 sg.2.2.2.2.2.1 sg.2.2.2.2.2.2.1 sg.2.2.2.2.2.2.2.1 sg.2.2.2.2.2.2.2.2).2.2.2.1), .int ((jBreathe N kf sf pt v sg.1 sg.2.1 sg.2.2.1 sg.2.2.2.1 sg.2.2.2.2.1 sg.2.2.2.2.2.1 sg.2.2.2.2.2.2.1 sg.2.2.2.2.2.2.2.1 sg.2.2.2.2.2.2.2.2).2.2.2.2.1), .int ((jBreathe N kf sf pt v sg.1 sg.2.1 sg.2.2.1 sg.2.2.2.1 sg.2.2.2.2.1 sg.2.2.2.2.2.1 sg.2.2.2.2.2.2.1 sg.2.2.2.2.2.2.2.1 sg.2.2.2.2.2.2.2.2).2.2.2.2.2.1), .int ((jBreathe N kf sf pt v sg.1 sg.2.1 sg.2.2.1 sg.2.2.2.1 sg.2.2.2.2.1 sg.2.2.2.2.2.1 sg.2.2.2.2.2.2.1 sg.2.2.2.2.2.2.2.1 sg.2.2.2.2.2.2.2.2).2.2.2.2.2.2.1), .int ((jBreathe N kf sf pt v sg.1 sg.2.1 sg.2.2.1 sg.2.2.2.1 sg.2.2.2.2.1 sg.2.2.2.2.2.1 sg.2.2.2.2.2.2.1 sg.2.2.2.2.2.2.2.1 sg.2.2.2.2.2.2.2.2).2.2.2.2.2.2.2.1), .ref wd2, .int td2, .ref tw2, .ref ts2])), (wd2, .inl (cA, 5, .inl ((jBreathe N kf sf pt v sg.1 sg.2.1 sg.2.2.1 sg.2.2.2.1 sg.2.2.2.2.1 sg.2.2.2.2.2.1 sg.2.2.2.2.2.2.1 sg.2.2.2.2.2.2.2.1 sg.2.2.2.2.2.2.2.2).2.2.2.2.2.2.2.2)))] := hD
              refine lv_pop hx hb dX4_runSessions_77 rfl ?_
              refine lv_iinc (v := nI (k + 1)) (lv' := [(5, .int (nI (k + 1))), (0, .ref x0), (1, .int (nI mb)), (3, .long d2), (6, .int v), (7, .int (nI sx))]) hx hb dX4_runSessions_78 hl (k := 3) rfl (nI_1 k) (by decide) rfl (fun ls hl => ?_)
              refine lv_goto (tgt := 6) hx hb dX4_runSessions_81 (by decide) ?_
              exact ih1 (k + 1) d2 (jBreathe N kf sf pt v sg.1 sg.2.1 sg.2.2.1 sg.2.2.2.1 sg.2.2.2.2.1 sg.2.2.2.2.2.1 sg.2.2.2.2.2.2.1 sg.2.2.2.2.2.2.2.1 sg.2.2.2.2.2.2.2.2) (by omega) (by first | assumption | omega) (by clear hret hl hS hD hP hK hA hN hts hx hb hr hml hown hlocks hiX0 hiX4 ih1 ih3; rw [jRun, ← hk, ← ht_, ← hd]; rfl) _ _ _ hP hD hS (lv_sub hl [1, 2, 3, 0] rfl)
            · skip
              have hltsx : sx < N := Nat.lt_of_not_le (fun q_ => c27_4 ((nI_leI (a := N) (b := sx) (by omega) (by omega)).mpr q_))
              refine lv_lload_n hx hb dX4_runSessions_30 rfl (lv_at hl 2 rfl) ?_
              refine z_brl (z_runS (As := [.long d2]) (rest := []) ⟨hx, hb, hml, hown, hts⟩ (c_X4_nextSeed (x := d2) _) (va_cwS 1 hts gX4_runSessions_X4_nextSeed rfl rfl rfl (by decide +kernel) ⟨Nat.le_of_ble_eq_true rfl, Nat.le_of_ble_eq_true rfl⟩) hK hP hD hN [] rfl rfl rfl hl.1 rfl (Nat.le_of_ble_eq_true rfl) dX4_runSessions_31 ⟨Nat.zero_le _, Nat.zero_le _⟩) hP hD hS hA [] rfl (fun r_9 u_10 H locs hq_8 hP hS => ?_)
              obtain rfl : r_9 = jNext d2 := hq_8
              refine lv_lstore_n (lv' := [(3, .long (jNext d2)), (0, .ref x0), (1, .int (nI mb)), (5, .int (nI k)), (6, .int v), (7, .int (nI sx))]) hx hb dX4_runSessions_34 rfl hl (by decide) rfl (fun ls hl => ?_)
              refine lv_lload_n hx hb dX4_runSessions_35 rfl (lv_at hl 0 rfl) ?_
              refine lv_ldc2 (v := 65536) hx hb hown (hts (.constantLong RX4 222 (65536)) (by decide +kernel)) dX4_runSessions_36 ?_
              refine lv_ldiv hx hb dX4_runSessions_39 (by decide) ?_
              refine lv_ldc2 (v := 3) hx hb hown (hts (.constantLong RX4 224 (3)) (by decide +kernel)) dX4_runSessions_40 ?_
              refine lv_lrem hx hb dX4_runSessions_43 (by decide) ?_
              refine lv_lconst (v := 0) hx hb dX4_runSessions_44 (by decide) ?_
              refine W.lcmp hx hb dX4_runSessions_45 ?_
              refine lv_if_ne (tgt := 58) hx hb dX4_runSessions_46 (by decide) (fun c46_11 => ?_) (fun c46_11 => ?_)
              · skip
                refine lv_iinc (v := nI (sx + 1)) (lv' := [(7, .int (nI (sx + 1))), (3, .long (jNext d2)), (0, .ref x0), (1, .int (nI mb)), (5, .int (nI k)), (6, .int v)]) hx hb dX4_runSessions_58 hl (k := 5) rfl (nI_1 sx) (by decide) rfl (fun ls hl => ?_)
                refine lv_goto (tgt := 18) hx hb dX4_runSessions_61 (by decide) ?_
                exact ih3 (sx + 1) (jNext d2) v (by omega) (by first | assumption | omega) (by clear hret hl hS hD hP hK hA hN hts hx hb hr hml hown hlocks hiX0 hiX4 ih1 ih3; rw [jDraw, ← hd]; dsimp only; first | (rw [if_pos (by assumption)]; done) | (rw [if_neg (by assumption)]; done)) _ _ _ hP hD hS (lv_sub hl [2, 3, 1, 4, 5, 0] rfl)
              · skip
                refine lv_iload hx hb dX4_runSessions_49 (lv_at hl 4 rfl) ?_
                refine lv_iconst (v := 1) hx hb dX4_runSessions_51 (by decide) ?_
                refine lv_iload hx hb dX4_runSessions_52 (lv_at hl 5 rfl) ?_
                refine lv_ishl hx hb dX4_runSessions_54 ?_
                refine lv_ior hx hb dX4_runSessions_55 ?_
                refine lv_istore (lv' := [(6, .int (v ||| (1 <<< ((nI sx) &&& 31)))), (3, .long (jNext d2)), (0, .ref x0), (1, .int (nI mb)), (5, .int (nI k)), (7, .int (nI sx))]) hx hb dX4_runSessions_56 hl (by decide) rfl (fun ls hl => ?_)
                refine lv_iinc (v := nI (sx + 1)) (lv' := [(7, .int (nI (sx + 1))), (6, .int (v ||| (1 <<< ((nI sx) &&& 31)))), (3, .long (jNext d2)), (0, .ref x0), (1, .int (nI mb)), (5, .int (nI k))]) hx hb dX4_runSessions_58 hl (k := 5) rfl (nI_1 sx) (by decide) rfl (fun ls hl => ?_)
                refine lv_goto (tgt := 18) hx hb dX4_runSessions_61 (by decide) ?_
                exact ih3 (sx + 1) (jNext d2) (v ||| (1 <<< ((nI sx) &&& 31))) (by omega) (by first | assumption | omega) (by clear hret hl hS hD hP hK hA hN hts hx hb hr hml hown hlocks hiX0 hiX4 ih1 ih3; rw [jDraw, ← hd]; dsimp only; first | (rw [if_pos (by assumption)]; done) | (rw [if_neg (by assumption)]; done)) _ _ _ hP hD hS (lv_sub hl [3, 4, 2, 5, 1, 0] rfl)
        exact L18 (N + 1) 0 d 0 (by omega) (by first | assumption | omega) (by rfl) _ _ _ hP hD hS (lv_sub hl [2, 3, 4, 5, 1, 0] rfl)
  exact L6 (mb + 1) 0 (Int32.toInt64 sd) (la2, be2, ou2, si2, en2, w02, w12, br2, fw2) (by omega) (by first | assumption | omega) (by rfl) _ _ _ hP hD hS (lv_sub hl [2, 3, 1, 0] rfl)
abbrev rm_c_X4_sessions : Room := { frames := 5, cells := 0, slots := 0, locals := 119 }
set_option maxHeartbeats 1000000 in
set_option maxRecDepth 20000 in
theorem c_X4_sessions {l : Launch} {D : va_G} {cA : ClassId} {x0 : Nat} {h0 : Nat} {b0 : Nat} {t0 : Nat} {t1 : Nat} {t2 : Nat} {o0 : Nat} {ik : Int32} {cr : Int32} {qk : Nat} {qs : Nat} {N : Nat} {pt : Int32} {kf : Nat → Int32} {sf : Nat → Int32} {wd : Nat} {tw : Nat} {ts : Nat} {la : Int32} {be : Int32} {ou : Int32} {si : Int32} {en : Int32} {w0 : Int32} {w1 : Int32} {br : Int32} {td : Int32} {fw : Nat → Int32} {ftw : Nat → Int32} {fts : Nat → Int32} {wd2 : Nat} {tw2 : Nat} {ts2 : Nat} {la2 : Int32} {be2 : Int32} {ou2 : Int32} {si2 : Int32} {en2 : Int32} {w02 : Int32} {w12 : Int32} {br2 : Int32} {td2 : Int32} {fw2 : Nat → Int32} {ftw2 : Nat → Int32} {fts2 : Nat → Int32} {b : Int32} {sd : Int32} {wh : Int32} (h5 : N ≤ 5) : zMi l yX4_sessions wsX4_sessions rm_c_X4_sessions D cA [(x0, .inr (4, [.ref h0, .ref b0, .ref t0, .ref t1, .ref t2, .ref o0, .int ik, .int cr])), (b0, .inr (0, [.ref qk, .ref qs, .int (nI N), .int pt])), (qk, .inl (cA, 5, .inl kf)), (qs, .inl (cA, 5, .inl sf)), (t0, .inr (3, [.int la, .int be, .int ou, .int si, .int en, .int w0, .int w1, .int br, .ref wd, .int td, .ref tw, .ref ts])), (wd, .inl (cA, 5, .inl fw)), (tw, .inl (cA, 8, .inl ftw)), (ts, .inl (cA, 8, .inl fts)), (t2, .inr (3, [.int la2, .int be2, .int ou2, .int si2, .int en2, .int w02, .int w12, .int br2, .ref wd2, .int td2, .ref tw2, .ref ts2])), (wd2, .inl (cA, 5, .inl fw2)), (tw2, .inl (cA, 8, .inl ftw2)), (ts2, .inl (cA, 8, .inl fts2))] [.ref x0, .int b, .int sd, .int wh] (fun (r : Int32) (u : jT × Int32 × (Nat → Int32) × (Nat → Int32)) => r = jSess N kf sf pt (la, be, ou, si, en, w0, w1, br, fw) b sd wh) (fun (u : jT × Int32 × (Nat → Int32) × (Nat → Int32)) => [(x0, .inr (4, [.ref h0, .ref b0, .ref t0, .ref t1, .ref t2, .ref o0, .int ik, .int cr])), (b0, .inr (0, [.ref qk, .ref qs, .int (nI N), .int pt])), (qk, .inl (cA, 5, .inl kf)), (qs, .inl (cA, 5, .inl sf)), (t0, .inr (3, [.int la, .int be, .int ou, .int si, .int en, .int w0, .int w1, .int br, .ref wd, .int td, .ref tw, .ref ts])), (wd, .inl (cA, 5, .inl fw)), (tw, .inl (cA, 8, .inl ftw)), (ts, .inl (cA, 8, .inl fts)), (t2, .inr (3, [.int u.1.1, .int u.1.2.1, .int u.1.2.2.1, .int u.1.2.2.2.1, .int u.1.2.2.2.2.1, .int u.1.2.2.2.2.2.1, .int u.1.2.2.2.2.2.2.1, .int u.1.2.2.2.2.2.2.2.1, .ref wd2, .int u.2.1, .ref tw2, .ref ts2])), (wd2, .inl (cA, 5, .inl u.1.2.2.2.2.2.2.2.2)), (tw2, .inl (cA, 8, .inl u.2.2.1)), (ts2, .inl (cA, 8, .inl u.2.2.2))]) := by
  refine z_enteri (cc := cX4_sessions) (maxL := 5) (ty := .int) (by decide) rfl (Nat.le_of_ble_eq_true rfl) (fun p e s m args below meth c ls A H0 H locs Q hi_ hA hK hP hD hS hl hret => ?_)
  obtain ⟨hx, hb, hr, hml, hown, hts, hlocks, hN⟩ := hi_
  have hl : lv_has ls 5 [(0, .ref x0), (1, .int b), (2, .int sd), (3, .int wh)] := hl
  have hiX3 : ∀ w ∈ wsX30, w ∈ wsX4_sessions := by decide +kernel
  have hiX4 : ∀ w ∈ wsX40, w ∈ wsX4_sessions := by decide +kernel
  refine lv_iload_n hx hb dX4_sessions_0 rfl (lv_at hl 1 rfl) ?_
  refine lv_iconst (v := 1) hx hb dX4_sessions_1 (by decide) ?_
  refine lv_icmp_lt (tgt := 24) hx hb dX4_sessions_2 (by decide) (fun c2_1 => ?_) (fun c2_1 => ?_)
  · skip
    refine lv_bipush (v := (-102)) hx hb dX4_sessions_24 (by decide) ?_
    -- path 1
    exact hret ((-102)) ((la2, (be2, (ou2, (si2, (en2, (w02, (w12, (br2, fw2)))))))), (td2, (ftw2, fts2))) _ _ _ _ dX4_sessions_26 (rfl) (by clear hret hl hS hD hP hK hA hN hts hx hb hr hml hown hlocks hiX3 hiX4; unfold jSess; first | (rw [z_nat (by omega)]; grind) | grind) hP hD hS
  · skip
    refine lv_iload_n hx hb dX4_sessions_5 rfl (lv_at hl 1 rfl) ?_
    refine lv_bipush (v := 60) hx hb dX4_sessions_6 (by decide) ?_
    refine lv_icmp_gt (tgt := 24) hx hb dX4_sessions_8 (by decide) (fun c8_2 => ?_) (fun c8_2 => ?_)
    · skip
      refine lv_bipush (v := (-102)) hx hb dX4_sessions_24 (by decide) ?_
      -- path 2
      exact hret ((-102)) ((la2, (be2, (ou2, (si2, (en2, (w02, (w12, (br2, fw2)))))))), (td2, (ftw2, fts2))) _ _ _ _ dX4_sessions_26 (rfl) (by clear hret hl hS hD hP hK hA hN hts hx hb hr hml hown hlocks hiX3 hiX4; unfold jSess; first | (rw [z_nat (by omega)]; grind) | grind) hP hD hS
    · skip
      refine lv_iload_n hx hb dX4_sessions_11 rfl (lv_at hl 2 rfl) ?_
      refine lv_if_lt (tgt := 24) hx hb dX4_sessions_12 (by decide) (fun c12_3 => ?_) (fun c12_3 => ?_)
      · skip
        refine lv_bipush (v := (-102)) hx hb dX4_sessions_24 (by decide) ?_
        -- path 3
        exact hret ((-102)) ((la2, (be2, (ou2, (si2, (en2, (w02, (w12, (br2, fw2)))))))), (td2, (ftw2, fts2))) _ _ _ _ dX4_sessions_26 (rfl) (by clear hret hl hS hD hP hK hA hN hts hx hb hr hml hown hlocks hiX3 hiX4; unfold jSess; first | (rw [z_nat (by omega)]; grind) | grind) hP hD hS
      · skip
        refine lv_iload_n hx hb dX4_sessions_15 rfl (lv_at hl 3 rfl) ?_
        refine lv_if_lt (tgt := 24) hx hb dX4_sessions_16 (by decide) (fun c16_4 => ?_) (fun c16_4 => ?_)
        · skip
          refine lv_bipush (v := (-102)) hx hb dX4_sessions_24 (by decide) ?_
          -- path 4
          exact hret ((-102)) ((la2, (be2, (ou2, (si2, (en2, (w02, (w12, (br2, fw2)))))))), (td2, (ftw2, fts2))) _ _ _ _ dX4_sessions_26 (rfl) (by clear hret hl hS hD hP hK hA hN hts hx hb hr hml hown hlocks hiX3 hiX4; unfold jSess; first | (rw [z_nat (by omega)]; grind) | grind) hP hD hS
        · skip
          refine lv_iload_n hx hb dX4_sessions_19 rfl (lv_at hl 3 rfl) ?_
          refine lv_iconst (v := 3) hx hb dX4_sessions_20 (by decide) ?_
          refine lv_icmp_lt (tgt := 27) hx hb dX4_sessions_21 (by decide) (fun c21_5 => ?_) (fun c21_5 => ?_)
          · skip
            refine lv_aload_n hx hb dX4_sessions_27 rfl (lv_at hl 0 rfl) ?_
            refine va_get (D := D) (ci := 4) (v := .ref b0) (C := RX4) (T := TX4) (N := 8) hx hb hts hiX4 hown hK hP 0 rfl rfl 1 (by decide) (hts (.fieldLink RX4 19 "HeardSecond" "bench" "LHeardSecond$Bench;") (by decide +kernel)) (fun _ h9 => h9) rfl dX4_sessions_28 ?_
            refine z_bri (z_runV (As := []) (rest := []) (ci := 0) ⟨hx, hb, hml, hown, hts⟩ (c_X0_isSet (b0 := b0) (qk := qk) (qs := qs) (N := N) (pt := pt) (by first | assumption | omega) _) (cwV 0 hts gX4_sessions_X0_isSet rfl rfl rfl (by decide +kernel) ⟨Nat.le_of_ble_eq_true rfl, Nat.le_of_ble_eq_true rfl⟩) hK hP hD hN [1] rfl rfl rfl rfl rfl hl.1 rfl (Nat.le_of_ble_eq_true rfl) dX4_sessions_31 ⟨Nat.zero_le _, Nat.zero_le _⟩) hP hD hS hA [1] rfl (fun r_7 u_8 H locs hq_6 hP hS => ?_)
            obtain rfl : r_7 = bI (decide (0 < N)) := hq_6
            refine lv_if_ne (tgt := 40) hx hb dX4_sessions_34 (by decide) (fun c34_9 => ?_) (fun c34_9 => ?_)
            · skip
              have c34_9 := bI_n0.mp c34_9
              obtain ⟨b_, hb1_, hb6_, rfl⟩ : ∃ k : Nat, 1 ≤ k ∧ k ≤ 60 ∧ b = nI k := z_rng60 (Int32.not_lt.mp (by assumption)) (Int32.not_lt.mp (by assumption))
              refine lv_aload_n hx hb dX4_sessions_40 rfl (lv_at hl 0 rfl) ?_
              refine va_get (D := D) (ci := 4) (v := .ref t2) (C := RX4) (T := TX4) (N := 8) hx hb hts hiX4 hown hK hP 0 rfl rfl 4 (by decide) (hts (.fieldLink RX4 33 "HeardSecond" "trying" "LHeardSecond$Trial;") (by decide +kernel)) (fun _ h9 => h9) rfl dX4_sessions_41 ?_
              refine lv_aload_n hx hb dX4_sessions_44 rfl (lv_at hl 0 rfl) ?_
              refine va_get (D := D) (ci := 4) (v := .ref t0) (C := RX4) (T := TX4) (N := 8) hx hb hts hiX4 hown hK hP 0 rfl rfl 2 (by decide) (hts (.fieldLink RX4 26 "HeardSecond" "now" "LHeardSecond$Trial;") (by decide +kernel)) (fun _ h9 => h9) rfl dX4_sessions_45 ?_
              refine z_bwv (wr := [(x0, .inr (4, [.ref h0, .ref b0, .ref t0, .ref t1, .ref t2, .ref o0, .int ik, .int cr])), (b0, .inr (0, [.ref qk, .ref qs, .int (nI N), .int pt])), (qk, .inl (cA, 5, .inl kf)), (qs, .inl (cA, 5, .inl sf))]) (ws' := fun (_ : Unit) => [(x0, .inr (4, [.ref h0, .ref b0, .ref t0, .ref t1, .ref t2, .ref o0, .int ik, .int cr])), (b0, .inr (0, [.ref qk, .ref qs, .int (nI N), .int pt])), (qk, .inl (cA, 5, .inl kf)), (qs, .inl (cA, 5, .inl sf)), (t0, .inr (3, [.int la, .int be, .int ou, .int si, .int en, .int w0, .int w1, .int br, .ref wd, .int td, .ref tw, .ref ts])), (wd, .inl (cA, 5, .inl fw)), (tw, .inl (cA, 8, .inl ftw)), (ts, .inl (cA, 8, .inl fts)), (t2, .inr (3, [.int la, .int be, .int ou, .int si, .int en, .int w0, .int w1, .int br, .ref wd2, .int td, .ref tw2, .ref ts2])), (wd2, .inl (cA, 5, .inl fw)), (tw2, .inl (cA, 8, .inl ftw)), (ts2, .inl (cA, 8, .inl fts))]) (z_runV (As := [.ref t0]) (rest := []) (ci := 3) ⟨hx, hb, hml, hown, hts⟩ (c_X3_takeFrom (t0 := t2) (wd := wd2) (tw := tw2) (ts := ts2) (la := la2) (be := be2) (ou := ou2) (si := si2) (en := en2) (w0 := w02) (w1 := w12) (br := br2) (td := td2) (t1 := t0) (wd1 := wd) (tw1 := tw) (ts1 := ts) (la1 := la) (be1 := be) (ou1 := ou) (si1 := si) (en1 := en) (w01 := w0) (w11 := w1) (br1 := br) (td1 := td) (fw := fw2) (ftw := ftw2) (fts := fts2) (fw1 := fw) (ftw1 := ftw) (fts1 := fts) _) (cwV 1 hts gX4_sessions_X3_takeFrom rfl rfl rfl (by decide +kernel) ⟨Nat.le_of_ble_eq_true rfl, Nat.le_of_ble_eq_true rfl⟩) hK hP hD hN [8, 9, 10, 11, 4, 5, 6, 7] rfl rfl rfl rfl rfl hl.1 rfl (Nat.le_of_ble_eq_true rfl) dX4_sessions_48 ⟨Nat.zero_le _, Nat.zero_le _⟩) hP hD hS hA [8, 9, 10, 11, 4, 5, 6, 7] [0, 1, 2, 3] [0, 1, 2, 3, 8, 9, 10, 11, 4, 5, 6, 7] rfl rfl rfl (by decide) rfl (fun _ => rfl) (fun u_12 H locs hq_10 hP hD hS => ?_)
              have hP : va_P D vwCl [(x0, .inr (4, [.ref h0, .ref b0, .ref t0, .ref t1, .ref t2, .ref o0, .int ik, .int cr])), (b0, .inr (0, [.ref qk, .ref qs, .int (nI N), .int pt])), (qk, .inl (cA, 5, .inl kf)), (qs, .inl (cA, 5, .inl sf)), (t0, .inr (3, [.int la, .int be, .int ou, .int si, .int en, .int w0, .int w1, .int br, .ref wd, .int td, .ref tw, .ref ts])), (wd, .inl (cA, 5, .inl fw)), (tw, .inl (cA, 8, .inl ftw)), (ts, .inl (cA, 8, .inl fts)), (t2, .inr (3, [.int la, .int be, .int ou, .int si, .int en, .int w0, .int w1, .int br, .ref wd2, .int td, .ref tw2, .ref ts2])), (wd2, .inl (cA, 5, .inl fw)), (tw2, .inl (cA, 8, .inl ftw)), (ts2, .inl (cA, 8, .inl fts))] H := hP
              have hD : va_D A [(x0, .inr (4, [.ref h0, .ref b0, .ref t0, .ref t1, .ref t2, .ref o0, .int ik, .int cr])), (b0, .inr (0, [.ref qk, .ref qs, .int (nI N), .int pt])), (qk, .inl (cA, 5, .inl kf)), (qs, .inl (cA, 5, .inl sf)), (t0, .inr (3, [.int la, .int be, .int ou, .int si, .int en, .int w0, .int w1, .int br, .ref wd, .int td, .ref tw, .ref ts])), (wd, .inl (cA, 5, .inl fw)), (tw, .inl (cA, 8, .inl ftw)), (ts, .inl (cA, 8, .inl fts)), (t2, .inr (3, [.int la, .int be, .int ou, .int si, .int en, .int w0, .int w1, .int br, .ref wd2, .int td, .ref tw2, .ref ts2])), (wd2, .inl (cA, 5, .inl fw)), (tw2, .inl (cA, 8, .inl ftw)), (ts2, .inl (cA, 8, .inl fts))] := hD
              refine lv_aload_n hx hb dX4_sessions_51 rfl (lv_at hl 0 rfl) ?_
              refine lv_iload_n hx hb dX4_sessions_52 rfl (lv_at hl 1 rfl) ?_
              refine lv_iload_n hx hb dX4_sessions_53 rfl (lv_at hl 2 rfl) ?_
              refine z_bwi (wr := [(t0, .inr (3, [.int la, .int be, .int ou, .int si, .int en, .int w0, .int w1, .int br, .ref wd, .int td, .ref tw, .ref ts])), (wd, .inl (cA, 5, .inl fw)), (tw, .inl (cA, 8, .inl ftw)), (ts, .inl (cA, 8, .inl fts)), (tw2, .inl (cA, 8, .inl ftw)), (ts2, .inl (cA, 8, .inl fts))]) (ws' := fun u_15 => [(x0, .inr (4, [.ref h0, .ref b0, .ref t0, .ref t1, .ref t2, .ref o0, .int ik, .int cr])), (b0, .inr (0, [.ref qk, .ref qs, .int (nI N), .int pt])), (qk, .inl (cA, 5, .inl kf)), (qs, .inl (cA, 5, .inl sf)), (t0, .inr (3, [.int la, .int be, .int ou, .int si, .int en, .int w0, .int w1, .int br, .ref wd, .int td, .ref tw, .ref ts])), (wd, .inl (cA, 5, .inl fw)), (tw, .inl (cA, 8, .inl ftw)), (ts, .inl (cA, 8, .inl fts)), (t2, .inr (3, [.int u_15.1, .int u_15.2.1, .int u_15.2.2.1, .int u_15.2.2.2.1, .int u_15.2.2.2.2.1, .int u_15.2.2.2.2.2.1, .int u_15.2.2.2.2.2.2.1, .int u_15.2.2.2.2.2.2.2.1, .ref wd2, .int td, .ref tw2, .ref ts2])), (wd2, .inl (cA, 5, .inl u_15.2.2.2.2.2.2.2.2)), (tw2, .inl (cA, 8, .inl ftw)), (ts2, .inl (cA, 8, .inl fts))]) (z_runV (As := [.int (nI b_), .int sd]) (rest := []) (ci := 4) ⟨hx, hb, hml, hown, hts⟩ (c_X4_runSessions (x0 := x0) (h0 := h0) (b0 := b0) (t0 := t0) (t1 := t1) (t2 := t2) (o0 := o0) (ik := ik) (cr := cr) (qk := qk) (qs := qs) (N := N) (pt := pt) (kf := kf) (sf := sf) (wd2 := wd2) (tw2 := tw2) (ts2 := ts2) (la2 := la) (be2 := be) (ou2 := ou) (si2 := si) (en2 := en) (w02 := w0) (w12 := w1) (br2 := br) (td2 := td) (fw2 := fw) (mb := b_) (sd := sd) (by first | assumption | omega) (by first | assumption | omega) _) (cwV 2 hts gX4_sessions_X4_runSessions rfl rfl rfl (by decide +kernel) ⟨Nat.le_of_ble_eq_true rfl, Nat.le_of_ble_eq_true rfl⟩) hK hP hD hN [0, 1, 2, 3, 8, 9] rfl rfl rfl rfl rfl hl.1 rfl (Nat.le_of_ble_eq_true rfl) dX4_sessions_54 ⟨Nat.zero_le _, Nat.zero_le _⟩) hP hD hS hA [0, 1, 2, 3, 8, 9] [4, 5, 6, 7, 10, 11] [6, 7, 8, 9, 0, 1, 2, 3, 10, 11, 4, 5] rfl rfl rfl (by decide) rfl (fun _ => rfl) (fun r_14 u_15 H locs hq_13 hP hD hS => ?_)
              obtain ⟨rfl, rfl⟩ : r_14 = Int64.toInt32 (jRun N kf sf pt (Int32.toInt64 sd) (la, be, ou, si, en, w0, w1, br, fw) b_).1 ∧ u_15 = (jRun N kf sf pt (Int32.toInt64 sd) (la, be, ou, si, en, w0, w1, br, fw) b_).2 := hq_13
              have hP : va_P D vwCl [(x0, .inr (4, [.ref h0, .ref b0, .ref t0, .ref t1, .ref t2, .ref o0, .int ik, .int cr])), (b0, .inr (0, [.ref qk, .ref qs, .int (nI N), .int pt])), (qk, .inl (cA, 5, .inl kf)), (qs, .inl (cA, 5, .inl sf)), (t0, .inr (3, [.int la, .int be, .int ou, .int si, .int en, .int w0, .int w1, .int br, .ref wd, .int td, .ref tw, .ref ts])), (wd, .inl (cA, 5, .inl fw)), (tw, .inl (cA, 8, .inl ftw)), (ts, .inl (cA, 8, .inl fts)), (t2, .inr (3, [.int (((jRun N kf sf pt (Int32.toInt64 sd) (la, be, ou, si, en, w0, w1, br, fw) b_).2).1), .int (((jRun N kf sf pt (Int32.toInt64 sd) (la, be, ou, si, en, w0, w1, br, fw) b_).2).2.1), .int (((jRun N kf sf pt (Int32.toInt64 sd) (la, be, ou, si, en, w0, w1, br, fw) b_).2).2.2.1), .int (((jRun N kf sf pt (Int32.toInt64 sd) (la, be, ou, si, en, w0, w1, br, fw) b_).2).2.2.2.1), .int (((jRun N kf sf pt (Int32.toInt64 sd) (la, be, ou, si, en, w0, w1, br, fw) b_).2).2.2.2.2.1), .int (((jRun N kf sf pt (Int32.toInt64 sd) (la, be, ou, si, en, w0, w1, br, fw) b_).2).2.2.2.2.2.1), .int (((jRun N kf sf pt (Int32.toInt64 sd) (la, be, ou, si, en, w0, w1, br, fw) b_).2).2.2.2.2.2.2.1), .int (((jRun N kf sf pt (Int32.toInt64 sd) (la, be, ou, si, en, w0, w1, br, fw) b_).2).2.2.2.2.2.2.2.1), .ref wd2, .int td, .ref tw2, .ref ts2])), (wd2, .inl (cA, 5, .inl (((jRun N kf sf pt (Int32.toInt64 sd) (la, be, ou, si, en, w0, w1, br, fw) b_).2).2.2.2.2.2.2.2.2))), (tw2, .inl (cA, 8, .inl ftw)), (ts2, .inl (cA, 8, .inl fts))] H := hP
              have hD : va_D A [(x0, .inr (4, [.ref h0, .ref b0, .ref t0, .ref t1, .ref t2, .ref o0, .int ik, .int cr])), (b0, .inr (0, [.ref qk, .ref qs, .int (nI N), .int pt])), (qk, .inl (cA, 5, .inl kf)), (qs, .inl (cA, 5, .inl sf)), (t0, .inr (3, [.int la, .int be, .int ou, .int si, .int en, .int w0, .int w1, .int br, .ref wd, .int td, .ref tw, .ref ts])), (wd, .inl (cA, 5, .inl fw)), (tw, .inl (cA, 8, .inl ftw)), (ts, .inl (cA, 8, .inl fts)), (t2, .inr (3, [.int (((jRun N kf sf pt (Int32.toInt64 sd) (la, be, ou, si, en, w0, w1, br, fw) b_).2).1), .int (((jRun N kf sf pt (Int32.toInt64 sd) (la, be, ou, si, en, w0, w1, br, fw) b_).2).2.1), .int (((jRun N kf sf pt (Int32.toInt64 sd) (la, be, ou, si, en, w0, w1, br, fw) b_).2).2.2.1), .int (((jRun N kf sf pt (Int32.toInt64 sd) (la, be, ou, si, en, w0, w1, br, fw) b_).2).2.2.2.1), .int (((jRun N kf sf pt (Int32.toInt64 sd) (la, be, ou, si, en, w0, w1, br, fw) b_).2).2.2.2.2.1), .int (((jRun N kf sf pt (Int32.toInt64 sd) (la, be, ou, si, en, w0, w1, br, fw) b_).2).2.2.2.2.2.1), .int (((jRun N kf sf pt (Int32.toInt64 sd) (la, be, ou, si, en, w0, w1, br, fw) b_).2).2.2.2.2.2.2.1), .int (((jRun N kf sf pt (Int32.toInt64 sd) (la, be, ou, si, en, w0, w1, br, fw) b_).2).2.2.2.2.2.2.2.1), .ref wd2, .int td, .ref tw2, .ref ts2])), (wd2, .inl (cA, 5, .inl (((jRun N kf sf pt (Int32.toInt64 sd) (la, be, ou, si, en, w0, w1, br, fw) b_).2).2.2.2.2.2.2.2.2))), (tw2, .inl (cA, 8, .inl ftw)), (ts2, .inl (cA, 8, .inl fts))] := hD
              refine lv_istore (lv' := [(4, .int (Int64.toInt32 (jRun N kf sf pt (Int32.toInt64 sd) (la, be, ou, si, en, w0, w1, br, fw) b_).1)), (0, .ref x0), (1, .int (nI b_)), (2, .int sd), (3, .int wh)]) hx hb dX4_sessions_57 hl (by decide) rfl (fun ls hl => ?_)
              refine lv_iload_n hx hb dX4_sessions_59 rfl (lv_at hl 4 rfl) ?_
              by_cases c60_16v0 : wh = 0
              · skip
                refine lv_lookup (off := 28) (tgt := 88) hx hb dX4_sessions_60 (by decide) (by rw [c60_16v0]; rfl) (by decide) ?_
                refine lv_aload_n hx hb dX4_sessions_88 rfl (lv_at hl 1 rfl) ?_
                refine va_get (D := D) (ci := 4) (v := .ref t2) (C := RX4) (T := TX4) (N := 8) hx hb hts hiX4 hown hK hP 0 rfl rfl 4 (by decide) (hts (.fieldLink RX4 33 "HeardSecond" "trying" "LHeardSecond$Trial;") (by decide +kernel)) (fun _ h9 => h9) rfl dX4_sessions_89 ?_
                refine va_getN (D := D) (ci := 3) (v := .int (((jRun N kf sf pt (Int32.toInt64 sd) (la, be, ou, si, en, w0, w1, br, fw) b_).2).2.2.2.2.1)) (C := RX3) (T := TX3) (N := 12) hx hb hts hiX3 hown hK hP 8 rfl rfl 4 (by decide) (hN.getb 12 rfl) (fun _ h9 => h9) rfl dX4_sessions_92 ?_
                refine lv_aload_n hx hb dX4_sessions_95 rfl (lv_at hl 1 rfl) ?_
                refine va_get (D := D) (ci := 4) (v := .ref t0) (C := RX4) (T := TX4) (N := 8) hx hb hts hiX4 hown hK hP 0 rfl rfl 2 (by decide) (hts (.fieldLink RX4 26 "HeardSecond" "now" "LHeardSecond$Trial;") (by decide +kernel)) (fun _ h9 => h9) rfl dX4_sessions_96 ?_
                refine va_getN (D := D) (ci := 3) (v := .int en) (C := RX3) (T := TX3) (N := 12) hx hb hts hiX3 hown hK hP 4 rfl rfl 4 (by decide) (hN.getb 12 rfl) (fun _ h9 => h9) rfl dX4_sessions_99 ?_
                refine lv_isub hx hb dX4_sessions_102 ?_
                -- path 5
                exact hret ((((jRun N kf sf pt (Int32.toInt64 sd) (la, be, ou, si, en, w0, w1, br, fw) b_).2).2.2.2.2.1) - en) ((((jRun N kf sf pt (Int32.toInt64 sd) (la, be, ou, si, en, w0, w1, br, fw) b_).2).1, (((jRun N kf sf pt (Int32.toInt64 sd) (la, be, ou, si, en, w0, w1, br, fw) b_).2).2.1, (((jRun N kf sf pt (Int32.toInt64 sd) (la, be, ou, si, en, w0, w1, br, fw) b_).2).2.2.1, (((jRun N kf sf pt (Int32.toInt64 sd) (la, be, ou, si, en, w0, w1, br, fw) b_).2).2.2.2.1, (((jRun N kf sf pt (Int32.toInt64 sd) (la, be, ou, si, en, w0, w1, br, fw) b_).2).2.2.2.2.1, (((jRun N kf sf pt (Int32.toInt64 sd) (la, be, ou, si, en, w0, w1, br, fw) b_).2).2.2.2.2.2.1, (((jRun N kf sf pt (Int32.toInt64 sd) (la, be, ou, si, en, w0, w1, br, fw) b_).2).2.2.2.2.2.2.1, (((jRun N kf sf pt (Int32.toInt64 sd) (la, be, ou, si, en, w0, w1, br, fw) b_).2).2.2.2.2.2.2.2.1, ((jRun N kf sf pt (Int32.toInt64 sd) (la, be, ou, si, en, w0, w1, br, fw) b_).2).2.2.2.2.2.2.2.2)))))))), (td, (ftw, fts))) _ _ _ _ dX4_sessions_103 (rfl) (by clear hret hl hS hD hP hK hA hN hts hx hb hr hml hown hlocks hiX3 hiX4; unfold jSess; first | (rw [z_nat (by omega)]; grind) | grind) hP hD hS
              by_cases c60_16v1 : wh = 1
              · skip
                refine lv_lookup (off := 44) (tgt := 104) hx hb dX4_sessions_60 (by decide) (by rw [c60_16v1]; rfl) (by decide) ?_
                refine lv_aload_n hx hb dX4_sessions_104 rfl (lv_at hl 1 rfl) ?_
                refine va_get (D := D) (ci := 4) (v := .ref t2) (C := RX4) (T := TX4) (N := 8) hx hb hts hiX4 hown hK hP 0 rfl rfl 4 (by decide) (hts (.fieldLink RX4 33 "HeardSecond" "trying" "LHeardSecond$Trial;") (by decide +kernel)) (fun _ h9 => h9) rfl dX4_sessions_105 ?_
                refine va_getN (D := D) (ci := 3) (v := .int (((jRun N kf sf pt (Int32.toInt64 sd) (la, be, ou, si, en, w0, w1, br, fw) b_).2).2.2.2.2.2.1)) (C := RX3) (T := TX3) (N := 12) hx hb hts hiX3 hown hK hP 8 rfl rfl 5 (by decide) (hN.getb 13 rfl) (fun _ h9 => h9) rfl dX4_sessions_108 ?_
                refine lv_aload_n hx hb dX4_sessions_111 rfl (lv_at hl 1 rfl) ?_
                refine va_get (D := D) (ci := 4) (v := .ref t0) (C := RX4) (T := TX4) (N := 8) hx hb hts hiX4 hown hK hP 0 rfl rfl 2 (by decide) (hts (.fieldLink RX4 26 "HeardSecond" "now" "LHeardSecond$Trial;") (by decide +kernel)) (fun _ h9 => h9) rfl dX4_sessions_112 ?_
                refine va_getN (D := D) (ci := 3) (v := .int w0) (C := RX3) (T := TX3) (N := 12) hx hb hts hiX3 hown hK hP 4 rfl rfl 5 (by decide) (hN.getb 13 rfl) (fun _ h9 => h9) rfl dX4_sessions_115 ?_
                refine lv_isub hx hb dX4_sessions_118 ?_
                -- path 6
                exact hret ((((jRun N kf sf pt (Int32.toInt64 sd) (la, be, ou, si, en, w0, w1, br, fw) b_).2).2.2.2.2.2.1) - w0) ((((jRun N kf sf pt (Int32.toInt64 sd) (la, be, ou, si, en, w0, w1, br, fw) b_).2).1, (((jRun N kf sf pt (Int32.toInt64 sd) (la, be, ou, si, en, w0, w1, br, fw) b_).2).2.1, (((jRun N kf sf pt (Int32.toInt64 sd) (la, be, ou, si, en, w0, w1, br, fw) b_).2).2.2.1, (((jRun N kf sf pt (Int32.toInt64 sd) (la, be, ou, si, en, w0, w1, br, fw) b_).2).2.2.2.1, (((jRun N kf sf pt (Int32.toInt64 sd) (la, be, ou, si, en, w0, w1, br, fw) b_).2).2.2.2.2.1, (((jRun N kf sf pt (Int32.toInt64 sd) (la, be, ou, si, en, w0, w1, br, fw) b_).2).2.2.2.2.2.1, (((jRun N kf sf pt (Int32.toInt64 sd) (la, be, ou, si, en, w0, w1, br, fw) b_).2).2.2.2.2.2.2.1, (((jRun N kf sf pt (Int32.toInt64 sd) (la, be, ou, si, en, w0, w1, br, fw) b_).2).2.2.2.2.2.2.2.1, ((jRun N kf sf pt (Int32.toInt64 sd) (la, be, ou, si, en, w0, w1, br, fw) b_).2).2.2.2.2.2.2.2.2)))))))), (td, (ftw, fts))) _ _ _ _ dX4_sessions_119 (rfl) (by clear hret hl hS hD hP hK hA hN hts hx hb hr hml hown hlocks hiX3 hiX4; unfold jSess; first | (rw [z_nat (by omega)]; grind) | grind) hP hD hS
              refine lv_lookup (off := 60) (tgt := 120) hx hb dX4_sessions_60 (by decide) (z_lkSess c60_16v0 c60_16v1) (by decide) ?_
              refine lv_iload hx hb dX4_sessions_120 (lv_at hl 0 rfl) ?_
              -- path 7
              exact hret (Int64.toInt32 (jRun N kf sf pt (Int32.toInt64 sd) (la, be, ou, si, en, w0, w1, br, fw) b_).1) ((((jRun N kf sf pt (Int32.toInt64 sd) (la, be, ou, si, en, w0, w1, br, fw) b_).2).1, (((jRun N kf sf pt (Int32.toInt64 sd) (la, be, ou, si, en, w0, w1, br, fw) b_).2).2.1, (((jRun N kf sf pt (Int32.toInt64 sd) (la, be, ou, si, en, w0, w1, br, fw) b_).2).2.2.1, (((jRun N kf sf pt (Int32.toInt64 sd) (la, be, ou, si, en, w0, w1, br, fw) b_).2).2.2.2.1, (((jRun N kf sf pt (Int32.toInt64 sd) (la, be, ou, si, en, w0, w1, br, fw) b_).2).2.2.2.2.1, (((jRun N kf sf pt (Int32.toInt64 sd) (la, be, ou, si, en, w0, w1, br, fw) b_).2).2.2.2.2.2.1, (((jRun N kf sf pt (Int32.toInt64 sd) (la, be, ou, si, en, w0, w1, br, fw) b_).2).2.2.2.2.2.2.1, (((jRun N kf sf pt (Int32.toInt64 sd) (la, be, ou, si, en, w0, w1, br, fw) b_).2).2.2.2.2.2.2.2.1, ((jRun N kf sf pt (Int32.toInt64 sd) (la, be, ou, si, en, w0, w1, br, fw) b_).2).2.2.2.2.2.2.2.2)))))))), (td, (ftw, fts))) _ _ _ _ dX4_sessions_122 (rfl) (by clear hret hl hS hD hP hK hA hN hts hx hb hr hml hown hlocks hiX3 hiX4; unfold jSess; first | (rw [z_nat (by omega)]; grind) | grind) hP hD hS
            · skip
              have c34_9 := bI_0.mp c34_9
              refine lv_bipush (v := (-103)) hx hb dX4_sessions_37 (by decide) ?_
              -- path 8
              exact hret ((-103)) ((la2, (be2, (ou2, (si2, (en2, (w02, (w12, (br2, fw2)))))))), (td2, (ftw2, fts2))) _ _ _ _ dX4_sessions_39 (rfl) (by clear hret hl hS hD hP hK hA hN hts hx hb hr hml hown hlocks hiX3 hiX4; unfold jSess; first | (rw [z_nat (by omega)]; grind) | grind) hP hD hS
          · skip
            refine lv_bipush (v := (-102)) hx hb dX4_sessions_24 (by decide) ?_
            -- path 9
            exact hret ((-102)) ((la2, (be2, (ou2, (si2, (en2, (w02, (w12, (br2, fw2)))))))), (td2, (ftw2, fts2))) _ _ _ _ dX4_sessions_26 (rfl) (by clear hret hl hS hD hP hK hA hN hts hx hb hr hml hown hlocks hiX3 hiX4; unfold jSess; first | (rw [z_nat (by omega)]; grind) | grind) hP hD hS
abbrev rm_c_X4_image_no : Room := { frames := 1, cells := 0, slots := 0, locals := 20 }
set_option maxHeartbeats 400000 in
set_option maxRecDepth 20000 in
theorem c_X4_image_no {l : Launch} {D : va_G} {cA : ClassId} {x0 : Nat} {h0 : Nat} {b0 : Nat} {t0 : Nat} {t1 : Nat} {t2 : Nat} {o0 : Nat} {ik : Int32} {cr : Int32} {qk : Nat} {qs : Nat} {N : Nat} {pt : Int32} (h5 : N ≤ 5) (hN0 : N = 0) : zMi l yX4_image wsX4_image rm_c_X4_image_no D cA [(x0, .inr (4, [.ref h0, .ref b0, .ref t0, .ref t1, .ref t2, .ref o0, .int ik, .int cr])), (b0, .inr (0, [.ref qk, .ref qs, .int (nI N), .int pt]))] [.ref x0] (fun (r : Int32) (_ : Unit) => r = -103) (fun (_ : Unit) => [(x0, .inr (4, [.ref h0, .ref b0, .ref t0, .ref t1, .ref t2, .ref o0, .int ik, .int cr])), (b0, .inr (0, [.ref qk, .ref qs, .int (nI N), .int pt]))]) := by
  refine z_enteri (cc := cX4_image) (maxL := 1) (ty := .int) (by decide) rfl (Nat.le_of_ble_eq_true rfl) (fun p e s m args below meth c ls A H0 H locs Q hi_ hA hK hP hD hS hl hret => ?_)
  obtain ⟨hx, hb, hr, hml, hown, hts, hlocks, hN⟩ := hi_
  have hl : lv_has ls 1 [(0, .ref x0)] := hl
  have hiX4 : ∀ w ∈ wsX40, w ∈ wsX4_image := by decide +kernel
  refine lv_aload_n hx hb dX4_image_0 rfl (lv_at hl 0 rfl) ?_
  refine va_get (D := D) (ci := 4) (v := .ref b0) (C := RX4) (T := TX4) (N := 8) hx hb hts hiX4 hown hK hP 0 rfl rfl 1 (by decide) (hts (.fieldLink RX4 19 "HeardSecond" "bench" "LHeardSecond$Bench;") (by decide +kernel)) (fun _ h9 => h9) rfl dX4_image_1 ?_
  refine z_bri (z_runV (As := []) (rest := []) (ci := 0) ⟨hx, hb, hml, hown, hts⟩ (c_X0_isSet (b0 := b0) (qk := qk) (qs := qs) (N := N) (pt := pt) (by first | assumption | omega) _) (cwV 0 hts gX4_image_X0_isSet rfl rfl rfl (by decide +kernel) ⟨Nat.le_of_ble_eq_true rfl, Nat.le_of_ble_eq_true rfl⟩) hK hP hD hN [1] rfl rfl rfl rfl rfl hl.1 rfl (Nat.le_of_ble_eq_true rfl) dX4_image_4 ⟨Nat.zero_le _, Nat.zero_le _⟩) hP hD hS hA [1] rfl (fun r_2 u_3 H locs hq_1 hP hS => ?_)
  obtain rfl : r_2 = bI (decide (0 < N)) := hq_1
  refine lv_if_ne (tgt := 13) hx hb dX4_image_7 (by decide) (fun c7_4 => ?_) (fun c7_4 => ?_)
  · skip
    have c7_4 := bI_n0.mp c7_4
    exact absurd (of_decide_eq_true c7_4) (by omega)
  · skip
    have c7_4 := bI_0.mp c7_4
    refine lv_bipush (v := (-103)) hx hb dX4_image_10 (by decide) ?_
    -- path 1
    exact hret ((-103)) () _ _ _ _ dX4_image_12 (rfl) (by rfl) hP hD hS
abbrev rm_c_X4_image_yes : Room := { frames := 3, cells := 0, slots := 0, locals := 64 }
set_option maxHeartbeats 400000 in
set_option maxRecDepth 20000 in
theorem c_X4_image_yes {l : Launch} {D : va_G} {cA : ClassId} {x0 : Nat} {h0 : Nat} {b0 : Nat} {t0 : Nat} {t1 : Nat} {t2 : Nat} {o0 : Nat} {ik : Int32} {cr : Int32} {qk : Nat} {qs : Nat} {N : Nat} {pt : Int32} {wd : Nat} {tw : Nat} {ts : Nat} {la : Int32} {be : Int32} {ou : Int32} {si : Int32} {en : Int32} {w0 : Int32} {w1 : Int32} {br : Int32} {td : Int32} {fw : Nat → Int32} {ftw : Nat → Int32} {fts : Nat → Int32} {wd1 : Nat} {tw1 : Nat} {ts1 : Nat} {la1 : Int32} {be1 : Int32} {ou1 : Int32} {si1 : Int32} {en1 : Int32} {w01 : Int32} {w11 : Int32} {br1 : Int32} {td1 : Int32} {fw1 : Nat → Int32} {ftw1 : Nat → Int32} {fts1 : Nat → Int32} (h5 : N ≤ 5) (hN0 : 0 < N) : zMi l yX4_image wsX4_image rm_c_X4_image_yes D cA [(x0, .inr (4, [.ref h0, .ref b0, .ref t0, .ref t1, .ref t2, .ref o0, .int ik, .int cr])), (b0, .inr (0, [.ref qk, .ref qs, .int (nI N), .int pt])), (t0, .inr (3, [.int la, .int be, .int ou, .int si, .int en, .int w0, .int w1, .int br, .ref wd, .int td, .ref tw, .ref ts])), (wd, .inl (cA, 5, .inl fw)), (tw, .inl (cA, 8, .inl ftw)), (ts, .inl (cA, 8, .inl fts)), (t1, .inr (3, [.int la1, .int be1, .int ou1, .int si1, .int en1, .int w01, .int w11, .int br1, .ref wd1, .int td1, .ref tw1, .ref ts1])), (wd1, .inl (cA, 5, .inl fw1)), (tw1, .inl (cA, 8, .inl ftw1)), (ts1, .inl (cA, 8, .inl fts1))] [.ref x0] (fun (r : Int32) (_ : Unit) => r = br) (fun (_ : Unit) => [(x0, .inr (4, [.ref h0, .ref b0, .ref t0, .ref t1, .ref t2, .ref o0, .int 1, .int cr])), (b0, .inr (0, [.ref qk, .ref qs, .int (nI N), .int pt])), (t0, .inr (3, [.int la, .int be, .int ou, .int si, .int en, .int w0, .int w1, .int br, .ref wd, .int td, .ref tw, .ref ts])), (wd, .inl (cA, 5, .inl fw)), (tw, .inl (cA, 8, .inl ftw)), (ts, .inl (cA, 8, .inl fts)), (t1, .inr (3, [.int la, .int be, .int ou, .int si, .int en, .int w0, .int w1, .int br, .ref wd1, .int td, .ref tw1, .ref ts1])), (wd1, .inl (cA, 5, .inl fw)), (tw1, .inl (cA, 8, .inl ftw)), (ts1, .inl (cA, 8, .inl fts))]) := by
  refine z_enteri (cc := cX4_image) (maxL := 1) (ty := .int) (by decide) rfl (Nat.le_of_ble_eq_true rfl) (fun p e s m args below meth c ls A H0 H locs Q hi_ hA hK hP hD hS hl hret => ?_)
  obtain ⟨hx, hb, hr, hml, hown, hts, hlocks, hN⟩ := hi_
  have hl : lv_has ls 1 [(0, .ref x0)] := hl
  have hiX3 : ∀ w ∈ wsX30, w ∈ wsX4_image := by decide +kernel
  have hiX4 : ∀ w ∈ wsX40, w ∈ wsX4_image := by decide +kernel
  refine lv_aload_n hx hb dX4_image_0 rfl (lv_at hl 0 rfl) ?_
  refine va_get (D := D) (ci := 4) (v := .ref b0) (C := RX4) (T := TX4) (N := 8) hx hb hts hiX4 hown hK hP 0 rfl rfl 1 (by decide) (hts (.fieldLink RX4 19 "HeardSecond" "bench" "LHeardSecond$Bench;") (by decide +kernel)) (fun _ h9 => h9) rfl dX4_image_1 ?_
  refine z_bri (z_runV (As := []) (rest := []) (ci := 0) ⟨hx, hb, hml, hown, hts⟩ (c_X0_isSet (b0 := b0) (qk := qk) (qs := qs) (N := N) (pt := pt) (by first | assumption | omega) _) (cwV 0 hts gX4_image_X0_isSet rfl rfl rfl (by decide +kernel) ⟨Nat.le_of_ble_eq_true rfl, Nat.le_of_ble_eq_true rfl⟩) hK hP hD hN [1] rfl rfl rfl rfl rfl hl.1 rfl (Nat.le_of_ble_eq_true rfl) dX4_image_4 ⟨Nat.zero_le _, Nat.zero_le _⟩) hP hD hS hA [1] rfl (fun r_2 u_3 H locs hq_1 hP hS => ?_)
  obtain rfl : r_2 = bI (decide (0 < N)) := hq_1
  refine lv_if_ne (tgt := 13) hx hb dX4_image_7 (by decide) (fun c7_4 => ?_) (fun c7_4 => ?_)
  · skip
    have c7_4 := bI_n0.mp c7_4
    refine lv_aload_n hx hb dX4_image_13 rfl (lv_at hl 0 rfl) ?_
    refine va_get (D := D) (ci := 4) (v := .ref t1) (C := RX4) (T := TX4) (N := 8) hx hb hts hiX4 hown hK hP 0 rfl rfl 3 (by decide) (hts (.fieldLink RX4 30 "HeardSecond" "kept" "LHeardSecond$Trial;") (by decide +kernel)) (fun _ h9 => h9) rfl dX4_image_14 ?_
    refine lv_aload_n hx hb dX4_image_17 rfl (lv_at hl 0 rfl) ?_
    refine va_get (D := D) (ci := 4) (v := .ref t0) (C := RX4) (T := TX4) (N := 8) hx hb hts hiX4 hown hK hP 0 rfl rfl 2 (by decide) (hts (.fieldLink RX4 26 "HeardSecond" "now" "LHeardSecond$Trial;") (by decide +kernel)) (fun _ h9 => h9) rfl dX4_image_18 ?_
    refine z_bwv (wr := [(x0, .inr (4, [.ref h0, .ref b0, .ref t0, .ref t1, .ref t2, .ref o0, .int ik, .int cr])), (b0, .inr (0, [.ref qk, .ref qs, .int (nI N), .int pt]))]) (ws' := fun (_ : Unit) => [(x0, .inr (4, [.ref h0, .ref b0, .ref t0, .ref t1, .ref t2, .ref o0, .int ik, .int cr])), (b0, .inr (0, [.ref qk, .ref qs, .int (nI N), .int pt])), (t0, .inr (3, [.int la, .int be, .int ou, .int si, .int en, .int w0, .int w1, .int br, .ref wd, .int td, .ref tw, .ref ts])), (wd, .inl (cA, 5, .inl fw)), (tw, .inl (cA, 8, .inl ftw)), (ts, .inl (cA, 8, .inl fts)), (t1, .inr (3, [.int la, .int be, .int ou, .int si, .int en, .int w0, .int w1, .int br, .ref wd1, .int td, .ref tw1, .ref ts1])), (wd1, .inl (cA, 5, .inl fw)), (tw1, .inl (cA, 8, .inl ftw)), (ts1, .inl (cA, 8, .inl fts))]) (z_runV (As := [.ref t0]) (rest := []) (ci := 3) ⟨hx, hb, hml, hown, hts⟩ (c_X3_takeFrom (t0 := t1) (wd := wd1) (tw := tw1) (ts := ts1) (la := la1) (be := be1) (ou := ou1) (si := si1) (en := en1) (w0 := w01) (w1 := w11) (br := br1) (td := td1) (t1 := t0) (wd1 := wd) (tw1 := tw) (ts1 := ts) (la1 := la) (be1 := be) (ou1 := ou) (si1 := si) (en1 := en) (w01 := w0) (w11 := w1) (br1 := br) (td1 := td) (fw := fw1) (ftw := ftw1) (fts := fts1) (fw1 := fw) (ftw1 := ftw) (fts1 := fts) _) (cwV 1 hts gX4_image_X3_takeFrom rfl rfl rfl (by decide +kernel) ⟨Nat.le_of_ble_eq_true rfl, Nat.le_of_ble_eq_true rfl⟩) hK hP hD hN [6, 7, 8, 9, 2, 3, 4, 5] rfl rfl rfl rfl rfl hl.1 rfl (Nat.le_of_ble_eq_true rfl) dX4_image_21 ⟨Nat.zero_le _, Nat.zero_le _⟩) hP hD hS hA [6, 7, 8, 9, 2, 3, 4, 5] [0, 1] [0, 1, 6, 7, 8, 9, 2, 3, 4, 5] rfl rfl rfl (by decide) rfl (fun _ => rfl) (fun u_7 H locs hq_5 hP hD hS => ?_)
    have hP : va_P D vwCl [(x0, .inr (4, [.ref h0, .ref b0, .ref t0, .ref t1, .ref t2, .ref o0, .int ik, .int cr])), (b0, .inr (0, [.ref qk, .ref qs, .int (nI N), .int pt])), (t0, .inr (3, [.int la, .int be, .int ou, .int si, .int en, .int w0, .int w1, .int br, .ref wd, .int td, .ref tw, .ref ts])), (wd, .inl (cA, 5, .inl fw)), (tw, .inl (cA, 8, .inl ftw)), (ts, .inl (cA, 8, .inl fts)), (t1, .inr (3, [.int la, .int be, .int ou, .int si, .int en, .int w0, .int w1, .int br, .ref wd1, .int td, .ref tw1, .ref ts1])), (wd1, .inl (cA, 5, .inl fw)), (tw1, .inl (cA, 8, .inl ftw)), (ts1, .inl (cA, 8, .inl fts))] H := hP
    have hD : va_D A [(x0, .inr (4, [.ref h0, .ref b0, .ref t0, .ref t1, .ref t2, .ref o0, .int ik, .int cr])), (b0, .inr (0, [.ref qk, .ref qs, .int (nI N), .int pt])), (t0, .inr (3, [.int la, .int be, .int ou, .int si, .int en, .int w0, .int w1, .int br, .ref wd, .int td, .ref tw, .ref ts])), (wd, .inl (cA, 5, .inl fw)), (tw, .inl (cA, 8, .inl ftw)), (ts, .inl (cA, 8, .inl fts)), (t1, .inr (3, [.int la, .int be, .int ou, .int si, .int en, .int w0, .int w1, .int br, .ref wd1, .int td, .ref tw1, .ref ts1])), (wd1, .inl (cA, 5, .inl fw)), (tw1, .inl (cA, 8, .inl ftw)), (ts1, .inl (cA, 8, .inl fts))] := hD
    refine lv_aload_n hx hb dX4_image_24 rfl (lv_at hl 0 rfl) ?_
    refine lv_iconst (v := 1) hx hb dX4_image_25 (by decide) ?_
    refine va_put (D := D) (ci := 4) (v := .int 1) (ty := .boolean) (C := RX4) (T := TX4) (N := 8) hx hb hts hiX4 tyX4 tyX4_ok nmX4 hown hK hP hD hS 0 rfl rfl 6 (by decide) (hts (.fieldLink RX4 45 "HeardSecond" "imageKept" "Z") (by decide +kernel)) (fun _ h9 => h9) rfl (by decide +kernel) (rfl) rfl (Nat.le_of_ble_eq_true rfl) dX4_image_26 (fun H locs hP hD hS => ?_)
    have hP : va_P D vwCl [(x0, .inr (4, [.ref h0, .ref b0, .ref t0, .ref t1, .ref t2, .ref o0, .int 1, .int cr])), (b0, .inr (0, [.ref qk, .ref qs, .int (nI N), .int pt])), (t0, .inr (3, [.int la, .int be, .int ou, .int si, .int en, .int w0, .int w1, .int br, .ref wd, .int td, .ref tw, .ref ts])), (wd, .inl (cA, 5, .inl fw)), (tw, .inl (cA, 8, .inl ftw)), (ts, .inl (cA, 8, .inl fts)), (t1, .inr (3, [.int la, .int be, .int ou, .int si, .int en, .int w0, .int w1, .int br, .ref wd1, .int td, .ref tw1, .ref ts1])), (wd1, .inl (cA, 5, .inl fw)), (tw1, .inl (cA, 8, .inl ftw)), (ts1, .inl (cA, 8, .inl fts))] H := hP
    have hD : va_D A [(x0, .inr (4, [.ref h0, .ref b0, .ref t0, .ref t1, .ref t2, .ref o0, .int 1, .int cr])), (b0, .inr (0, [.ref qk, .ref qs, .int (nI N), .int pt])), (t0, .inr (3, [.int la, .int be, .int ou, .int si, .int en, .int w0, .int w1, .int br, .ref wd, .int td, .ref tw, .ref ts])), (wd, .inl (cA, 5, .inl fw)), (tw, .inl (cA, 8, .inl ftw)), (ts, .inl (cA, 8, .inl fts)), (t1, .inr (3, [.int la, .int be, .int ou, .int si, .int en, .int w0, .int w1, .int br, .ref wd1, .int td, .ref tw1, .ref ts1])), (wd1, .inl (cA, 5, .inl fw)), (tw1, .inl (cA, 8, .inl ftw)), (ts1, .inl (cA, 8, .inl fts))] := hD
    refine lv_aload_n hx hb dX4_image_29 rfl (lv_at hl 0 rfl) ?_
    refine va_get (D := D) (ci := 4) (v := .ref t0) (C := RX4) (T := TX4) (N := 8) hx hb hts hiX4 hown hK hP 0 rfl rfl 2 (by decide) (hts (.fieldLink RX4 26 "HeardSecond" "now" "LHeardSecond$Trial;") (by decide +kernel)) (fun _ h9 => h9) rfl dX4_image_30 ?_
    refine va_getN (D := D) (ci := 3) (v := .int br) (C := RX3) (T := TX3) (N := 12) hx hb hts hiX3 hown hK hP 2 rfl rfl 7 (by decide) (hN.getb 15 rfl) (fun _ h9 => h9) rfl dX4_image_33 ?_
    -- path 1
    exact hret (br) () _ _ _ _ dX4_image_36 (rfl) (by rfl) hP hD hS
  · skip
    have c7_4 := bI_0.mp c7_4
    exact absurd hN0 (of_decide_eq_false c7_4)
abbrev rm_c_X4_restore_no : Room := { frames := 0, cells := 0, slots := 0, locals := 0 }
set_option maxHeartbeats 400000 in
set_option maxRecDepth 20000 in
theorem c_X4_restore_no {l : Launch} {D : va_G} {cA : ClassId} {x0 : Nat} {h0 : Nat} {b0 : Nat} {t0 : Nat} {t1 : Nat} {t2 : Nat} {o0 : Nat} {ik : Int32} {cr : Int32} (hno : ik = 0) : zMi l yX4_restore wsX4_restore rm_c_X4_restore_no D cA [(x0, .inr (4, [.ref h0, .ref b0, .ref t0, .ref t1, .ref t2, .ref o0, .int ik, .int cr]))] [.ref x0] (fun (r : Int32) (_ : Unit) => r = -103) (fun (_ : Unit) => [(x0, .inr (4, [.ref h0, .ref b0, .ref t0, .ref t1, .ref t2, .ref o0, .int ik, .int cr]))]) := by
  refine z_enteri (cc := cX4_restore) (maxL := 1) (ty := .int) (by decide) rfl (Nat.le_of_ble_eq_true rfl) (fun p e s m args below meth c ls A H0 H locs Q hi_ hA hK hP hD hS hl hret => ?_)
  obtain ⟨hx, hb, hr, hml, hown, hts, hlocks, hN⟩ := hi_
  have hl : lv_has ls 1 [(0, .ref x0)] := hl
  have hiX4 : ∀ w ∈ wsX40, w ∈ wsX4_restore := by decide +kernel
  refine lv_aload_n hx hb dX4_restore_0 rfl (lv_at hl 0 rfl) ?_
  refine va_get (D := D) (ci := 4) (v := .int ik) (C := RX4) (T := TX4) (N := 8) hx hb hts hiX4 hown hK hP 0 rfl rfl 6 (by decide) (hts (.fieldLink RX4 45 "HeardSecond" "imageKept" "Z") (by decide +kernel)) (fun _ h9 => h9) rfl dX4_restore_1 ?_
  refine lv_if_ne (tgt := 10) hx hb dX4_restore_4 (by decide) (fun c4_1 => ?_) (fun c4_1 => ?_)
  · skip
    exact absurd hno c4_1
  · skip
    refine lv_bipush (v := (-103)) hx hb dX4_restore_7 (by decide) ?_
    -- path 1
    exact hret ((-103)) () _ _ _ _ dX4_restore_9 (rfl) (by rfl) hP hD hS
abbrev rm_c_X4_restore_yes : Room := { frames := 3, cells := 0, slots := 0, locals := 64 }
set_option maxHeartbeats 400000 in
set_option maxRecDepth 20000 in
theorem c_X4_restore_yes {l : Launch} {D : va_G} {cA : ClassId} {x0 : Nat} {h0 : Nat} {b0 : Nat} {t0 : Nat} {t1 : Nat} {t2 : Nat} {o0 : Nat} {ik : Int32} {cr : Int32} {wd : Nat} {tw : Nat} {ts : Nat} {la : Int32} {be : Int32} {ou : Int32} {si : Int32} {en : Int32} {w0 : Int32} {w1 : Int32} {br : Int32} {td : Int32} {fw : Nat → Int32} {ftw : Nat → Int32} {fts : Nat → Int32} {wd1 : Nat} {tw1 : Nat} {ts1 : Nat} {la1 : Int32} {be1 : Int32} {ou1 : Int32} {si1 : Int32} {en1 : Int32} {w01 : Int32} {w11 : Int32} {br1 : Int32} {td1 : Int32} {fw1 : Nat → Int32} {ftw1 : Nat → Int32} {fts1 : Nat → Int32} (hyes : ¬ ik = 0) : zMi l yX4_restore wsX4_restore rm_c_X4_restore_yes D cA [(x0, .inr (4, [.ref h0, .ref b0, .ref t0, .ref t1, .ref t2, .ref o0, .int ik, .int cr])), (t0, .inr (3, [.int la, .int be, .int ou, .int si, .int en, .int w0, .int w1, .int br, .ref wd, .int td, .ref tw, .ref ts])), (wd, .inl (cA, 5, .inl fw)), (tw, .inl (cA, 8, .inl ftw)), (ts, .inl (cA, 8, .inl fts)), (t1, .inr (3, [.int la1, .int be1, .int ou1, .int si1, .int en1, .int w01, .int w11, .int br1, .ref wd1, .int td1, .ref tw1, .ref ts1])), (wd1, .inl (cA, 5, .inl fw1)), (tw1, .inl (cA, 8, .inl ftw1)), (ts1, .inl (cA, 8, .inl fts1))] [.ref x0] (fun (r : Int32) (_ : Unit) => r = br1) (fun (_ : Unit) => [(x0, .inr (4, [.ref h0, .ref b0, .ref t0, .ref t1, .ref t2, .ref o0, .int ik, .int cr])), (t0, .inr (3, [.int la1, .int be1, .int ou1, .int si1, .int en1, .int w01, .int w11, .int br1, .ref wd, .int td1, .ref tw, .ref ts])), (wd, .inl (cA, 5, .inl fw1)), (tw, .inl (cA, 8, .inl ftw1)), (ts, .inl (cA, 8, .inl fts1)), (t1, .inr (3, [.int la1, .int be1, .int ou1, .int si1, .int en1, .int w01, .int w11, .int br1, .ref wd1, .int td1, .ref tw1, .ref ts1])), (wd1, .inl (cA, 5, .inl fw1)), (tw1, .inl (cA, 8, .inl ftw1)), (ts1, .inl (cA, 8, .inl fts1))]) := by
  refine z_enteri (cc := cX4_restore) (maxL := 1) (ty := .int) (by decide) rfl (Nat.le_of_ble_eq_true rfl) (fun p e s m args below meth c ls A H0 H locs Q hi_ hA hK hP hD hS hl hret => ?_)
  obtain ⟨hx, hb, hr, hml, hown, hts, hlocks, hN⟩ := hi_
  have hl : lv_has ls 1 [(0, .ref x0)] := hl
  have hiX3 : ∀ w ∈ wsX30, w ∈ wsX4_restore := by decide +kernel
  have hiX4 : ∀ w ∈ wsX40, w ∈ wsX4_restore := by decide +kernel
  refine lv_aload_n hx hb dX4_restore_0 rfl (lv_at hl 0 rfl) ?_
  refine va_get (D := D) (ci := 4) (v := .int ik) (C := RX4) (T := TX4) (N := 8) hx hb hts hiX4 hown hK hP 0 rfl rfl 6 (by decide) (hts (.fieldLink RX4 45 "HeardSecond" "imageKept" "Z") (by decide +kernel)) (fun _ h9 => h9) rfl dX4_restore_1 ?_
  refine lv_if_ne (tgt := 10) hx hb dX4_restore_4 (by decide) (fun c4_1 => ?_) (fun c4_1 => ?_)
  · skip
    refine lv_aload_n hx hb dX4_restore_10 rfl (lv_at hl 0 rfl) ?_
    refine va_get (D := D) (ci := 4) (v := .ref t0) (C := RX4) (T := TX4) (N := 8) hx hb hts hiX4 hown hK hP 0 rfl rfl 2 (by decide) (hts (.fieldLink RX4 26 "HeardSecond" "now" "LHeardSecond$Trial;") (by decide +kernel)) (fun _ h9 => h9) rfl dX4_restore_11 ?_
    refine lv_aload_n hx hb dX4_restore_14 rfl (lv_at hl 0 rfl) ?_
    refine va_get (D := D) (ci := 4) (v := .ref t1) (C := RX4) (T := TX4) (N := 8) hx hb hts hiX4 hown hK hP 0 rfl rfl 3 (by decide) (hts (.fieldLink RX4 30 "HeardSecond" "kept" "LHeardSecond$Trial;") (by decide +kernel)) (fun _ h9 => h9) rfl dX4_restore_15 ?_
    refine z_bwv (wr := [(x0, .inr (4, [.ref h0, .ref b0, .ref t0, .ref t1, .ref t2, .ref o0, .int ik, .int cr]))]) (ws' := fun (_ : Unit) => [(x0, .inr (4, [.ref h0, .ref b0, .ref t0, .ref t1, .ref t2, .ref o0, .int ik, .int cr])), (t0, .inr (3, [.int la1, .int be1, .int ou1, .int si1, .int en1, .int w01, .int w11, .int br1, .ref wd, .int td1, .ref tw, .ref ts])), (wd, .inl (cA, 5, .inl fw1)), (tw, .inl (cA, 8, .inl ftw1)), (ts, .inl (cA, 8, .inl fts1)), (t1, .inr (3, [.int la1, .int be1, .int ou1, .int si1, .int en1, .int w01, .int w11, .int br1, .ref wd1, .int td1, .ref tw1, .ref ts1])), (wd1, .inl (cA, 5, .inl fw1)), (tw1, .inl (cA, 8, .inl ftw1)), (ts1, .inl (cA, 8, .inl fts1))]) (z_runV (As := [.ref t1]) (rest := []) (ci := 3) ⟨hx, hb, hml, hown, hts⟩ (c_X3_takeFrom (t0 := t0) (wd := wd) (tw := tw) (ts := ts) (la := la) (be := be) (ou := ou) (si := si) (en := en) (w0 := w0) (w1 := w1) (br := br) (td := td) (t1 := t1) (wd1 := wd1) (tw1 := tw1) (ts1 := ts1) (la1 := la1) (be1 := be1) (ou1 := ou1) (si1 := si1) (en1 := en1) (w01 := w01) (w11 := w11) (br1 := br1) (td1 := td1) (fw := fw) (ftw := ftw) (fts := fts) (fw1 := fw1) (ftw1 := ftw1) (fts1 := fts1) _) (cwV 1 hts gX4_restore_X3_takeFrom rfl rfl rfl (by decide +kernel) ⟨Nat.le_of_ble_eq_true rfl, Nat.le_of_ble_eq_true rfl⟩) hK hP hD hN [1, 2, 3, 4, 5, 6, 7, 8] rfl rfl rfl rfl rfl hl.1 rfl (Nat.le_of_ble_eq_true rfl) dX4_restore_18 ⟨Nat.zero_le _, Nat.zero_le _⟩) hP hD hS hA [1, 2, 3, 4, 5, 6, 7, 8] [0] [0, 1, 2, 3, 4, 5, 6, 7, 8] rfl rfl rfl (by decide) rfl (fun _ => rfl) (fun u_4 H locs hq_2 hP hD hS => ?_)
    have hP : va_P D vwCl [(x0, .inr (4, [.ref h0, .ref b0, .ref t0, .ref t1, .ref t2, .ref o0, .int ik, .int cr])), (t0, .inr (3, [.int la1, .int be1, .int ou1, .int si1, .int en1, .int w01, .int w11, .int br1, .ref wd, .int td1, .ref tw, .ref ts])), (wd, .inl (cA, 5, .inl fw1)), (tw, .inl (cA, 8, .inl ftw1)), (ts, .inl (cA, 8, .inl fts1)), (t1, .inr (3, [.int la1, .int be1, .int ou1, .int si1, .int en1, .int w01, .int w11, .int br1, .ref wd1, .int td1, .ref tw1, .ref ts1])), (wd1, .inl (cA, 5, .inl fw1)), (tw1, .inl (cA, 8, .inl ftw1)), (ts1, .inl (cA, 8, .inl fts1))] H := hP
    have hD : va_D A [(x0, .inr (4, [.ref h0, .ref b0, .ref t0, .ref t1, .ref t2, .ref o0, .int ik, .int cr])), (t0, .inr (3, [.int la1, .int be1, .int ou1, .int si1, .int en1, .int w01, .int w11, .int br1, .ref wd, .int td1, .ref tw, .ref ts])), (wd, .inl (cA, 5, .inl fw1)), (tw, .inl (cA, 8, .inl ftw1)), (ts, .inl (cA, 8, .inl fts1)), (t1, .inr (3, [.int la1, .int be1, .int ou1, .int si1, .int en1, .int w01, .int w11, .int br1, .ref wd1, .int td1, .ref tw1, .ref ts1])), (wd1, .inl (cA, 5, .inl fw1)), (tw1, .inl (cA, 8, .inl ftw1)), (ts1, .inl (cA, 8, .inl fts1))] := hD
    refine lv_aload_n hx hb dX4_restore_21 rfl (lv_at hl 0 rfl) ?_
    refine va_get (D := D) (ci := 4) (v := .ref t0) (C := RX4) (T := TX4) (N := 8) hx hb hts hiX4 hown hK hP 0 rfl rfl 2 (by decide) (hts (.fieldLink RX4 26 "HeardSecond" "now" "LHeardSecond$Trial;") (by decide +kernel)) (fun _ h9 => h9) rfl dX4_restore_22 ?_
    refine va_getN (D := D) (ci := 3) (v := .int br1) (C := RX3) (T := TX3) (N := 12) hx hb hts hiX3 hown hK hP 1 rfl rfl 7 (by decide) (hN.getb 15 rfl) (fun _ h9 => h9) rfl dX4_restore_25 ?_
    -- path 1
    exact hret (br1) () _ _ _ _ dX4_restore_28 (rfl) (by rfl) hP hD hS
  · skip
    exact absurd c4_1 hyes
