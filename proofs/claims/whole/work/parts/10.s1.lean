abbrev rm_c_X4_at : Room := { frames := 0, cells := 0, slots := 0, locals := 0 }
set_option maxHeartbeats 400000 in
set_option maxRecDepth 20000 in
theorem c_X4_at {l : Launch} {D : va_G} {cA : ClassId} {n : Nat} {q : Nat} {f : Nat → Int32} {x : Int32} (hn : n < 2147483648) : zMi l yX4_at wsX4_at rm_c_X4_at D cA [(q, .inl (cA, n, .inl f))] [.ref q, .int x] (fun (r : Int32) (_ : Unit) => r = jAt n f x) (fun (_ : Unit) => [(q, .inl (cA, n, .inl f))]) := by
  refine z_enteri (cc := cX4_at) (maxL := 2) (ty := .int) (by decide) rfl (Nat.le_of_ble_eq_true rfl) (fun p e s m args below meth c ls A H0 H locs Q hi_ hA hK hP hD hS hl hret => ?_)
  obtain ⟨hx, hb, hr, hml, hown, hts, hlocks, hN⟩ := hi_
  have hl : lv_has ls 2 [(0, .ref q), (1, .int x)] := hl
  refine lv_aload_n hx hb dX4_at_0 rfl (lv_at hl 0 rfl) ?_
  refine lv_ifnull hx hb dX4_at_1 ?_
  refine lv_iload_n hx hb dX4_at_4 rfl (lv_at hl 1 rfl) ?_
  refine lv_if_lt (tgt := 20) hx hb dX4_at_5 (by decide) (fun c5_1 => ?_) (fun c5_1 => ?_)
  · skip
    refine lv_iconst (v := 0) hx hb dX4_at_20 (by decide) ?_
    -- path 1
    exact hret (0) () _ _ _ _ dX4_at_21 (rfl) (by clear hret hl hS hD hP hK hA hN hts hx hb hr hml hown hlocks ; grind [jAt, bI]) hP hD hS
  · skip
    refine lv_iload_n hx hb dX4_at_8 rfl (lv_at hl 1 rfl) ?_
    refine lv_aload_n hx hb dX4_at_9 rfl (lv_at hl 0 rfl) ?_
    refine va_alen (v := nI n) hx hb hK hP 0 0 rfl rfl rfl dX4_at_10 ?_
    refine lv_icmp_ge (tgt := 20) hx hb dX4_at_11 (by decide) (fun c11_2 => ?_) (fun c11_2 => ?_)
    · skip
      refine lv_iconst (v := 0) hx hb dX4_at_20 (by decide) ?_
      -- path 2
      exact hret (0) () _ _ _ _ dX4_at_21 (rfl) (by clear hret hl hS hD hP hK hA hN hts hx hb hr hml hown hlocks ; grind [jAt, bI]) hP hD hS
    · skip
      refine lv_aload_n hx hb dX4_at_14 rfl (lv_at hl 0 rfl) ?_
      refine lv_iload_n hx hb dX4_at_15 rfl (lv_at hl 1 rfl) ?_
      refine va_iald hx hb hK hP 0 0 rfl rfl (z_in hn (Int32.not_lt.mp (by assumption)) (Int32.not_le.mp (by assumption))) dX4_at_16 ?_
      refine lv_goto (tgt := 21) hx hb dX4_at_17 (by decide) ?_
      -- path 3
      exact hret (f (Int32.toNatClampNeg x)) () _ _ _ _ dX4_at_21 (rfl) (by clear hret hl hS hD hP hK hA hN hts hx hb hr hml hown hlocks ; grind [jAt, bI]) hP hD hS
abbrev rm_c_X4_put : Room := { frames := 0, cells := 0, slots := 0, locals := 0 }
set_option maxHeartbeats 400000 in
set_option maxRecDepth 20000 in
theorem c_X4_put {l : Launch} {D : va_G} {cA : ClassId} {n : Nat} {q : Nat} {f : Nat → Int32} {x : Int32} {v : Int32} (hn : n < 2147483648) : zMv l yX4_put wsX4_put rm_c_X4_put D cA [(q, .inl (cA, n, .inl f))] [.ref q, .int x, .int v] (fun (_ : Unit) => True) (fun (_ : Unit) => [(q, .inl (cA, n, .inl (jPut n f x v)))]) := by
  refine z_enterv (cc := cX4_put) (maxL := 3) (by decide) rfl (Nat.le_of_ble_eq_true rfl) (fun p e s m args below meth c ls A H0 H locs Q hi_ hA hK hP hD hS hl hret => ?_)
  obtain ⟨hx, hb, hr, hml, hown, hts, hlocks, hN⟩ := hi_
  have hl : lv_has ls 3 [(0, .ref q), (1, .int x), (2, .int v)] := hl
  refine lv_aload_n hx hb dX4_put_0 rfl (lv_at hl 0 rfl) ?_
  refine lv_ifnull hx hb dX4_put_1 ?_
  refine lv_iload_n hx hb dX4_put_4 rfl (lv_at hl 1 rfl) ?_
  refine lv_if_lt (tgt := 18) hx hb dX4_put_5 (by decide) (fun c5_1 => ?_) (fun c5_1 => ?_)
  · skip
    -- path 1
    have hP : va_P D vwCl [(q, .inl (cA, n, .inl (jPut n f x v)))] H := z_arrP hP 0 (g := (jPut n f x v)) rfl (by clear hret hl hS hD hP hK hA hN hts hx hb hr hml hown hlocks ; intro j _; unfold jPut; split <;> grind [upd]) rfl
    have hD : va_D A [(q, .inl (cA, n, .inl (jPut n f x v)))] := z_arrD hD 0 rfl rfl
    exact hret () _ _ _ _ dX4_put_18 (by trivial) hP hD hS
  · skip
    refine lv_iload_n hx hb dX4_put_8 rfl (lv_at hl 1 rfl) ?_
    refine lv_aload_n hx hb dX4_put_9 rfl (lv_at hl 0 rfl) ?_
    refine va_alen (v := nI n) hx hb hK hP 0 0 rfl rfl rfl dX4_put_10 ?_
    refine lv_icmp_ge (tgt := 18) hx hb dX4_put_11 (by decide) (fun c11_2 => ?_) (fun c11_2 => ?_)
    · skip
      -- path 2
      have hP : va_P D vwCl [(q, .inl (cA, n, .inl (jPut n f x v)))] H := z_arrP hP 0 (g := (jPut n f x v)) rfl (by clear hret hl hS hD hP hK hA hN hts hx hb hr hml hown hlocks ; intro j _; unfold jPut; split <;> grind [upd]) rfl
      have hD : va_D A [(q, .inl (cA, n, .inl (jPut n f x v)))] := z_arrD hD 0 rfl rfl
      exact hret () _ _ _ _ dX4_put_18 (by trivial) hP hD hS
    · skip
      refine lv_aload_n hx hb dX4_put_14 rfl (lv_at hl 0 rfl) ?_
      refine lv_iload_n hx hb dX4_put_15 rfl (lv_at hl 1 rfl) ?_
      refine lv_iload_n hx hb dX4_put_16 rfl (lv_at hl 2 rfl) ?_
      refine va_iast hx hb hK hP hD hS 0 0 rfl rfl (z_in hn (Int32.not_lt.mp (by assumption)) (Int32.not_le.mp (by assumption))) dX4_put_17 (fun H locs hP hD hS => ?_)
      have hP : va_P D vwCl [(q, .inl (cA, n, .inl (upd f (Int32.toNatClampNeg x) v)))] H := hP
      have hD : va_D A [(q, .inl (cA, n, .inl (upd f (Int32.toNatClampNeg x) v)))] := hD
      -- path 3
      have hP : va_P D vwCl [(q, .inl (cA, n, .inl (jPut n f x v)))] H := z_arrP hP 0 (g := (jPut n f x v)) rfl (by clear hret hl hS hD hP hK hA hN hts hx hb hr hml hown hlocks ; intro j _; unfold jPut; split <;> grind [upd]) rfl
      have hD : va_D A [(q, .inl (cA, n, .inl (jPut n f x v)))] := z_arrD hD 0 rfl rfl
      exact hret () _ _ _ _ dX4_put_18 (by trivial) hP hD hS
abbrev rm_c_X4_isIn : Room := { frames := 0, cells := 0, slots := 0, locals := 0 }
set_option maxHeartbeats 400000 in
set_option maxRecDepth 20000 in
theorem c_X4_isIn {l : Launch} {D : va_G} {cA : ClassId} {x : Int32} {o : Int32} : zMi l yX4_isIn wsX4_isIn rm_c_X4_isIn D cA [] [.int x, .int o] (fun (r : Int32) (_ : Unit) => r = bI (jIsIn x o)) (fun (_ : Unit) => []) := by
  refine z_enteri (cc := cX4_isIn) (maxL := 2) (ty := .boolean) (by decide) rfl (Nat.le_of_ble_eq_true rfl) (fun p e s m args below meth c ls A H0 H locs Q hi_ hA hK hP hD hS hl hret => ?_)
  obtain ⟨hx, hb, hr, hml, hown, hts, hlocks, hN⟩ := hi_
  have hl : lv_has ls 2 [(0, .int x), (1, .int o)] := hl
  refine lv_iload_n hx hb dX4_isIn_0 rfl (lv_at hl 0 rfl) ?_
  refine lv_if_lt (tgt := 22) hx hb dX4_isIn_1 (by decide) (fun c1_1 => ?_) (fun c1_1 => ?_)
  · skip
    refine lv_iconst (v := 0) hx hb dX4_isIn_22 (by decide) ?_
    -- path 1
    exact hret (0) () _ _ _ _ dX4_isIn_23 (rfl) (by clear hret hl hS hD hP hK hA hN hts hx hb hr hml hown hlocks ; grind [jIsIn, bI]) hP hD hS
  · skip
    refine lv_iload_n hx hb dX4_isIn_4 rfl (lv_at hl 0 rfl) ?_
    refine lv_iconst (v := 5) hx hb dX4_isIn_5 (by decide) ?_
    refine lv_icmp_ge (tgt := 22) hx hb dX4_isIn_6 (by decide) (fun c6_2 => ?_) (fun c6_2 => ?_)
    · skip
      refine lv_iconst (v := 0) hx hb dX4_isIn_22 (by decide) ?_
      -- path 2
      exact hret (0) () _ _ _ _ dX4_isIn_23 (rfl) (by clear hret hl hS hD hP hK hA hN hts hx hb hr hml hown hlocks ; grind [jIsIn, bI]) hP hD hS
    · skip
      refine lv_iload_n hx hb dX4_isIn_9 rfl (lv_at hl 1 rfl) ?_
      refine lv_iload_n hx hb dX4_isIn_10 rfl (lv_at hl 0 rfl) ?_
      refine lv_ishr hx hb dX4_isIn_11 ?_
      refine lv_iconst (v := 1) hx hb dX4_isIn_12 (by decide) ?_
      refine lv_iand hx hb dX4_isIn_13 ?_
      refine lv_iconst (v := 1) hx hb dX4_isIn_14 (by decide) ?_
      refine lv_icmp_ne (tgt := 22) hx hb dX4_isIn_15 (by decide) (fun c15_3 => ?_) (fun c15_3 => ?_)
      · skip
        refine lv_iconst (v := 0) hx hb dX4_isIn_22 (by decide) ?_
        -- path 3
        exact hret (0) () _ _ _ _ dX4_isIn_23 (rfl) (by clear hret hl hS hD hP hK hA hN hts hx hb hr hml hown hlocks ; grind [jIsIn, bI]) hP hD hS
      · skip
        refine lv_iconst (v := 1) hx hb dX4_isIn_18 (by decide) ?_
        refine lv_goto (tgt := 23) hx hb dX4_isIn_19 (by decide) ?_
        -- path 4
        exact hret (1) () _ _ _ _ dX4_isIn_23 (rfl) (by clear hret hl hS hD hP hK hA hN hts hx hb hr hml hown hlocks ; grind [jIsIn, bI]) hP hD hS
abbrev rm_c_X4_nextSeed : Room := { frames := 0, cells := 0, slots := 0, locals := 0 }
set_option maxHeartbeats 400000 in
set_option maxRecDepth 20000 in
theorem c_X4_nextSeed {l : Launch} {D : va_G} {cA : ClassId} {x : Int64} : zMl l yX4_nextSeed wsX4_nextSeed rm_c_X4_nextSeed D cA [] [.long x] (fun (r : Int64) (_ : Unit) => r = jNext x) (fun (_ : Unit) => []) := by
  refine z_enterl (cc := cX4_nextSeed) (maxL := 2) (by decide) rfl (Nat.le_of_ble_eq_true rfl) (fun p e s m args below meth c ls A H0 H locs Q hi_ hA hK hP hD hS hl hret => ?_)
  obtain ⟨hx, hb, hr, hml, hown, hts, hlocks, hN⟩ := hi_
  have hl : lv_has ls 2 [(0, .long x)] := hl
  refine lv_ldc2 (v := 1103515245) hx hb hown (hts (.constantLong RX4 226 (1103515245)) (by decide +kernel)) dX4_nextSeed_0 ?_
  refine lv_lload_n hx hb dX4_nextSeed_3 rfl (lv_at hl 0 rfl) ?_
  refine lv_lmul hx hb dX4_nextSeed_4 ?_
  refine lv_ldc2 (v := 12345) hx hb hown (hts (.constantLong RX4 228 (12345)) (by decide +kernel)) dX4_nextSeed_5 ?_
  refine lv_ladd hx hb dX4_nextSeed_8 ?_
  refine lv_ldc2 (v := 2147483648) hx hb hown (hts (.constantLong RX4 230 (2147483648)) (by decide +kernel)) dX4_nextSeed_9 ?_
  refine lv_lrem hx hb dX4_nextSeed_12 (by decide) ?_
  -- path 1
  exact hret (((1103515245 * x) + 12345) - ((1103515245 * x) + 12345) / 2147483648 * 2147483648) () _ _ _ _ dX4_nextSeed_13 (by rfl) hP hD hS
abbrev rm_c_X4_fill : Room := { frames := 0, cells := 0, slots := 0, locals := 0 }
set_option maxHeartbeats 400000 in
set_option maxRecDepth 20000 in
theorem c_X4_fill {l : Launch} {D : va_G} {cA : ClassId} {n : Nat} {q : Nat} {f : Nat → Int32} {x : Int32} (hn : n < 2147483648) : zMv l yX4_fill wsX4_fill rm_c_X4_fill D cA [(q, .inl (cA, n, .inl f))] [.ref q, .int x] (fun (_ : Unit) => True) (fun (_ : Unit) => [(q, .inl (cA, n, .inl (fun _ => x)))]) := by
  refine z_enterv (cc := cX4_fill) (maxL := 3) (by decide) rfl (Nat.le_of_ble_eq_true rfl) (fun p e s m args below meth c ls A H0 H locs Q hi_ hA hK hP hD hS hl hret => ?_)
  obtain ⟨hx, hb, hr, hml, hown, hts, hlocks, hN⟩ := hi_
  have hl : lv_has ls 3 [(0, .ref q), (1, .int x)] := hl
  refine lv_aload_n hx hb dX4_fill_0 rfl (lv_at hl 0 rfl) ?_
  refine lv_ifnull hx hb dX4_fill_1 ?_
  refine lv_iconst (v := nI 0) hx hb dX4_fill_4 (by decide) ?_
  refine lv_istore_n (lv' := [(2, .int (nI 0)), (0, .ref q), (1, .int x)]) hx hb dX4_fill_5 rfl hl (by decide) rfl (fun ls hl => ?_)
  have L6 : ∀ (n_ : Nat) (i : Nat) (g : Nat → Int32) (hm_ : n + 1 ≤ i + n_) (hi : i ≤ n) (hg : ∀ j, j < i → g j = x) (H : Heap) (locs : List Loc) (ls : Array Slot), va_P D vwCl [(q, .inl (cA, n, .inl g))] H → va_D A [(q, .inl (cA, n, .inl g))] → va_S A H0 H locs → lv_has ls 3 [(0, .ref q), (1, .int x), (2, .int (nI i))] → W p l e rm_c_X4_fill s m args below meth c H locs 0 0 Q (F0 m 6 ls []) := by
    intro n_
    induction n_ with
    | zero =>
      intro i g hm_ hi hg
      exact absurd hm_ (by omega)
    | succ n_ ih_ =>
      intro i g hm_ hi hg H locs ls hP hD hS hl
      have ih1 := ih_
      clear ih_
      refine lv_iload_n hx hb dX4_fill_6 rfl (lv_at hl 2 rfl) ?_
      refine lv_aload_n hx hb dX4_fill_7 rfl (lv_at hl 0 rfl) ?_
      refine va_alen (v := nI n) hx hb hK hP 0 0 rfl rfl rfl dX4_fill_8 ?_
      refine lv_icmp_ge (tgt := 22) hx hb dX4_fill_9 (by decide) (fun c9_2 => ?_) (fun c9_2 => ?_)
      · skip
        have ht_ := (nI_leI (by omega) (by omega)).mp c9_2
        -- path 1
        have hP : va_P D vwCl [(q, .inl (cA, n, .inl (fun _ => x)))] H := z_arrP hP 0 (g := (fun _ => x)) rfl (by clear hret hl hS hD hP hK hA hN hts hx hb hr hml hown hlocks  ih1; intro j hj; exact hg j (by omega)) rfl
        have hD : va_D A [(q, .inl (cA, n, .inl (fun _ => x)))] := z_arrD hD 0 rfl rfl
        exact hret () _ _ _ _ dX4_fill_22 (by trivial) hP hD hS
      · skip
        have hlt : i < n := Nat.lt_of_not_le (fun q_ => c9_2 ((nI_leI (by omega) (by omega)).mpr q_))
        refine lv_aload_n hx hb dX4_fill_12 rfl (lv_at hl 0 rfl) ?_
        refine lv_iload_n hx hb dX4_fill_13 rfl (lv_at hl 2 rfl) ?_
        refine lv_iload_n hx hb dX4_fill_14 rfl (lv_at hl 1 rfl) ?_
        refine va_iast hx hb hK hP hD hS 0 0 rfl rfl (z_inN (by assumption) hn) dX4_fill_15 (fun H locs hP hD hS => ?_)
        have hP : va_P D vwCl [(q, .inl (cA, n, .inl (upd g (Int32.toNatClampNeg (nI i)) x)))] H := hP
        have hD : va_D A [(q, .inl (cA, n, .inl (upd g (Int32.toNatClampNeg (nI i)) x)))] := hD
        refine lv_iinc (v := nI (i + 1)) (lv' := [(2, .int (nI (i + 1))), (0, .ref q), (1, .int x)]) hx hb dX4_fill_16 hl (k := 2) rfl (nI_1 i) (by decide) rfl (fun ls hl => ?_)
        refine lv_goto (tgt := 6) hx hb dX4_fill_19 (by decide) ?_
        exact ih1 (i + 1) (upd g (Int32.toNatClampNeg (nI i)) x) (by omega) (by first | assumption | omega) (by clear hret hl hS hD hP hK hA hN hts hx hb hr hml hown hlocks  ih1; intro j hj; rw [z_nat (by omega)]; unfold upd; split <;> first | rfl | exact hg j (by omega)) _ _ _ hP hD hS (lv_sub hl [1, 2, 0] rfl)
  exact L6 (n + 1) 0 f (by omega) (by first | assumption | omega) (by clear hret hl hS hD hP hK hA hN hts hx hb hr hml hown hlocks  L6; intro j hj; omega) _ _ _ hP hD hS (lv_sub hl [1, 2, 0] rfl)
abbrev rm_c_X4_copy : Room := { frames := 1, cells := 0, slots := 0, locals := 21 }
set_option maxHeartbeats 400000 in
set_option maxRecDepth 20000 in
theorem c_X4_copy {l : Launch} {D : va_G} {cA : ClassId} {n : Nat} {q : Nat} {q2 : Nat} {f : Nat → Int32} {f2 : Nat → Int32} (hn : n < 2147483648) : zMv l yX4_copy wsX4_copy rm_c_X4_copy D cA [(q, .inl (cA, n, .inl f)), (q2, .inl (cA, n, .inl f2))] [.ref q, .ref q2] (fun (_ : Unit) => True) (fun (_ : Unit) => [(q, .inl (cA, n, .inl f)), (q2, .inl (cA, n, .inl f))]) := by
  refine z_enterv (cc := cX4_copy) (maxL := 3) (by decide) rfl (Nat.le_of_ble_eq_true rfl) (fun p e s m args below meth c ls A H0 H locs Q hi_ hA hK hP hD hS hl hret => ?_)
  obtain ⟨hx, hb, hr, hml, hown, hts, hlocks, hN⟩ := hi_
  have hl : lv_has ls 3 [(0, .ref q), (1, .ref q2)] := hl
  refine lv_aload_n hx hb dX4_copy_0 rfl (lv_at hl 1 rfl) ?_
  refine lv_ifnull hx hb dX4_copy_1 ?_
  refine lv_iconst (v := nI 0) hx hb dX4_copy_4 (by decide) ?_
  refine lv_istore_n (lv' := [(2, .int (nI 0)), (0, .ref q), (1, .ref q2)]) hx hb dX4_copy_5 rfl hl (by decide) rfl (fun ls hl => ?_)
  have L6 : ∀ (n_ : Nat) (i : Nat) (g : Nat → Int32) (hm_ : n + 1 ≤ i + n_) (hi : i ≤ n) (hg : ∀ j, j < i → g j = f j) (H : Heap) (locs : List Loc) (ls : Array Slot), va_P D vwCl [(q, .inl (cA, n, .inl f)), (q2, .inl (cA, n, .inl g))] H → va_D A [(q, .inl (cA, n, .inl f)), (q2, .inl (cA, n, .inl g))] → va_S A H0 H locs → lv_has ls 3 [(0, .ref q), (1, .ref q2), (2, .int (nI i))] → W p l e rm_c_X4_copy s m args below meth c H locs 0 0 Q (F0 m 6 ls []) := by
    intro n_
    induction n_ with
    | zero =>
      intro i g hm_ hi hg
      exact absurd hm_ (by omega)
    | succ n_ ih_ =>
      intro i g hm_ hi hg H locs ls hP hD hS hl
      have ih1 := ih_
      clear ih_
      refine lv_iload_n hx hb dX4_copy_6 rfl (lv_at hl 2 rfl) ?_
      refine lv_aload_n hx hb dX4_copy_7 rfl (lv_at hl 1 rfl) ?_
      refine va_alen (v := nI n) hx hb hK hP 1 0 rfl rfl rfl dX4_copy_8 ?_
      refine lv_icmp_ge (tgt := 26) hx hb dX4_copy_9 (by decide) (fun c9_2 => ?_) (fun c9_2 => ?_)
      · skip
        have ht_ := (nI_leI (by omega) (by omega)).mp c9_2
        -- path 1
        have hP : va_P D vwCl [(q, .inl (cA, n, .inl f)), (q2, .inl (cA, n, .inl f))] H := z_arrP hP 1 (g := f) rfl (by clear hret hl hS hD hP hK hA hN hts hx hb hr hml hown hlocks  ih1; intro j hj; exact hg j (by omega)) rfl
        have hD : va_D A [(q, .inl (cA, n, .inl f)), (q2, .inl (cA, n, .inl f))] := z_arrD hD 1 rfl rfl
        exact hret () _ _ _ _ dX4_copy_26 (by trivial) hP hD hS
      · skip
        have hlt : i < n := Nat.lt_of_not_le (fun q_ => c9_2 ((nI_leI (by omega) (by omega)).mpr q_))
        refine lv_aload_n hx hb dX4_copy_12 rfl (lv_at hl 1 rfl) ?_
        refine lv_iload_n hx hb dX4_copy_13 rfl (lv_at hl 2 rfl) ?_
        refine lv_aload_n hx hb dX4_copy_14 rfl (lv_at hl 0 rfl) ?_
        refine lv_iload_n hx hb dX4_copy_15 rfl (lv_at hl 2 rfl) ?_
        refine z_bri (z_runS (As := [.ref q, .int (nI i)]) (rest := [.int (nI i), .ref q2]) ⟨hx, hb, hml, hown, hts⟩ (c_X4_at (n := n) (q := q) (f := f) (x := nI i) (by first | assumption | omega) _) (va_cwS 2 hts gX4_copy_X4_at rfl rfl rfl (by decide +kernel) ⟨Nat.le_of_ble_eq_true rfl, Nat.le_of_ble_eq_true rfl⟩) hK hP hD hN [0] rfl rfl rfl hl.1 rfl (Nat.le_of_ble_eq_true rfl) dX4_copy_16 ⟨Nat.zero_le _, Nat.zero_le _⟩) hP hD hS hA [0] rfl (fun r4 u5 H locs hw3 hP hS => ?_)
        obtain rfl : r4 = jAt n f (nI i) := hw3
        refine z_top (y := f i) (jAt_nI (by omega) hn) ?_
        refine va_iast hx hb hK hP hD hS 1 0 rfl rfl (z_inN (by assumption) hn) dX4_copy_19 (fun H locs hP hD hS => ?_)
        have hP : va_P D vwCl [(q, .inl (cA, n, .inl f)), (q2, .inl (cA, n, .inl (upd g (Int32.toNatClampNeg (nI i)) (f i))))] H := hP
        have hD : va_D A [(q, .inl (cA, n, .inl f)), (q2, .inl (cA, n, .inl (upd g (Int32.toNatClampNeg (nI i)) (f i))))] := hD
        refine lv_iinc (v := nI (i + 1)) (lv' := [(2, .int (nI (i + 1))), (0, .ref q), (1, .ref q2)]) hx hb dX4_copy_20 hl (k := 2) rfl (nI_1 i) (by decide) rfl (fun ls hl => ?_)
        refine lv_goto (tgt := 6) hx hb dX4_copy_23 (by decide) ?_
        exact ih1 (i + 1) (upd g (Int32.toNatClampNeg (nI i)) (f i)) (by omega) (by first | assumption | omega) (by clear hret hl hS hD hP hK hA hN hts hx hb hr hml hown hlocks  ih1; intro j hj; rw [z_nat (by omega)]; unfold upd; split <;> first | (rename_i e_; rw [e_]) | exact hg j (by omega)) _ _ _ hP hD hS (lv_sub hl [1, 2, 0] rfl)
  exact L6 (n + 1) 0 f2 (by omega) (by first | assumption | omega) (by clear hret hl hS hD hP hK hA hN hts hx hb hr hml hown hlocks  L6; intro j hj; omega) _ _ _ hP hD hS (lv_sub hl [1, 2, 0] rfl)
abbrev rm_c_X2_append : Room := { frames := 1, cells := 0, slots := 0, locals := 22 }
set_option maxHeartbeats 400000 in
set_option maxRecDepth 20000 in
theorem c_X2_append {l : Launch} {D : va_G} {cA : ClassId} {h0 : Nat} {q : Nat} {n : Nat} {f : Nat → Int32} {x : Int32} (hn : n < 18) : zMv l yX2_append wsX2_append rm_c_X2_append D cA [(h0, .inr (2, [.ref q, .int (nI n)])), (q, .inl (cA, 18, .inl f))] [.ref h0, .int x] (fun (_ : Unit) => True) (fun (_ : Unit) => [(h0, .inr (2, [.ref q, .int (nI (n + 1))])), (q, .inl (cA, 18, .inl (upd f n x)))]) := by
  refine z_enterv (cc := cX2_append) (maxL := 2) (by decide) rfl (Nat.le_of_ble_eq_true rfl) (fun p e s m args below meth c ls A H0 H locs Q hi_ hA hK hP hD hS hl hret => ?_)
  obtain ⟨hx, hb, hr, hml, hown, hts, hlocks, hN⟩ := hi_
  have hl : lv_has ls 2 [(0, .ref h0), (1, .int x)] := hl
  have hiX2 : ∀ w ∈ wsX20, w ∈ wsX2_append := by decide +kernel
  refine lv_aload_n hx hb dX2_append_0 rfl (lv_at hl 0 rfl) ?_
  refine va_get (D := D) (ci := 2) (v := .int (nI n)) (C := RX2) (T := TX2) (N := 2) hx hb hts hiX2 hown hK hP 0 rfl rfl 1 (by decide) (hts (.fieldLink RX2 15 "HeardSecond$Page" "length" "I") (by decide +kernel)) (fun _ h9 => h9) rfl dX2_append_1 ?_
  refine lv_bipush (v := 18) hx hb dX2_append_4 (by decide) ?_
  refine lv_icmp_ge (tgt := 31) hx hb dX2_append_6 (by decide) (fun c6_1 => ?_) (fun c6_1 => ?_)
  · skip
    exact absurd ((nI_leI (a := 18) (b := n) (by omega) (by omega)).mp c6_1) (by omega)
  · skip
    refine lv_aload_n hx hb dX2_append_9 rfl (lv_at hl 0 rfl) ?_
    refine va_get (D := D) (ci := 2) (v := .ref q) (C := RX2) (T := TX2) (N := 2) hx hb hts hiX2 hown hK hP 0 rfl rfl 0 (by decide) (hts (.fieldLink RX2 9 "HeardSecond$Page" "codes" "[I") (by decide +kernel)) (fun _ h9 => h9) rfl dX2_append_10 ?_
    refine lv_aload_n hx hb dX2_append_13 rfl (lv_at hl 0 rfl) ?_
    refine va_get (D := D) (ci := 2) (v := .int (nI n)) (C := RX2) (T := TX2) (N := 2) hx hb hts hiX2 hown hK hP 0 rfl rfl 1 (by decide) (hts (.fieldLink RX2 15 "HeardSecond$Page" "length" "I") (by decide +kernel)) (fun _ h9 => h9) rfl dX2_append_14 ?_
    refine lv_iload_n hx hb dX2_append_17 rfl (lv_at hl 1 rfl) ?_
    refine z_bwv (wr := [(h0, .inr (2, [.ref q, .int (nI n)]))]) (ws' := fun (_ : Unit) => [(h0, .inr (2, [.ref q, .int (nI n)])), (q, .inl (cA, 18, .inl (jPut 18 f (nI n) x)))]) (z_runSN (As := [.ref q, .int (nI n), .int x]) (rest := []) ⟨hx, hb, hml, hown, hts⟩ (c_X4_put (n := 18) (q := q) (f := f) (x := nI n) (v := x) (by first | assumption | omega) _) (va_cnB (own := RX2) (host := "HeardSecond") (index := 19) 3 hts ggX2_append_X4_put rfl rfl rfl (hN.get 21 rfl) (hts (.initialized RX4) (by decide +kernel)) (by decide +kernel) ⟨Nat.le_of_ble_eq_true rfl, Nat.le_of_ble_eq_true rfl⟩) (hts (.static yX4_put) (by decide +kernel)) hK hP hD hN [1] rfl rfl rfl hl.1 rfl (Nat.le_of_ble_eq_true rfl) dX2_append_18 ⟨Nat.zero_le _, Nat.zero_le _⟩) hP hD hS hA [1] [0] [0, 1] rfl rfl rfl (by decide) rfl (fun _ => rfl) (fun u4 H locs hw2 hP hD hS => ?_)
    have hP : va_P D vwCl [(h0, .inr (2, [.ref q, .int (nI n)])), (q, .inl (cA, 18, .inl (jPut 18 f (nI n) x)))] H := hP
    have hD : va_D A [(h0, .inr (2, [.ref q, .int (nI n)])), (q, .inl (cA, 18, .inl (jPut 18 f (nI n) x)))] := hD
    refine lv_aload_n hx hb dX2_append_21 rfl (lv_at hl 0 rfl) ?_
    refine lv_dup hx hb dX2_append_22 rfl ?_
    refine va_get (D := D) (ci := 2) (v := .int (nI n)) (C := RX2) (T := TX2) (N := 2) hx hb hts hiX2 hown hK hP 0 rfl rfl 1 (by decide) (hts (.fieldLink RX2 15 "HeardSecond$Page" "length" "I") (by decide +kernel)) (fun _ h9 => h9) rfl dX2_append_23 ?_
    refine lv_iconst (v := 1) hx hb dX2_append_26 (by decide) ?_
    refine lv_iadd hx hb dX2_append_27 ?_
    refine va_put (D := D) (ci := 2) (v := .int ((nI n) + 1)) (ty := .int) (C := RX2) (T := TX2) (N := 2) hx hb hts hiX2 tyX2 tyX2_ok nmX2 hown hK hP hD hS 0 rfl rfl 1 (by decide) (hts (.fieldLink RX2 15 "HeardSecond$Page" "length" "I") (by decide +kernel)) (fun _ h9 => h9) rfl (by decide +kernel) (rfl) rfl (Nat.le_of_ble_eq_true rfl) dX2_append_28 (fun H locs hP hD hS => ?_)
    have hP : va_P D vwCl [(h0, .inr (2, [.ref q, .int ((nI n) + 1)])), (q, .inl (cA, 18, .inl (jPut 18 f (nI n) x)))] H := hP
    have hD : va_D A [(h0, .inr (2, [.ref q, .int ((nI n) + 1)])), (q, .inl (cA, 18, .inl (jPut 18 f (nI n) x)))] := hD
    -- path 1
    have hP : va_P D vwCl [(h0, .inr (2, [.ref q, .int (nI (n + 1))])), (q, .inl (cA, 18, .inl (jPut 18 f (nI n) x)))] H := by have e_ : (nI n) + 1 = nI (n + 1) := (by clear hret hl hS hD hP hK hA hN hts hx hb hr hml hown hlocks hiX2; exact nI_1 n); rw [← e_]; exact hP
    have hD : va_D A [(h0, .inr (2, [.ref q, .int (nI (n + 1))])), (q, .inl (cA, 18, .inl (jPut 18 f (nI n) x)))] := by have e_ : (nI n) + 1 = nI (n + 1) := (by clear hret hl hS hD hP hK hA hN hts hx hb hr hml hown hlocks hiX2; exact nI_1 n); rw [← e_]; exact hD
    have hP : va_P D vwCl [(h0, .inr (2, [.ref q, .int (nI (n + 1))])), (q, .inl (cA, 18, .inl (upd f n x)))] H := z_arrP hP 1 (g := (upd f n x)) rfl (by clear hret hl hS hD hP hK hA hN hts hx hb hr hml hown hlocks hiX2; intro j _; rw [jPut_nI hn (by decide)]) rfl
    have hD : va_D A [(h0, .inr (2, [.ref q, .int (nI (n + 1))])), (q, .inl (cA, 18, .inl (upd f n x)))] := z_arrD hD 1 rfl rfl
    exact hret () _ _ _ _ dX2_append_31 (by trivial) hP hD hS
abbrev rm_c_X2_wipe : Room := { frames := 0, cells := 0, slots := 0, locals := 0 }
set_option maxHeartbeats 400000 in
set_option maxRecDepth 20000 in
theorem c_X2_wipe {l : Launch} {D : va_G} {cA : ClassId} {h0 : Nat} {q : Nat} {n : Nat} {f : Nat → Int32} : zMv l yX2_wipe wsX2_wipe rm_c_X2_wipe D cA [(h0, .inr (2, [.ref q, .int (nI n)])), (q, .inl (cA, 18, .inl f))] [.ref h0] (fun (_ : Unit) => True) (fun (_ : Unit) => [(h0, .inr (2, [.ref q, .int (nI 0)])), (q, .inl (cA, 18, .inl f))]) := by
  refine z_enterv (cc := cX2_wipe) (maxL := 1) (by decide) rfl (Nat.le_of_ble_eq_true rfl) (fun p e s m args below meth c ls A H0 H locs Q hi_ hA hK hP hD hS hl hret => ?_)
  obtain ⟨hx, hb, hr, hml, hown, hts, hlocks, hN⟩ := hi_
  have hl : lv_has ls 1 [(0, .ref h0)] := hl
  have hiX2 : ∀ w ∈ wsX20, w ∈ wsX2_wipe := by decide +kernel
  refine lv_aload_n hx hb dX2_wipe_0 rfl (lv_at hl 0 rfl) ?_
  refine lv_iconst (v := nI 0) hx hb dX2_wipe_1 (by decide) ?_
  refine va_put (D := D) (ci := 2) (v := .int (nI 0)) (ty := .int) (C := RX2) (T := TX2) (N := 2) hx hb hts hiX2 tyX2 tyX2_ok nmX2 hown hK hP hD hS 0 rfl rfl 1 (by decide) (hts (.fieldLink RX2 15 "HeardSecond$Page" "length" "I") (by decide +kernel)) (fun _ h9 => h9) rfl (by decide +kernel) (rfl) rfl (Nat.le_of_ble_eq_true rfl) dX2_wipe_2 (fun H locs hP hD hS => ?_)
  have hP : va_P D vwCl [(h0, .inr (2, [.ref q, .int (nI 0)])), (q, .inl (cA, 18, .inl f))] H := hP
  have hD : va_D A [(h0, .inr (2, [.ref q, .int (nI 0)])), (q, .inl (cA, 18, .inl f))] := hD
  -- path 1
  exact hret () _ _ _ _ dX2_wipe_5 (by trivial) hP hD hS
abbrev rm_c_X2_codeAt : Room := { frames := 1, cells := 0, slots := 0, locals := 21 }
set_option maxHeartbeats 400000 in
set_option maxRecDepth 20000 in
theorem c_X2_codeAt {l : Launch} {D : va_G} {cA : ClassId} {h0 : Nat} {q : Nat} {n : Nat} {f : Nat → Int32} {x : Int32} (hn : n ≤ 18) : zMi l yX2_codeAt wsX2_codeAt rm_c_X2_codeAt D cA [(h0, .inr (2, [.ref q, .int (nI n)])), (q, .inl (cA, 18, .inl f))] [.ref h0, .int x] (fun (r : Int32) (_ : Unit) => r = jCode n f x) (fun (_ : Unit) => [(h0, .inr (2, [.ref q, .int (nI n)])), (q, .inl (cA, 18, .inl f))]) := by
  refine z_enteri (cc := cX2_codeAt) (maxL := 2) (ty := .int) (by decide) rfl (Nat.le_of_ble_eq_true rfl) (fun p e s m args below meth c ls A H0 H locs Q hi_ hA hK hP hD hS hl hret => ?_)
  obtain ⟨hx, hb, hr, hml, hown, hts, hlocks, hN⟩ := hi_
  have hl : lv_has ls 2 [(0, .ref h0), (1, .int x)] := hl
  have hiX2 : ∀ w ∈ wsX20, w ∈ wsX2_codeAt := by decide +kernel
  refine lv_iload_n hx hb dX2_codeAt_0 rfl (lv_at hl 1 rfl) ?_
  refine lv_if_lt (tgt := 23) hx hb dX2_codeAt_1 (by decide) (fun c1_1 => ?_) (fun c1_1 => ?_)
  · skip
    refine lv_iconst (v := 0) hx hb dX2_codeAt_23 (by decide) ?_
    -- path 1
    exact hret (0) () _ _ _ _ dX2_codeAt_24 (rfl) (by clear hret hl hS hD hP hK hA hN hts hx hb hr hml hown hlocks hiX2; first | (grind [jCode]) | (rw [jAt, if_pos ⟨Int32.not_lt.mp c1_1, z_ltM hn (by decide) (Int32.not_le.mp c9_2)⟩, jCode, if_pos ⟨Int32.not_lt.mp c1_1, Int32.not_le.mp c9_2⟩])) hP hD hS
  · skip
    refine lv_iload_n hx hb dX2_codeAt_4 rfl (lv_at hl 1 rfl) ?_
    refine lv_aload_n hx hb dX2_codeAt_5 rfl (lv_at hl 0 rfl) ?_
    refine va_get (D := D) (ci := 2) (v := .int (nI n)) (C := RX2) (T := TX2) (N := 2) hx hb hts hiX2 hown hK hP 0 rfl rfl 1 (by decide) (hts (.fieldLink RX2 15 "HeardSecond$Page" "length" "I") (by decide +kernel)) (fun _ h9 => h9) rfl dX2_codeAt_6 ?_
    refine lv_icmp_ge (tgt := 23) hx hb dX2_codeAt_9 (by decide) (fun c9_2 => ?_) (fun c9_2 => ?_)
    · skip
      refine lv_iconst (v := 0) hx hb dX2_codeAt_23 (by decide) ?_
      -- path 2
      exact hret (0) () _ _ _ _ dX2_codeAt_24 (rfl) (by clear hret hl hS hD hP hK hA hN hts hx hb hr hml hown hlocks hiX2; first | (grind [jCode]) | (rw [jAt, if_pos ⟨Int32.not_lt.mp c1_1, z_ltM hn (by decide) (Int32.not_le.mp c9_2)⟩, jCode, if_pos ⟨Int32.not_lt.mp c1_1, Int32.not_le.mp c9_2⟩])) hP hD hS
    · skip
      refine lv_aload_n hx hb dX2_codeAt_12 rfl (lv_at hl 0 rfl) ?_
      refine va_get (D := D) (ci := 2) (v := .ref q) (C := RX2) (T := TX2) (N := 2) hx hb hts hiX2 hown hK hP 0 rfl rfl 0 (by decide) (hts (.fieldLink RX2 9 "HeardSecond$Page" "codes" "[I") (by decide +kernel)) (fun _ h9 => h9) rfl dX2_codeAt_13 ?_
      refine lv_iload_n hx hb dX2_codeAt_16 rfl (lv_at hl 1 rfl) ?_
      refine z_bri (z_runSN (As := [.ref q, .int x]) (rest := []) ⟨hx, hb, hml, hown, hts⟩ (c_X4_at (n := 18) (q := q) (f := f) (x := x) (by first | assumption | omega) _) (va_cnB (own := RX2) (host := "HeardSecond") (index := 23) 2 hts ggX2_codeAt_X4_at rfl rfl rfl (hN.get 22 rfl) (hts (.initialized RX4) (by decide +kernel)) (by decide +kernel) ⟨Nat.le_of_ble_eq_true rfl, Nat.le_of_ble_eq_true rfl⟩) (hts (.static yX4_at) (by decide +kernel)) hK hP hD hN [1] rfl rfl rfl hl.1 rfl (Nat.le_of_ble_eq_true rfl) dX2_codeAt_17 ⟨Nat.zero_le _, Nat.zero_le _⟩) hP hD hS hA [1] rfl (fun r4 u5 H locs hw3 hP hS => ?_)
      obtain rfl : r4 = jAt 18 f x := hw3
      refine lv_goto (tgt := 24) hx hb dX2_codeAt_20 (by decide) ?_
      -- path 3
      exact hret (jAt 18 f x) () _ _ _ _ dX2_codeAt_24 (rfl) (by clear hret hl hS hD hP hK hA hN hts hx hb hr hml hown hlocks hiX2; first | (grind [jCode]) | (rw [jAt, if_pos ⟨Int32.not_lt.mp c1_1, z_ltM hn (by decide) (Int32.not_le.mp c9_2)⟩, jCode, if_pos ⟨Int32.not_lt.mp c1_1, Int32.not_le.mp c9_2⟩])) hP hD hS
abbrev rm_c_X2_kindOf : Room := { frames := 0, cells := 0, slots := 0, locals := 0 }
set_option maxHeartbeats 400000 in
set_option maxRecDepth 20000 in
theorem c_X2_kindOf {l : Launch} {D : va_G} {cA : ClassId} {c_ : Int32} : zMi l yX2_kindOf wsX2_kindOf rm_c_X2_kindOf D cA [] [.int c_] (fun (r : Int32) (_ : Unit) => r = jKindOf c_) (fun (_ : Unit) => []) := by
  refine z_enteri (cc := cX2_kindOf) (maxL := 1) (ty := .int) (by decide) rfl (Nat.le_of_ble_eq_true rfl) (fun p e s m args below meth c ls A H0 H locs Q hi_ hA hK hP hD hS hl hret => ?_)
  obtain ⟨hx, hb, hr, hml, hown, hts, hlocks, hN⟩ := hi_
  have hl : lv_has ls 1 [(0, .int c_)] := hl
  refine lv_iload_n hx hb dX2_kindOf_0 rfl (lv_at hl 0 rfl) ?_
  by_cases c1_1v101 : c_ = 101
  · skip
    refine lv_lookup (off := 55) (tgt := 56) hx hb dX2_kindOf_1 (by decide) (by rw [c1_1v101]; rfl) (by decide) ?_
    refine lv_iconst (v := 2) hx hb dX2_kindOf_56 (by decide) ?_
    -- path 1
    exact hret (2) () _ _ _ _ dX2_kindOf_57 (rfl) (by clear hret hl hS hD hP hK hA hN hts hx hb hr hml hown hlocks ; grind [jKindOf]) hP hD hS
  by_cases c1_1v102 : c_ = 102
  · skip
    refine lv_lookup (off := 57) (tgt := 58) hx hb dX2_kindOf_1 (by decide) (by rw [c1_1v102]; rfl) (by decide) ?_
    refine lv_iconst (v := 3) hx hb dX2_kindOf_58 (by decide) ?_
    -- path 2
    exact hret (3) () _ _ _ _ dX2_kindOf_59 (rfl) (by clear hret hl hS hD hP hK hA hN hts hx hb hr hml hown hlocks ; grind [jKindOf]) hP hD hS
  by_cases c1_1v109 : c_ = 109
  · skip
    refine lv_lookup (off := 59) (tgt := 60) hx hb dX2_kindOf_1 (by decide) (by rw [c1_1v109]; rfl) (by decide) ?_
    refine lv_iconst (v := 4) hx hb dX2_kindOf_60 (by decide) ?_
    -- path 3
    exact hret (4) () _ _ _ _ dX2_kindOf_61 (rfl) (by clear hret hl hS hD hP hK hA hN hts hx hb hr hml hown hlocks ; grind [jKindOf]) hP hD hS
  by_cases c1_1v115 : c_ = 115
  · skip
    refine lv_lookup (off := 51) (tgt := 52) hx hb dX2_kindOf_1 (by decide) (by rw [c1_1v115]; rfl) (by decide) ?_
    refine lv_iconst (v := 0) hx hb dX2_kindOf_52 (by decide) ?_
    -- path 4
    exact hret (0) () _ _ _ _ dX2_kindOf_53 (rfl) (by clear hret hl hS hD hP hK hA hN hts hx hb hr hml hown hlocks ; grind [jKindOf]) hP hD hS
  by_cases c1_1v119 : c_ = 119
  · skip
    refine lv_lookup (off := 53) (tgt := 54) hx hb dX2_kindOf_1 (by decide) (by rw [c1_1v119]; rfl) (by decide) ?_
    refine lv_iconst (v := 1) hx hb dX2_kindOf_54 (by decide) ?_
    -- path 5
    exact hret (1) () _ _ _ _ dX2_kindOf_55 (rfl) (by clear hret hl hS hD hP hK hA hN hts hx hb hr hml hown hlocks ; grind [jKindOf]) hP hD hS
  refine lv_lookup (off := 61) (tgt := 62) hx hb dX2_kindOf_1 (by decide) (z_lkKind c1_1v101 c1_1v102 c1_1v109 c1_1v115 c1_1v119) (by decide) ?_
  refine lv_iconst (v := (-1)) hx hb dX2_kindOf_62 (by decide) ?_
  -- path 6
  exact hret ((-1)) () _ _ _ _ dX2_kindOf_63 (rfl) (by clear hret hl hS hD hP hK hA hN hts hx hb hr hml hown hlocks ; grind [jKindOf]) hP hD hS
abbrev rm_c_X2_dueBehindMark : Room := { frames := 0, cells := 0, slots := 0, locals := 0 }
set_option maxHeartbeats 400000 in
set_option maxRecDepth 20000 in
theorem c_X2_dueBehindMark {l : Launch} {D : va_G} {cA : ClassId} {c_ : Int32} {s_ : Int32} : zMi l yX2_dueBehindMark wsX2_dueBehindMark rm_c_X2_dueBehindMark D cA [] [.int c_, .int s_] (fun (r : Int32) (_ : Unit) => r = jDueM c_ s_) (fun (_ : Unit) => []) := by
  refine z_enteri (cc := cX2_dueBehindMark) (maxL := 2) (ty := .int) (by decide) rfl (Nat.le_of_ble_eq_true rfl) (fun p e s m args below meth c ls A H0 H locs Q hi_ hA hK hP hD hS hl hret => ?_)
  obtain ⟨hx, hb, hr, hml, hown, hts, hlocks, hN⟩ := hi_
  have hl : lv_has ls 2 [(0, .int c_), (1, .int s_)] := hl
  refine lv_iload_n hx hb dX2_dueBehindMark_0 rfl (lv_at hl 0 rfl) ?_
  refine lv_bipush (v := 44) hx hb dX2_dueBehindMark_1 (by decide) ?_
  refine lv_icmp_ne (tgt := 13) hx hb dX2_dueBehindMark_3 (by decide) (fun c3_1 => ?_) (fun c3_1 => ?_)
  · skip
    refine lv_iload_n hx hb dX2_dueBehindMark_13 rfl (lv_at hl 0 rfl) ?_
    refine lv_bipush (v := 59) hx hb dX2_dueBehindMark_14 (by decide) ?_
    refine lv_icmp_ne (tgt := 28) hx hb dX2_dueBehindMark_16 (by decide) (fun c16_2 => ?_) (fun c16_2 => ?_)
    · skip
      refine lv_iconst (v := 5) hx hb dX2_dueBehindMark_28 (by decide) ?_
      -- path 1
      exact hret (5) () _ _ _ _ dX2_dueBehindMark_29 (rfl) (by clear hret hl hS hD hP hK hA hN hts hx hb hr hml hown hlocks ; grind [jDueM]) hP hD hS
    · skip
      refine lv_iload_n hx hb dX2_dueBehindMark_19 rfl (lv_at hl 1 rfl) ?_
      refine lv_iconst (v := 2) hx hb dX2_dueBehindMark_20 (by decide) ?_
      refine lv_icmp_lt (tgt := 28) hx hb dX2_dueBehindMark_21 (by decide) (fun c21_3 => ?_) (fun c21_3 => ?_)
      · skip
        refine lv_iconst (v := 5) hx hb dX2_dueBehindMark_28 (by decide) ?_
        -- path 2
        exact hret (5) () _ _ _ _ dX2_dueBehindMark_29 (rfl) (by clear hret hl hS hD hP hK hA hN hts hx hb hr hml hown hlocks ; grind [jDueM]) hP hD hS
      · skip
        refine lv_iconst (v := 3) hx hb dX2_dueBehindMark_24 (by decide) ?_
        refine lv_goto (tgt := 29) hx hb dX2_dueBehindMark_25 (by decide) ?_
        -- path 3
        exact hret (3) () _ _ _ _ dX2_dueBehindMark_29 (rfl) (by clear hret hl hS hD hP hK hA hN hts hx hb hr hml hown hlocks ; grind [jDueM]) hP hD hS
  · skip
    refine lv_iload_n hx hb dX2_dueBehindMark_6 rfl (lv_at hl 1 rfl) ?_
    refine lv_iconst (v := 5) hx hb dX2_dueBehindMark_7 (by decide) ?_
    refine lv_icmp_ge (tgt := 13) hx hb dX2_dueBehindMark_8 (by decide) (fun c8_4 => ?_) (fun c8_4 => ?_)
    · skip
      refine lv_iload_n hx hb dX2_dueBehindMark_13 rfl (lv_at hl 0 rfl) ?_
      refine lv_bipush (v := 59) hx hb dX2_dueBehindMark_14 (by decide) ?_
      refine lv_icmp_ne (tgt := 28) hx hb dX2_dueBehindMark_16 (by decide) (fun c16_5 => ?_) (fun c16_5 => ?_)
      · skip
        refine lv_iconst (v := 5) hx hb dX2_dueBehindMark_28 (by decide) ?_
        -- path 4
        exact hret (5) () _ _ _ _ dX2_dueBehindMark_29 (rfl) (by clear hret hl hS hD hP hK hA hN hts hx hb hr hml hown hlocks ; grind [jDueM]) hP hD hS
      · skip
        refine lv_iload_n hx hb dX2_dueBehindMark_19 rfl (lv_at hl 1 rfl) ?_
        refine lv_iconst (v := 2) hx hb dX2_dueBehindMark_20 (by decide) ?_
        refine lv_icmp_lt (tgt := 28) hx hb dX2_dueBehindMark_21 (by decide) (fun c21_6 => ?_) (fun c21_6 => ?_)
        · skip
          refine lv_iconst (v := 5) hx hb dX2_dueBehindMark_28 (by decide) ?_
          -- path 5
          exact hret (5) () _ _ _ _ dX2_dueBehindMark_29 (rfl) (by clear hret hl hS hD hP hK hA hN hts hx hb hr hml hown hlocks ; grind [jDueM]) hP hD hS
        · skip
          refine lv_iconst (v := 3) hx hb dX2_dueBehindMark_24 (by decide) ?_
          refine lv_goto (tgt := 29) hx hb dX2_dueBehindMark_25 (by decide) ?_
          -- path 6
          exact hret (3) () _ _ _ _ dX2_dueBehindMark_29 (rfl) (by clear hret hl hS hD hP hK hA hN hts hx hb hr hml hown hlocks ; grind [jDueM]) hP hD hS
    · skip
      refine lv_iconst (v := 0) hx hb dX2_dueBehindMark_11 (by decide) ?_
      -- path 7
      exact hret (0) () _ _ _ _ dX2_dueBehindMark_12 (rfl) (by clear hret hl hS hD hP hK hA hN hts hx hb hr hml hown hlocks ; grind [jDueM]) hP hD hS
abbrev rm_c_X2_dueBehind : Room := { frames := 1, cells := 0, slots := 0, locals := 21 }
set_option maxHeartbeats 400000 in
set_option maxRecDepth 20000 in
theorem c_X2_dueBehind {l : Launch} {D : va_G} {cA : ClassId} {d_ : Int32} {c_ : Int32} {s_ : Int32} : zMi l yX2_dueBehind wsX2_dueBehind rm_c_X2_dueBehind D cA [] [.int d_, .int c_, .int s_] (fun (r : Int32) (_ : Unit) => r = jDue d_ c_ s_) (fun (_ : Unit) => []) := by
  refine z_enteri (cc := cX2_dueBehind) (maxL := 3) (ty := .int) (by decide) rfl (Nat.le_of_ble_eq_true rfl) (fun p e s m args below meth c ls A H0 H locs Q hi_ hA hK hP hD hS hl hret => ?_)
  obtain ⟨hx, hb, hr, hml, hown, hts, hlocks, hN⟩ := hi_
  have hl : lv_has ls 3 [(0, .int d_), (1, .int c_), (2, .int s_)] := hl
  refine lv_iload_n hx hb dX2_dueBehind_0 rfl (lv_at hl 0 rfl) ?_
  by_cases c1_1v0 : d_ = 0
  · skip
    refine lv_tableIn (off := 31) (tgt := 32) hx hb dX2_dueBehind_1 (by rw [c1_1v0]; decide) (by rw [c1_1v0]; decide) (by rw [c1_1v0]; rfl) (by decide) ?_
    refine lv_iload_n hx hb dX2_dueBehind_32 rfl (lv_at hl 1 rfl) ?_
    refine z_bri (z_runS (As := [.int c_]) (rest := []) ⟨hx, hb, hml, hown, hts⟩ (c_X2_kindOf (c_ := c_) _) (va_cwS 1 hts gX2_dueBehind_X2_kindOf rfl rfl rfl (by decide +kernel) ⟨Nat.le_of_ble_eq_true rfl, Nat.le_of_ble_eq_true rfl⟩) hK hP hD hN [] rfl rfl rfl hl.1 rfl (Nat.le_of_ble_eq_true rfl) dX2_dueBehind_33 ⟨Nat.zero_le _, Nat.zero_le _⟩) hP hD hS hA [] rfl (fun r3 u4 H locs hw2 hP hS => ?_)
    obtain rfl : r3 = jKindOf c_ := hw2
    refine lv_iconst (v := (-1)) hx hb dX2_dueBehind_36 (by decide) ?_
    refine lv_icmp_eq (tgt := 44) hx hb dX2_dueBehind_37 (by decide) (fun c37_5 => ?_) (fun c37_5 => ?_)
    · skip
      refine lv_iconst (v := 5) hx hb dX2_dueBehind_44 (by decide) ?_
      -- path 1
      exact hret (5) () _ _ _ _ dX2_dueBehind_45 (rfl) (by clear hret hl hS hD hP hK hA hN hts hx hb hr hml hown hlocks ; grind [jDue]) hP hD hS
    · skip
      refine lv_iconst (v := 1) hx hb dX2_dueBehind_40 (by decide) ?_
      refine lv_goto (tgt := 45) hx hb dX2_dueBehind_41 (by decide) ?_
      -- path 2
      exact hret (1) () _ _ _ _ dX2_dueBehind_45 (rfl) (by clear hret hl hS hD hP hK hA hN hts hx hb hr hml hown hlocks ; grind [jDue]) hP hD hS
  by_cases c1_1v1 : d_ = 1
  · skip
    refine lv_tableIn (off := 45) (tgt := 46) hx hb dX2_dueBehind_1 (by rw [c1_1v1]; decide) (by rw [c1_1v1]; decide) (by rw [c1_1v1]; rfl) (by decide) ?_
    refine lv_iload_n hx hb dX2_dueBehind_46 rfl (lv_at hl 1 rfl) ?_
    refine lv_bipush (v := 48) hx hb dX2_dueBehind_47 (by decide) ?_
    refine lv_icmp_eq (tgt := 58) hx hb dX2_dueBehind_49 (by decide) (fun c49_6 => ?_) (fun c49_6 => ?_)
    · skip
      refine lv_iconst (v := 2) hx hb dX2_dueBehind_58 (by decide) ?_
      refine lv_goto (tgt := 63) hx hb dX2_dueBehind_59 (by decide) ?_
      -- path 3
      exact hret (2) () _ _ _ _ dX2_dueBehind_63 (rfl) (by clear hret hl hS hD hP hK hA hN hts hx hb hr hml hown hlocks ; grind [jDue]) hP hD hS
    · skip
      refine lv_iload_n hx hb dX2_dueBehind_52 rfl (lv_at hl 1 rfl) ?_
      refine lv_bipush (v := 49) hx hb dX2_dueBehind_53 (by decide) ?_
      refine lv_icmp_ne (tgt := 62) hx hb dX2_dueBehind_55 (by decide) (fun c55_7 => ?_) (fun c55_7 => ?_)
      · skip
        refine lv_iconst (v := 5) hx hb dX2_dueBehind_62 (by decide) ?_
        -- path 4
        exact hret (5) () _ _ _ _ dX2_dueBehind_63 (rfl) (by clear hret hl hS hD hP hK hA hN hts hx hb hr hml hown hlocks ; grind [jDue]) hP hD hS
      · skip
        refine lv_iconst (v := 2) hx hb dX2_dueBehind_58 (by decide) ?_
        refine lv_goto (tgt := 63) hx hb dX2_dueBehind_59 (by decide) ?_
        -- path 5
        exact hret (2) () _ _ _ _ dX2_dueBehind_63 (rfl) (by clear hret hl hS hD hP hK hA hN hts hx hb hr hml hown hlocks ; grind [jDue]) hP hD hS
  by_cases c1_1v2 : d_ = 2
  · skip
    refine lv_tableIn (off := 63) (tgt := 64) hx hb dX2_dueBehind_1 (by rw [c1_1v2]; decide) (by rw [c1_1v2]; decide) (by rw [c1_1v2]; rfl) (by decide) ?_
    refine lv_iload_n hx hb dX2_dueBehind_64 rfl (lv_at hl 1 rfl) ?_
    refine lv_iload_n hx hb dX2_dueBehind_65 rfl (lv_at hl 2 rfl) ?_
    refine z_bri (z_runS (As := [.int c_, .int s_]) (rest := []) ⟨hx, hb, hml, hown, hts⟩ (c_X2_dueBehindMark (c_ := c_) (s_ := s_) _) (va_cwS 2 hts gX2_dueBehind_X2_dueBehindMark rfl rfl rfl (by decide +kernel) ⟨Nat.le_of_ble_eq_true rfl, Nat.le_of_ble_eq_true rfl⟩) hK hP hD hN [] rfl rfl rfl hl.1 rfl (Nat.le_of_ble_eq_true rfl) dX2_dueBehind_66 ⟨Nat.zero_le _, Nat.zero_le _⟩) hP hD hS hA [] rfl (fun r9 u10 H locs hw8 hP hS => ?_)
    obtain rfl : r9 = jDueM c_ s_ := hw8
    -- path 6
    exact hret (jDueM c_ s_) () _ _ _ _ dX2_dueBehind_69 (rfl) (by clear hret hl hS hD hP hK hA hN hts hx hb hr hml hown hlocks ; grind [jDue]) hP hD hS
  by_cases c1_1v3 : d_ = 3
  · skip
    refine lv_tableIn (off := 69) (tgt := 70) hx hb dX2_dueBehind_1 (by rw [c1_1v3]; decide) (by rw [c1_1v3]; decide) (by rw [c1_1v3]; rfl) (by decide) ?_
    refine lv_iload_n hx hb dX2_dueBehind_70 rfl (lv_at hl 1 rfl) ?_
    refine lv_bipush (v := 49) hx hb dX2_dueBehind_71 (by decide) ?_
    refine lv_icmp_lt (tgt := 86) hx hb dX2_dueBehind_73 (by decide) (fun c73_11 => ?_) (fun c73_11 => ?_)
    · skip
      refine lv_iconst (v := 5) hx hb dX2_dueBehind_86 (by decide) ?_
      -- path 7
      exact hret (5) () _ _ _ _ dX2_dueBehind_87 (rfl) (by clear hret hl hS hD hP hK hA hN hts hx hb hr hml hown hlocks ; grind [jDue]) hP hD hS
    · skip
      refine lv_iload_n hx hb dX2_dueBehind_76 rfl (lv_at hl 1 rfl) ?_
      refine lv_bipush (v := 57) hx hb dX2_dueBehind_77 (by decide) ?_
      refine lv_icmp_gt (tgt := 86) hx hb dX2_dueBehind_79 (by decide) (fun c79_12 => ?_) (fun c79_12 => ?_)
      · skip
        refine lv_iconst (v := 5) hx hb dX2_dueBehind_86 (by decide) ?_
        -- path 8
        exact hret (5) () _ _ _ _ dX2_dueBehind_87 (rfl) (by clear hret hl hS hD hP hK hA hN hts hx hb hr hml hown hlocks ; grind [jDue]) hP hD hS
      · skip
        refine lv_iconst (v := 4) hx hb dX2_dueBehind_82 (by decide) ?_
        refine lv_goto (tgt := 87) hx hb dX2_dueBehind_83 (by decide) ?_
        -- path 9
        exact hret (4) () _ _ _ _ dX2_dueBehind_87 (rfl) (by clear hret hl hS hD hP hK hA hN hts hx hb hr hml hown hlocks ; grind [jDue]) hP hD hS
  refine lv_tableOut (tgt := 88) hx hb dX2_dueBehind_1 (z_out0_3 c1_1v0 c1_1v1 c1_1v2 c1_1v3) (by decide) ?_
  refine lv_iconst (v := 5) hx hb dX2_dueBehind_88 (by decide) ?_
  -- path 10
  exact hret (5) () _ _ _ _ dX2_dueBehind_89 (rfl) (by clear hret hl hS hD hP hK hA hN hts hx hb hr hml hown hlocks ; grind [jDue]) hP hD hS
abbrev rm_c_X2_firstFault : Room := { frames := 2, cells := 0, slots := 0, locals := 43 }
set_option maxHeartbeats 400000 in
set_option maxRecDepth 20000 in
theorem c_X2_firstFault {l : Launch} {D : va_G} {cA : ClassId} {h0 : Nat} {q : Nat} {n : Nat} {f : Nat → Int32} (hn : n ≤ 18) : zMi l yX2_firstFault wsX2_firstFault rm_c_X2_firstFault D cA [(h0, .inr (2, [.ref q, .int (nI n)])), (q, .inl (cA, 18, .inl f))] [.ref h0] (fun (r : Int32) (_ : Unit) => r = nI (jFF f n 0 0 0)) (fun (_ : Unit) => [(h0, .inr (2, [.ref q, .int (nI n)])), (q, .inl (cA, 18, .inl f))]) := by
  refine z_enteri (cc := cX2_firstFault) (maxL := 5) (ty := .int) (by decide) rfl (Nat.le_of_ble_eq_true rfl) (fun p e s m args below meth c ls A H0 H locs Q hi_ hA hK hP hD hS hl hret => ?_)
  obtain ⟨hx, hb, hr, hml, hown, hts, hlocks, hN⟩ := hi_
  have hl : lv_has ls 5 [(0, .ref h0)] := hl
  have hiX2 : ∀ w ∈ wsX20, w ∈ wsX2_firstFault := by decide +kernel
  refine lv_iconst (v := 0) hx hb dX2_firstFault_0 (by decide) ?_
  refine lv_istore_n (lv' := [(1, .int 0), (0, .ref h0)]) hx hb dX2_firstFault_1 rfl hl (by decide) rfl (fun ls hl => ?_)
  refine lv_iconst (v := 0) hx hb dX2_firstFault_2 (by decide) ?_
  refine lv_istore_n (lv' := [(2, .int 0), (1, .int 0), (0, .ref h0)]) hx hb dX2_firstFault_3 rfl hl (by decide) rfl (fun ls hl => ?_)
  refine lv_iconst (v := nI 0) hx hb dX2_firstFault_4 (by decide) ?_
  refine lv_istore_n (lv' := [(3, .int (nI 0)), (2, .int 0), (1, .int 0), (0, .ref h0)]) hx hb dX2_firstFault_5 rfl hl (by decide) rfl (fun ls hl => ?_)
  have L6 : ∀ (n_ : Nat) (i : Nat) (d : Int32) (s_ : Int32) (hm_ : n + 1 ≤ i + n_) (hi : i ≤ n) (hg : jFF f n 0 0 0 = jFF f (n - i) i d s_) (H : Heap) (locs : List Loc) (ls : Array Slot), va_P D vwCl [(h0, .inr (2, [.ref q, .int (nI n)])), (q, .inl (cA, 18, .inl f))] H → va_D A [(h0, .inr (2, [.ref q, .int (nI n)])), (q, .inl (cA, 18, .inl f))] → va_S A H0 H locs → lv_has ls 5 [(0, .ref h0), (1, .int d), (2, .int s_), (3, .int (nI i))] → W p l e rm_c_X2_firstFault s m args below meth c H locs 0 0 Q (F0 m 6 ls []) := by
    intro n_
    induction n_ with
    | zero =>
      intro i d s_ hm_ hi hg
      exact absurd hm_ (by omega)
    | succ n_ ih_ =>
      intro i d s_ hm_ hi hg H locs ls hP hD hS hl
      have ih1 := ih_
      clear ih_
      refine lv_iload_n hx hb dX2_firstFault_6 rfl (lv_at hl 3 rfl) ?_
      refine lv_aload_n hx hb dX2_firstFault_7 rfl (lv_at hl 0 rfl) ?_
      refine va_get (D := D) (ci := 2) (v := .int (nI n)) (C := RX2) (T := TX2) (N := 2) hx hb hts hiX2 hown hK hP 0 rfl rfl 1 (by decide) (hts (.fieldLink RX2 15 "HeardSecond$Page" "length" "I") (by decide +kernel)) (fun _ h9 => h9) rfl dX2_firstFault_8 ?_
      refine lv_icmp_ge (tgt := 49) hx hb dX2_firstFault_11 (by decide) (fun c11_2 => ?_) (fun c11_2 => ?_)
      · skip
        have ht_ := (nI_leI (by omega) (by omega)).mp c11_2
        refine lv_aload_n hx hb dX2_firstFault_49 rfl (lv_at hl 0 rfl) ?_
        refine va_get (D := D) (ci := 2) (v := .int (nI n)) (C := RX2) (T := TX2) (N := 2) hx hb hts hiX2 hown hK hP 0 rfl rfl 1 (by decide) (hts (.fieldLink RX2 15 "HeardSecond$Page" "length" "I") (by decide +kernel)) (fun _ h9 => h9) rfl dX2_firstFault_50 ?_
        -- path 1
        exact hret (nI n) () _ _ _ _ dX2_firstFault_53 (rfl) (by clear hret hl hS hD hP hK hA hN hts hx hb hr hml hown hlocks hiX2 ih1; first | (rw [hg, show n - i = (n - (i + 1)) + 1 from by omega]; simp_all [jFF]; done) | (rw [hg, show n - i = 0 from by omega]; simp only [jFF]; congr 1; omega)) hP hD hS
      · skip
        have hlt : i < n := Nat.lt_of_not_le (fun q_ => c11_2 ((nI_leI (by omega) (by omega)).mpr q_))
        refine lv_aload_n hx hb dX2_firstFault_14 rfl (lv_at hl 0 rfl) ?_
        refine lv_iload_n hx hb dX2_firstFault_15 rfl (lv_at hl 3 rfl) ?_
        refine z_bri (z_runV (As := [.int (nI i)]) (rest := []) (ci := 2) ⟨hx, hb, hml, hown, hts⟩ (c_X2_codeAt (h0 := h0) (q := q) (n := n) (f := f) (x := nI i) (by first | assumption | omega) _) (cwV 1 hts gX2_firstFault_X2_codeAt rfl rfl rfl (by decide +kernel) ⟨Nat.le_of_ble_eq_true rfl, Nat.le_of_ble_eq_true rfl⟩) hK hP hD hN [0, 1] rfl rfl rfl rfl rfl hl.1 rfl (Nat.le_of_ble_eq_true rfl) dX2_firstFault_16 ⟨Nat.zero_le _, Nat.zero_le _⟩) hP hD hS hA [0, 1] rfl (fun r4 u5 H locs hw3 hP hS => ?_)
        obtain rfl : r4 = jCode n f (nI i) := hw3
        refine z_top (y := f i) (jCode_nI hlt (by omega)) ?_
        refine lv_istore (lv' := [(4, .int (f i)), (0, .ref h0), (1, .int d), (2, .int s_), (3, .int (nI i))]) hx hb dX2_firstFault_19 hl (by decide) rfl (fun ls hl => ?_)
        refine lv_iload_n hx hb dX2_firstFault_21 rfl (lv_at hl 2 rfl) ?_
        refine lv_if_ne (tgt := 28) hx hb dX2_firstFault_22 (by decide) (fun c22_6 => ?_) (fun c22_6 => ?_)
        · skip
          refine lv_iload_n hx hb dX2_firstFault_28 rfl (lv_at hl 2 rfl) ?_
          refine lv_iload hx hb dX2_firstFault_29 (lv_at hl 0 rfl) ?_
          refine lv_iload_n hx hb dX2_firstFault_31 rfl (lv_at hl 3 rfl) ?_
          refine z_bri (z_runS (As := [.int d, .int (f i), .int s_]) (rest := []) ⟨hx, hb, hml, hown, hts⟩ (c_X2_dueBehind (d_ := d) (c_ := f i) (s_ := s_) _) (va_cwS 3 hts gX2_firstFault_X2_dueBehind rfl rfl rfl (by decide +kernel) ⟨Nat.le_of_ble_eq_true rfl, Nat.le_of_ble_eq_true rfl⟩) hK hP hD hN [] rfl rfl rfl hl.1 rfl (Nat.le_of_ble_eq_true rfl) dX2_firstFault_32 ⟨Nat.zero_le _, Nat.zero_le _⟩) hP hD hS hA [] rfl (fun r8 u9 H locs hw7 hP hS => ?_)
          obtain rfl : r8 = jDue d (f i) s_ := hw7
          refine lv_istore_n (lv' := [(1, .int (jDue d (f i) s_)), (4, .int (f i)), (0, .ref h0), (2, .int s_), (3, .int (nI i))]) hx hb dX2_firstFault_35 rfl hl (by decide) rfl (fun ls hl => ?_)
          refine lv_iload_n hx hb dX2_firstFault_36 rfl (lv_at hl 0 rfl) ?_
          refine lv_iconst (v := 5) hx hb dX2_firstFault_37 (by decide) ?_
          refine lv_icmp_ne (tgt := 43) hx hb dX2_firstFault_38 (by decide) (fun c38_10 => ?_) (fun c38_10 => ?_)
          · skip
            refine lv_iinc (v := nI (i + 1)) (lv' := [(3, .int (nI (i + 1))), (1, .int (jDue d (f i) s_)), (4, .int (f i)), (0, .ref h0), (2, .int s_)]) hx hb dX2_firstFault_43 hl (k := 4) rfl (nI_1 i) (by decide) rfl (fun ls hl => ?_)
            refine lv_goto (tgt := 6) hx hb dX2_firstFault_46 (by decide) ?_
            exact ih1 (i + 1) (jDue d (f i) s_) s_ (by omega) (by first | assumption | omega) (by clear hret hl hS hD hP hK hA hN hts hx hb hr hml hown hlocks hiX2 ih1; rw [hg, show n - i = (n - (i + 1)) + 1 from by omega]; simp only [jFF]; simp_all) _ _ _ hP hD hS (lv_sub hl [3, 1, 4, 0] rfl)
          · skip
            refine lv_iload_n hx hb dX2_firstFault_41 rfl (lv_at hl 4 rfl) ?_
            -- path 2
            exact hret (nI i) () _ _ _ _ dX2_firstFault_42 (rfl) (by clear hret hl hS hD hP hK hA hN hts hx hb hr hml hown hlocks hiX2 ih1; first | (rw [hg, show n - i = (n - (i + 1)) + 1 from by omega]; simp_all [jFF]; done) | (rw [hg, show n - i = 0 from by omega]; simp only [jFF]; congr 1; omega)) hP hD hS
        · skip
          refine lv_iinc (v := s_ + 1) (lv' := [(2, .int (s_ + 1)), (4, .int (f i)), (0, .ref h0), (1, .int d), (3, .int (nI i))]) hx hb dX2_firstFault_25 hl (k := 3) rfl (rfl) (by decide) rfl (fun ls hl => ?_)
          refine lv_iload_n hx hb dX2_firstFault_28 rfl (lv_at hl 3 rfl) ?_
          refine lv_iload hx hb dX2_firstFault_29 (lv_at hl 1 rfl) ?_
          refine lv_iload_n hx hb dX2_firstFault_31 rfl (lv_at hl 0 rfl) ?_
          refine z_bri (z_runS (As := [.int d, .int (f i), .int (s_ + 1)]) (rest := []) ⟨hx, hb, hml, hown, hts⟩ (c_X2_dueBehind (d_ := d) (c_ := f i) (s_ := s_ + 1) _) (va_cwS 3 hts gX2_firstFault_X2_dueBehind rfl rfl rfl (by decide +kernel) ⟨Nat.le_of_ble_eq_true rfl, Nat.le_of_ble_eq_true rfl⟩) hK hP hD hN [] rfl rfl rfl hl.1 rfl (Nat.le_of_ble_eq_true rfl) dX2_firstFault_32 ⟨Nat.zero_le _, Nat.zero_le _⟩) hP hD hS hA [] rfl (fun r12 u13 H locs hw11 hP hS => ?_)
          obtain rfl : r12 = jDue d (f i) (s_ + 1) := hw11
          refine lv_istore_n (lv' := [(1, .int (jDue d (f i) (s_ + 1))), (2, .int (s_ + 1)), (4, .int (f i)), (0, .ref h0), (3, .int (nI i))]) hx hb dX2_firstFault_35 rfl hl (by decide) rfl (fun ls hl => ?_)
          refine lv_iload_n hx hb dX2_firstFault_36 rfl (lv_at hl 0 rfl) ?_
          refine lv_iconst (v := 5) hx hb dX2_firstFault_37 (by decide) ?_
          refine lv_icmp_ne (tgt := 43) hx hb dX2_firstFault_38 (by decide) (fun c38_14 => ?_) (fun c38_14 => ?_)
          · skip
            refine lv_iinc (v := nI (i + 1)) (lv' := [(3, .int (nI (i + 1))), (1, .int (jDue d (f i) (s_ + 1))), (2, .int (s_ + 1)), (4, .int (f i)), (0, .ref h0)]) hx hb dX2_firstFault_43 hl (k := 4) rfl (nI_1 i) (by decide) rfl (fun ls hl => ?_)
            refine lv_goto (tgt := 6) hx hb dX2_firstFault_46 (by decide) ?_
            exact ih1 (i + 1) (jDue d (f i) (s_ + 1)) (s_ + 1) (by omega) (by first | assumption | omega) (by clear hret hl hS hD hP hK hA hN hts hx hb hr hml hown hlocks hiX2 ih1; rw [hg, show n - i = (n - (i + 1)) + 1 from by omega]; simp only [jFF]; simp_all) _ _ _ hP hD hS (lv_sub hl [4, 1, 2, 0] rfl)
          · skip
            refine lv_iload_n hx hb dX2_firstFault_41 rfl (lv_at hl 4 rfl) ?_
            -- path 3
            exact hret (nI i) () _ _ _ _ dX2_firstFault_42 (rfl) (by clear hret hl hS hD hP hK hA hN hts hx hb hr hml hown hlocks hiX2 ih1; first | (rw [hg, show n - i = (n - (i + 1)) + 1 from by omega]; simp_all [jFF]; done) | (rw [hg, show n - i = 0 from by omega]; simp only [jFF]; congr 1; omega)) hP hD hS
  exact L6 (n + 1) 0 0 0 (by omega) (by first | assumption | omega) (by rfl) _ _ _ hP hD hS (lv_sub hl [3, 2, 1, 0] rfl)
abbrev rm_c_X2_isWhole : Room := { frames := 3, cells := 0, slots := 0, locals := 67 }
set_option maxHeartbeats 400000 in
set_option maxRecDepth 20000 in
theorem c_X2_isWhole {l : Launch} {D : va_G} {cA : ClassId} {h0 : Nat} {q : Nat} {n : Nat} {f : Nat → Int32} (hn : n ≤ 18) : zMi l yX2_isWhole wsX2_isWhole rm_c_X2_isWhole D cA [(h0, .inr (2, [.ref q, .int (nI n)])), (q, .inl (cA, 18, .inl f))] [.ref h0] (fun (r : Int32) (_ : Unit) => r = bI (jWhole n f)) (fun (_ : Unit) => [(h0, .inr (2, [.ref q, .int (nI n)])), (q, .inl (cA, 18, .inl f))]) := by
  refine z_enteri (cc := cX2_isWhole) (maxL := 1) (ty := .boolean) (by decide) rfl (Nat.le_of_ble_eq_true rfl) (fun p e s m args below meth c ls A H0 H locs Q hi_ hA hK hP hD hS hl hret => ?_)
  obtain ⟨hx, hb, hr, hml, hown, hts, hlocks, hN⟩ := hi_
  have hl : lv_has ls 1 [(0, .ref h0)] := hl
  have hiX2 : ∀ w ∈ wsX20, w ∈ wsX2_isWhole := by decide +kernel
  refine lv_aload_n hx hb dX2_isWhole_0 rfl (lv_at hl 0 rfl) ?_
  refine va_get (D := D) (ci := 2) (v := .int (nI n)) (C := RX2) (T := TX2) (N := 2) hx hb hts hiX2 hown hK hP 0 rfl rfl 1 (by decide) (hts (.fieldLink RX2 15 "HeardSecond$Page" "length" "I") (by decide +kernel)) (fun _ h9 => h9) rfl dX2_isWhole_1 ?_
  refine lv_iconst (v := 2) hx hb dX2_isWhole_4 (by decide) ?_
  refine lv_icmp_lt (tgt := 38) hx hb dX2_isWhole_5 (by decide) (fun c5_1 => ?_) (fun c5_1 => ?_)
  · skip
    have ht_ := (nI_ltI (b := 2) (by omega) (by omega)).mp c5_1
    refine lv_iconst (v := 0) hx hb dX2_isWhole_38 (by decide) ?_
    -- path 1
    exact hret (0) () _ _ _ _ dX2_isWhole_39 (rfl) (by clear hret hl hS hD hP hK hA hN hts hx hb hr hml hown hlocks hiX2; first | (grind [jWhole, bI]) | (have h_ : ¬ 2 ≤ n := by omega; simp_all [jWhole, bI]; done)) hP hD hS
  · skip
    have hlt : 2 ≤ n := Nat.le_of_not_lt (fun q_ => c5_1 ((nI_ltI (b := 2) (by omega) (by omega)).mpr q_))
    refine lv_aload_n hx hb dX2_isWhole_8 rfl (lv_at hl 0 rfl) ?_
    refine lv_aload_n hx hb dX2_isWhole_9 rfl (lv_at hl 0 rfl) ?_
    refine va_get (D := D) (ci := 2) (v := .int (nI n)) (C := RX2) (T := TX2) (N := 2) hx hb hts hiX2 hown hK hP 0 rfl rfl 1 (by decide) (hts (.fieldLink RX2 15 "HeardSecond$Page" "length" "I") (by decide +kernel)) (fun _ h9 => h9) rfl dX2_isWhole_10 ?_
    refine lv_iconst (v := 2) hx hb dX2_isWhole_13 (by decide) ?_
    refine lv_isub hx hb dX2_isWhole_14 ?_
    refine z_top (y := nI (n - 2)) (z_sub (b := 2) hlt) ?_
    refine z_bri (z_runV (As := [.int (nI (n - 2))]) (rest := []) (ci := 2) ⟨hx, hb, hml, hown, hts⟩ (c_X2_codeAt (h0 := h0) (q := q) (n := n) (f := f) (x := nI (n - 2)) (by first | assumption | omega) _) (cwV 1 hts gX2_isWhole_X2_codeAt rfl rfl rfl (by decide +kernel) ⟨Nat.le_of_ble_eq_true rfl, Nat.le_of_ble_eq_true rfl⟩) hK hP hD hN [0, 1] rfl rfl rfl rfl rfl hl.1 rfl (Nat.le_of_ble_eq_true rfl) dX2_isWhole_15 ⟨Nat.zero_le _, Nat.zero_le _⟩) hP hD hS hA [0, 1] rfl (fun r3 u4 H locs hw2 hP hS => ?_)
    obtain rfl : r3 = jCode n f (nI (n - 2)) := hw2
    refine z_top (y := f (n - 2)) (jCode_nI (by omega) (by omega)) ?_
    refine lv_bipush (v := 59) hx hb dX2_isWhole_18 (by decide) ?_
    refine lv_icmp_ne (tgt := 38) hx hb dX2_isWhole_20 (by decide) (fun c20_5 => ?_) (fun c20_5 => ?_)
    · skip
      refine lv_iconst (v := 0) hx hb dX2_isWhole_38 (by decide) ?_
      -- path 2
      exact hret (0) () _ _ _ _ dX2_isWhole_39 (rfl) (by clear hret hl hS hD hP hK hA hN hts hx hb hr hml hown hlocks hiX2; first | (grind [jWhole, bI]) | (have h_ : ¬ 2 ≤ n := by omega; simp_all [jWhole, bI]; done)) hP hD hS
    · skip
      refine lv_aload_n hx hb dX2_isWhole_23 rfl (lv_at hl 0 rfl) ?_
      refine z_bri (z_runV (As := []) (rest := []) (ci := 2) ⟨hx, hb, hml, hown, hts⟩ (c_X2_firstFault (h0 := h0) (q := q) (n := n) (f := f) (by first | assumption | omega) _) (cwV 0 hts gX2_isWhole_X2_firstFault rfl rfl rfl (by decide +kernel) ⟨Nat.le_of_ble_eq_true rfl, Nat.le_of_ble_eq_true rfl⟩) hK hP hD hN [0, 1] rfl rfl rfl rfl rfl hl.1 rfl (Nat.le_of_ble_eq_true rfl) dX2_isWhole_24 ⟨Nat.zero_le _, Nat.zero_le _⟩) hP hD hS hA [0, 1] rfl (fun r7 u8 H locs hw6 hP hS => ?_)
      obtain rfl : r7 = nI (jFF f n 0 0 0) := hw6
      refine lv_aload_n hx hb dX2_isWhole_27 rfl (lv_at hl 0 rfl) ?_
      refine va_get (D := D) (ci := 2) (v := .int (nI n)) (C := RX2) (T := TX2) (N := 2) hx hb hts hiX2 hown hK hP 0 rfl rfl 1 (by decide) (hts (.fieldLink RX2 15 "HeardSecond$Page" "length" "I") (by decide +kernel)) (fun _ h9 => h9) rfl dX2_isWhole_28 ?_
      refine lv_icmp_ne (tgt := 38) hx hb dX2_isWhole_31 (by decide) (fun c31_9 => ?_) (fun c31_9 => ?_)
      · skip
        have hne_ : jFF f n 0 0 0 ≠ n := fun q_ => c31_9 (by rw [q_])
        refine lv_iconst (v := 0) hx hb dX2_isWhole_38 (by decide) ?_
        -- path 3
        exact hret (0) () _ _ _ _ dX2_isWhole_39 (rfl) (by clear hret hl hS hD hP hK hA hN hts hx hb hr hml hown hlocks hiX2; first | (grind [jWhole, bI]) | (have h_ : ¬ 2 ≤ n := by omega; simp_all [jWhole, bI]; done)) hP hD hS
      · skip
        have heq_ : jFF f n 0 0 0 = n := (nI_eq (by have := jFF_le f n 0 0 0; omega) (by omega)).mp c31_9
        refine lv_iconst (v := 1) hx hb dX2_isWhole_34 (by decide) ?_
        refine lv_goto (tgt := 39) hx hb dX2_isWhole_35 (by decide) ?_
        -- path 4
        exact hret (1) () _ _ _ _ dX2_isWhole_39 (rfl) (by clear hret hl hS hD hP hK hA hN hts hx hb hr hml hown hlocks hiX2; first | (grind [jWhole, bI]) | (have h_ : ¬ 2 ≤ n := by omega; simp_all [jWhole, bI]; done)) hP hD hS
abbrev rm_c_X0_isSet : Room := { frames := 0, cells := 0, slots := 0, locals := 0 }
set_option maxHeartbeats 400000 in
set_option maxRecDepth 20000 in
theorem c_X0_isSet {l : Launch} {D : va_G} {cA : ClassId} {b0 : Nat} {qk : Nat} {qs : Nat} {N : Nat} {pt : Int32} (h5 : N ≤ 5) : zMi l yX0_isSet wsX0_isSet rm_c_X0_isSet D cA [(b0, .inr (0, [.ref qk, .ref qs, .int (nI N), .int pt]))] [.ref b0] (fun (r : Int32) (_ : Unit) => r = bI (decide (0 < N))) (fun (_ : Unit) => [(b0, .inr (0, [.ref qk, .ref qs, .int (nI N), .int pt]))]) := by
  refine z_enteri (cc := cX0_isSet) (maxL := 1) (ty := .boolean) (by decide) rfl (Nat.le_of_ble_eq_true rfl) (fun p e s m args below meth c ls A H0 H locs Q hi_ hA hK hP hD hS hl hret => ?_)
  obtain ⟨hx, hb, hr, hml, hown, hts, hlocks, hN⟩ := hi_
  have hl : lv_has ls 1 [(0, .ref b0)] := hl
  have hiX0 : ∀ w ∈ wsX00, w ∈ wsX0_isSet := by decide +kernel
  refine lv_aload_n hx hb dX0_isSet_0 rfl (lv_at hl 0 rfl) ?_
  refine va_get (D := D) (ci := 0) (v := .int (nI N)) (C := RX0) (T := TX0) (N := 4) hx hb hts hiX0 hown hK hP 0 rfl rfl 2 (by decide) (hts (.fieldLink RX0 30 "HeardSecond$Bench" "seats" "I") (by decide +kernel)) (fun _ h9 => h9) rfl dX0_isSet_1 ?_
  refine lv_if_le (tgt := 11) hx hb dX0_isSet_4 (by decide) (fun c4_1 => ?_) (fun c4_1 => ?_)
  · skip
    have hz_ : ¬ 0 < N := fun q_ => absurd ((nI_leI (b := 0) (by omega) (by omega)).mp c4_1) (by omega)
    refine lv_iconst (v := 0) hx hb dX0_isSet_11 (by decide) ?_
    -- path 1
    exact hret (0) () _ _ _ _ dX0_isSet_12 (rfl) (by clear hret hl hS hD hP hK hA hN hts hx hb hr hml hown hlocks hiX0; grind [bI]) hP hD hS
  · skip
    have hz_ : 0 < N := Nat.lt_of_not_le (fun q_ => c4_1 ((nI_leI (b := 0) (by omega) (by omega)).mpr q_))
    refine lv_iconst (v := 1) hx hb dX0_isSet_7 (by decide) ?_
    refine lv_goto (tgt := 12) hx hb dX0_isSet_8 (by decide) ?_
    -- path 2
    exact hret (1) () _ _ _ _ dX0_isSet_12 (rfl) (by clear hret hl hS hD hP hK hA hN hts hx hb hr hml hown hlocks hiX0; grind [bI]) hP hD hS
abbrev rm_c_X0_has : Room := { frames := 0, cells := 0, slots := 0, locals := 0 }
set_option maxHeartbeats 400000 in
set_option maxRecDepth 20000 in
theorem c_X0_has {l : Launch} {D : va_G} {cA : ClassId} {b0 : Nat} {qk : Nat} {qs : Nat} {N : Nat} {pt : Int32} {x : Int32} : zMi l yX0_has wsX0_has rm_c_X0_has D cA [(b0, .inr (0, [.ref qk, .ref qs, .int (nI N), .int pt]))] [.ref b0, .int x] (fun (r : Int32) (_ : Unit) => r = bI (jHas N x)) (fun (_ : Unit) => [(b0, .inr (0, [.ref qk, .ref qs, .int (nI N), .int pt]))]) := by
  refine z_enteri (cc := cX0_has) (maxL := 2) (ty := .boolean) (by decide) rfl (Nat.le_of_ble_eq_true rfl) (fun p e s m args below meth c ls A H0 H locs Q hi_ hA hK hP hD hS hl hret => ?_)
  obtain ⟨hx, hb, hr, hml, hown, hts, hlocks, hN⟩ := hi_
  have hl : lv_has ls 2 [(0, .ref b0), (1, .int x)] := hl
  have hiX0 : ∀ w ∈ wsX00, w ∈ wsX0_has := by decide +kernel
  refine lv_iload_n hx hb dX0_has_0 rfl (lv_at hl 1 rfl) ?_
  refine lv_if_lt (tgt := 16) hx hb dX0_has_1 (by decide) (fun c1_1 => ?_) (fun c1_1 => ?_)
  · skip
    refine lv_iconst (v := 0) hx hb dX0_has_16 (by decide) ?_
    -- path 1
    exact hret (0) () _ _ _ _ dX0_has_17 (rfl) (by clear hret hl hS hD hP hK hA hN hts hx hb hr hml hown hlocks hiX0; grind [jHas, bI]) hP hD hS
  · skip
    refine lv_iload_n hx hb dX0_has_4 rfl (lv_at hl 1 rfl) ?_
    refine lv_aload_n hx hb dX0_has_5 rfl (lv_at hl 0 rfl) ?_
    refine va_get (D := D) (ci := 0) (v := .int (nI N)) (C := RX0) (T := TX0) (N := 4) hx hb hts hiX0 hown hK hP 0 rfl rfl 2 (by decide) (hts (.fieldLink RX0 30 "HeardSecond$Bench" "seats" "I") (by decide +kernel)) (fun _ h9 => h9) rfl dX0_has_6 ?_
    refine lv_icmp_ge (tgt := 16) hx hb dX0_has_9 (by decide) (fun c9_2 => ?_) (fun c9_2 => ?_)
    · skip
      refine lv_iconst (v := 0) hx hb dX0_has_16 (by decide) ?_
      -- path 2
      exact hret (0) () _ _ _ _ dX0_has_17 (rfl) (by clear hret hl hS hD hP hK hA hN hts hx hb hr hml hown hlocks hiX0; grind [jHas, bI]) hP hD hS
    · skip
      refine lv_iconst (v := 1) hx hb dX0_has_12 (by decide) ?_
      refine lv_goto (tgt := 17) hx hb dX0_has_13 (by decide) ?_
      -- path 3
      exact hret (1) () _ _ _ _ dX0_has_17 (rfl) (by clear hret hl hS hD hP hK hA hN hts hx hb hr hml hown hlocks hiX0; grind [jHas, bI]) hP hD hS
abbrev rm_c_X0_namesOnlySeats : Room := { frames := 0, cells := 0, slots := 0, locals := 0 }
set_option maxHeartbeats 400000 in
set_option maxRecDepth 20000 in
theorem c_X0_namesOnlySeats {l : Launch} {D : va_G} {cA : ClassId} {b0 : Nat} {qk : Nat} {qs : Nat} {N : Nat} {pt : Int32} {x : Int32} : zMi l yX0_namesOnlySeats wsX0_namesOnlySeats rm_c_X0_namesOnlySeats D cA [(b0, .inr (0, [.ref qk, .ref qs, .int (nI N), .int pt]))] [.ref b0, .int x] (fun (r : Int32) (_ : Unit) => r = bI (jNames N x)) (fun (_ : Unit) => [(b0, .inr (0, [.ref qk, .ref qs, .int (nI N), .int pt]))]) := by
  refine z_enteri (cc := cX0_namesOnlySeats) (maxL := 2) (ty := .boolean) (by decide) rfl (Nat.le_of_ble_eq_true rfl) (fun p e s m args below meth c ls A H0 H locs Q hi_ hA hK hP hD hS hl hret => ?_)
  obtain ⟨hx, hb, hr, hml, hown, hts, hlocks, hN⟩ := hi_
  have hl : lv_has ls 2 [(0, .ref b0), (1, .int x)] := hl
  have hiX0 : ∀ w ∈ wsX00, w ∈ wsX0_namesOnlySeats := by decide +kernel
  refine lv_iload_n hx hb dX0_namesOnlySeats_0 rfl (lv_at hl 1 rfl) ?_
  refine lv_if_lt (tgt := 18) hx hb dX0_namesOnlySeats_1 (by decide) (fun c1_1 => ?_) (fun c1_1 => ?_)
  · skip
    refine lv_iconst (v := 0) hx hb dX0_namesOnlySeats_18 (by decide) ?_
    -- path 1
    exact hret (0) () _ _ _ _ dX0_namesOnlySeats_19 (rfl) (by clear hret hl hS hD hP hK hA hN hts hx hb hr hml hown hlocks hiX0; grind [jNames, bI]) hP hD hS
  · skip
    refine lv_iload_n hx hb dX0_namesOnlySeats_4 rfl (lv_at hl 1 rfl) ?_
    refine lv_iconst (v := 1) hx hb dX0_namesOnlySeats_5 (by decide) ?_
    refine lv_aload_n hx hb dX0_namesOnlySeats_6 rfl (lv_at hl 0 rfl) ?_
    refine va_get (D := D) (ci := 0) (v := .int (nI N)) (C := RX0) (T := TX0) (N := 4) hx hb hts hiX0 hown hK hP 0 rfl rfl 2 (by decide) (hts (.fieldLink RX0 30 "HeardSecond$Bench" "seats" "I") (by decide +kernel)) (fun _ h9 => h9) rfl dX0_namesOnlySeats_7 ?_
    refine lv_ishl hx hb dX0_namesOnlySeats_10 ?_
    refine lv_icmp_ge (tgt := 18) hx hb dX0_namesOnlySeats_11 (by decide) (fun c11_2 => ?_) (fun c11_2 => ?_)
    · skip
      refine lv_iconst (v := 0) hx hb dX0_namesOnlySeats_18 (by decide) ?_
      -- path 2
      exact hret (0) () _ _ _ _ dX0_namesOnlySeats_19 (rfl) (by clear hret hl hS hD hP hK hA hN hts hx hb hr hml hown hlocks hiX0; grind [jNames, bI]) hP hD hS
    · skip
      refine lv_iconst (v := 1) hx hb dX0_namesOnlySeats_14 (by decide) ?_
      refine lv_goto (tgt := 19) hx hb dX0_namesOnlySeats_15 (by decide) ?_
      -- path 3
      exact hret (1) () _ _ _ _ dX0_namesOnlySeats_19 (rfl) (by clear hret hl hS hD hP hK hA hN hts hx hb hr hml hown hlocks hiX0; grind [jNames, bI]) hP hD hS
abbrev rm_c_X0_kindAt : Room := { frames := 0, cells := 0, slots := 0, locals := 0 }
set_option maxHeartbeats 400000 in
set_option maxRecDepth 20000 in
theorem c_X0_kindAt {l : Launch} {D : va_G} {cA : ClassId} {b0 : Nat} {qk : Nat} {qs : Nat} {N : Nat} {pt : Int32} {kf : Nat → Int32} {x : Int32} (h5 : N ≤ 5) : zMi l yX0_kindAt wsX0_kindAt rm_c_X0_kindAt D cA [(b0, .inr (0, [.ref qk, .ref qs, .int (nI N), .int pt])), (qk, .inl (cA, 5, .inl kf))] [.ref b0, .int x] (fun (r : Int32) (_ : Unit) => r = jKind N kf x) (fun (_ : Unit) => [(b0, .inr (0, [.ref qk, .ref qs, .int (nI N), .int pt])), (qk, .inl (cA, 5, .inl kf))]) := by
  refine z_enteri (cc := cX0_kindAt) (maxL := 2) (ty := .int) (by decide) rfl (Nat.le_of_ble_eq_true rfl) (fun p e s m args below meth c ls A H0 H locs Q hi_ hA hK hP hD hS hl hret => ?_)
  obtain ⟨hx, hb, hr, hml, hown, hts, hlocks, hN⟩ := hi_
  have hl : lv_has ls 2 [(0, .ref b0), (1, .int x)] := hl
  have hiX0 : ∀ w ∈ wsX00, w ∈ wsX0_kindAt := by decide +kernel
  refine lv_iload_n hx hb dX0_kindAt_0 rfl (lv_at hl 1 rfl) ?_
  refine lv_if_lt (tgt := 30) hx hb dX0_kindAt_1 (by decide) (fun c1_1 => ?_) (fun c1_1 => ?_)
  · skip
    refine lv_iconst (v := (-1)) hx hb dX0_kindAt_30 (by decide) ?_
    -- path 1
    exact hret ((-1)) () _ _ _ _ dX0_kindAt_31 (rfl) (by clear hret hl hS hD hP hK hA hN hts hx hb hr hml hown hlocks hiX0; first | (exact absurd (z_ltM h5 (by decide) (Int32.not_le.mp c9_2)) (Int32.not_lt.mpr c18_3)) | (grind [jKind])) hP hD hS
  · skip
    refine lv_iload_n hx hb dX0_kindAt_4 rfl (lv_at hl 1 rfl) ?_
    refine lv_aload_n hx hb dX0_kindAt_5 rfl (lv_at hl 0 rfl) ?_
    refine va_get (D := D) (ci := 0) (v := .int (nI N)) (C := RX0) (T := TX0) (N := 4) hx hb hts hiX0 hown hK hP 0 rfl rfl 2 (by decide) (hts (.fieldLink RX0 30 "HeardSecond$Bench" "seats" "I") (by decide +kernel)) (fun _ h9 => h9) rfl dX0_kindAt_6 ?_
    refine lv_icmp_ge (tgt := 30) hx hb dX0_kindAt_9 (by decide) (fun c9_2 => ?_) (fun c9_2 => ?_)
    · skip
      refine lv_iconst (v := (-1)) hx hb dX0_kindAt_30 (by decide) ?_
      -- path 2
      exact hret ((-1)) () _ _ _ _ dX0_kindAt_31 (rfl) (by clear hret hl hS hD hP hK hA hN hts hx hb hr hml hown hlocks hiX0; first | (exact absurd (z_ltM h5 (by decide) (Int32.not_le.mp c9_2)) (Int32.not_lt.mpr c18_3)) | (grind [jKind])) hP hD hS
    · skip
      refine lv_iload_n hx hb dX0_kindAt_12 rfl (lv_at hl 1 rfl) ?_
      refine lv_aload_n hx hb dX0_kindAt_13 rfl (lv_at hl 0 rfl) ?_
      refine va_get (D := D) (ci := 0) (v := .ref qk) (C := RX0) (T := TX0) (N := 4) hx hb hts hiX0 hown hK hP 0 rfl rfl 0 (by decide) (hts (.fieldLink RX0 9 "HeardSecond$Bench" "kinds" "[I") (by decide +kernel)) (fun _ h9 => h9) rfl dX0_kindAt_14 ?_
      refine va_alen (v := nI 5) hx hb hK hP 1 0 rfl rfl rfl dX0_kindAt_17 ?_
      refine lv_icmp_ge (tgt := 30) hx hb dX0_kindAt_18 (by decide) (fun c18_3 => ?_) (fun c18_3 => ?_)
      · skip
        refine lv_iconst (v := (-1)) hx hb dX0_kindAt_30 (by decide) ?_
        -- path 3
        exact hret ((-1)) () _ _ _ _ dX0_kindAt_31 (rfl) (by clear hret hl hS hD hP hK hA hN hts hx hb hr hml hown hlocks hiX0; first | (exact absurd (z_ltM h5 (by decide) (Int32.not_le.mp c9_2)) (Int32.not_lt.mpr c18_3)) | (grind [jKind])) hP hD hS
      · skip
        refine lv_aload_n hx hb dX0_kindAt_21 rfl (lv_at hl 0 rfl) ?_
        refine va_get (D := D) (ci := 0) (v := .ref qk) (C := RX0) (T := TX0) (N := 4) hx hb hts hiX0 hown hK hP 0 rfl rfl 0 (by decide) (hts (.fieldLink RX0 9 "HeardSecond$Bench" "kinds" "[I") (by decide +kernel)) (fun _ h9 => h9) rfl dX0_kindAt_22 ?_
        refine lv_iload_n hx hb dX0_kindAt_25 rfl (lv_at hl 1 rfl) ?_
        refine va_iald hx hb hK hP 1 0 rfl rfl (z_in (n := 5) (by decide) (Int32.not_lt.mp c1_1) (Int32.not_le.mp c18_3)) dX0_kindAt_26 ?_
        refine lv_goto (tgt := 31) hx hb dX0_kindAt_27 (by decide) ?_
        -- path 4
        exact hret (kf (Int32.toNatClampNeg x)) () _ _ _ _ dX0_kindAt_31 (rfl) (by clear hret hl hS hD hP hK hA hN hts hx hb hr hml hown hlocks hiX0; first | (exact absurd (z_ltM h5 (by decide) (Int32.not_le.mp c9_2)) (Int32.not_lt.mpr c18_3)) | (grind [jKind])) hP hD hS
abbrev rm_c_X0_sideAt : Room := { frames := 0, cells := 0, slots := 0, locals := 0 }
set_option maxHeartbeats 400000 in
set_option maxRecDepth 20000 in
theorem c_X0_sideAt {l : Launch} {D : va_G} {cA : ClassId} {b0 : Nat} {qk : Nat} {qs : Nat} {N : Nat} {pt : Int32} {sf : Nat → Int32} {x : Int32} (h5 : N ≤ 5) : zMi l yX0_sideAt wsX0_sideAt rm_c_X0_sideAt D cA [(b0, .inr (0, [.ref qk, .ref qs, .int (nI N), .int pt])), (qs, .inl (cA, 5, .inl sf))] [.ref b0, .int x] (fun (r : Int32) (_ : Unit) => r = jKind N sf x) (fun (_ : Unit) => [(b0, .inr (0, [.ref qk, .ref qs, .int (nI N), .int pt])), (qs, .inl (cA, 5, .inl sf))]) := by
  refine z_enteri (cc := cX0_sideAt) (maxL := 2) (ty := .int) (by decide) rfl (Nat.le_of_ble_eq_true rfl) (fun p e s m args below meth c ls A H0 H locs Q hi_ hA hK hP hD hS hl hret => ?_)
  obtain ⟨hx, hb, hr, hml, hown, hts, hlocks, hN⟩ := hi_
  have hl : lv_has ls 2 [(0, .ref b0), (1, .int x)] := hl
  have hiX0 : ∀ w ∈ wsX00, w ∈ wsX0_sideAt := by decide +kernel
  refine lv_iload_n hx hb dX0_sideAt_0 rfl (lv_at hl 1 rfl) ?_
  refine lv_if_lt (tgt := 30) hx hb dX0_sideAt_1 (by decide) (fun c1_1 => ?_) (fun c1_1 => ?_)
  · skip
    refine lv_iconst (v := (-1)) hx hb dX0_sideAt_30 (by decide) ?_
    -- path 1
    exact hret ((-1)) () _ _ _ _ dX0_sideAt_31 (rfl) (by clear hret hl hS hD hP hK hA hN hts hx hb hr hml hown hlocks hiX0; first | (exact absurd (z_ltM h5 (by decide) (Int32.not_le.mp c9_2)) (Int32.not_lt.mpr c18_3)) | (grind [jKind])) hP hD hS
  · skip
    refine lv_iload_n hx hb dX0_sideAt_4 rfl (lv_at hl 1 rfl) ?_
    refine lv_aload_n hx hb dX0_sideAt_5 rfl (lv_at hl 0 rfl) ?_
    refine va_get (D := D) (ci := 0) (v := .int (nI N)) (C := RX0) (T := TX0) (N := 4) hx hb hts hiX0 hown hK hP 0 rfl rfl 2 (by decide) (hts (.fieldLink RX0 30 "HeardSecond$Bench" "seats" "I") (by decide +kernel)) (fun _ h9 => h9) rfl dX0_sideAt_6 ?_
    refine lv_icmp_ge (tgt := 30) hx hb dX0_sideAt_9 (by decide) (fun c9_2 => ?_) (fun c9_2 => ?_)
    · skip
      refine lv_iconst (v := (-1)) hx hb dX0_sideAt_30 (by decide) ?_
      -- path 2
      exact hret ((-1)) () _ _ _ _ dX0_sideAt_31 (rfl) (by clear hret hl hS hD hP hK hA hN hts hx hb hr hml hown hlocks hiX0; first | (exact absurd (z_ltM h5 (by decide) (Int32.not_le.mp c9_2)) (Int32.not_lt.mpr c18_3)) | (grind [jKind])) hP hD hS
    · skip
      refine lv_iload_n hx hb dX0_sideAt_12 rfl (lv_at hl 1 rfl) ?_
      refine lv_aload_n hx hb dX0_sideAt_13 rfl (lv_at hl 0 rfl) ?_
      refine va_get (D := D) (ci := 0) (v := .ref qs) (C := RX0) (T := TX0) (N := 4) hx hb hts hiX0 hown hK hP 0 rfl rfl 1 (by decide) (hts (.fieldLink RX0 15 "HeardSecond$Bench" "sides" "[I") (by decide +kernel)) (fun _ h9 => h9) rfl dX0_sideAt_14 ?_
      refine va_alen (v := nI 5) hx hb hK hP 1 0 rfl rfl rfl dX0_sideAt_17 ?_
      refine lv_icmp_ge (tgt := 30) hx hb dX0_sideAt_18 (by decide) (fun c18_3 => ?_) (fun c18_3 => ?_)
      · skip
        refine lv_iconst (v := (-1)) hx hb dX0_sideAt_30 (by decide) ?_
        -- path 3
        exact hret ((-1)) () _ _ _ _ dX0_sideAt_31 (rfl) (by clear hret hl hS hD hP hK hA hN hts hx hb hr hml hown hlocks hiX0; first | (exact absurd (z_ltM h5 (by decide) (Int32.not_le.mp c9_2)) (Int32.not_lt.mpr c18_3)) | (grind [jKind])) hP hD hS
      · skip
        refine lv_aload_n hx hb dX0_sideAt_21 rfl (lv_at hl 0 rfl) ?_
        refine va_get (D := D) (ci := 0) (v := .ref qs) (C := RX0) (T := TX0) (N := 4) hx hb hts hiX0 hown hK hP 0 rfl rfl 1 (by decide) (hts (.fieldLink RX0 15 "HeardSecond$Bench" "sides" "[I") (by decide +kernel)) (fun _ h9 => h9) rfl dX0_sideAt_22 ?_
        refine lv_iload_n hx hb dX0_sideAt_25 rfl (lv_at hl 1 rfl) ?_
        refine va_iald hx hb hK hP 1 0 rfl rfl (z_in (n := 5) (by decide) (Int32.not_lt.mp c1_1) (Int32.not_le.mp c18_3)) dX0_sideAt_26 ?_
        refine lv_goto (tgt := 31) hx hb dX0_sideAt_27 (by decide) ?_
        -- path 4
        exact hret (sf (Int32.toNatClampNeg x)) () _ _ _ _ dX0_sideAt_31 (rfl) (by clear hret hl hS hD hP hK hA hN hts hx hb hr hml hown hlocks hiX0; first | (exact absurd (z_ltM h5 (by decide) (Int32.not_le.mp c9_2)) (Int32.not_lt.mpr c18_3)) | (grind [jKind])) hP hD hS
abbrev rm_c_X0_isOf : Room := { frames := 1, cells := 0, slots := 0, locals := 21 }
set_option maxHeartbeats 400000 in
set_option maxRecDepth 20000 in
theorem c_X0_isOf {l : Launch} {D : va_G} {cA : ClassId} {b0 : Nat} {qk : Nat} {qs : Nat} {N : Nat} {pt : Int32} {kf : Nat → Int32} {x : Int32} {k : Int32} (h5 : N ≤ 5) : zMi l yX0_isOf wsX0_isOf rm_c_X0_isOf D cA [(b0, .inr (0, [.ref qk, .ref qs, .int (nI N), .int pt])), (qk, .inl (cA, 5, .inl kf))] [.ref b0, .int x, .int k] (fun (r : Int32) (_ : Unit) => r = bI (jIsOf N kf x k)) (fun (_ : Unit) => [(b0, .inr (0, [.ref qk, .ref qs, .int (nI N), .int pt])), (qk, .inl (cA, 5, .inl kf))]) := by
  refine z_enteri (cc := cX0_isOf) (maxL := 4) (ty := .boolean) (by decide) rfl (Nat.le_of_ble_eq_true rfl) (fun p e s m args below meth c ls A H0 H locs Q hi_ hA hK hP hD hS hl hret => ?_)
  obtain ⟨hx, hb, hr, hml, hown, hts, hlocks, hN⟩ := hi_
  have hl : lv_has ls 4 [(0, .ref b0), (1, .int x), (2, .int k)] := hl
  refine lv_aload_n hx hb dX0_isOf_0 rfl (lv_at hl 0 rfl) ?_
  refine lv_iload_n hx hb dX0_isOf_1 rfl (lv_at hl 1 rfl) ?_
  refine z_bri (z_runV (As := [.int x]) (rest := []) (ci := 0) ⟨hx, hb, hml, hown, hts⟩ (c_X0_kindAt (b0 := b0) (qk := qk) (qs := qs) (N := N) (pt := pt) (kf := kf) (x := x) (by first | assumption | omega) _) (cwV 1 hts gX0_isOf_X0_kindAt rfl rfl rfl (by decide +kernel) ⟨Nat.le_of_ble_eq_true rfl, Nat.le_of_ble_eq_true rfl⟩) hK hP hD hN [0, 1] rfl rfl rfl rfl rfl hl.1 rfl (Nat.le_of_ble_eq_true rfl) dX0_isOf_2 ⟨Nat.zero_le _, Nat.zero_le _⟩) hP hD hS hA [0, 1] rfl (fun r2 u3 H locs hw1 hP hS => ?_)
  obtain rfl : r2 = jKind N kf x := hw1
  refine lv_istore_n (lv' := [(3, .int (jKind N kf x)), (0, .ref b0), (1, .int x), (2, .int k)]) hx hb dX0_isOf_5 rfl hl (by decide) rfl (fun ls hl => ?_)
  refine lv_aload_n hx hb dX0_isOf_6 rfl (lv_at hl 1 rfl) ?_
  refine lv_iload_n hx hb dX0_isOf_7 rfl (lv_at hl 2 rfl) ?_
  refine z_bri (z_runV (As := [.int x]) (rest := []) (ci := 0) ⟨hx, hb, hml, hown, hts⟩ (c_X0_has (b0 := b0) (qk := qk) (qs := qs) (N := N) (pt := pt) (x := x) _) (cwV 1 hts gX0_isOf_X0_has rfl rfl rfl (by decide +kernel) ⟨Nat.le_of_ble_eq_true rfl, Nat.le_of_ble_eq_true rfl⟩) hK hP hD hN [0] rfl rfl rfl rfl rfl hl.1 rfl (Nat.le_of_ble_eq_true rfl) dX0_isOf_8 ⟨Nat.zero_le _, Nat.zero_le _⟩) hP hD hS hA [0] rfl (fun r5 u6 H locs hw4 hP hS => ?_)
  obtain rfl : r5 = bI (jHas N x) := hw4
  refine lv_if_eq (tgt := 37) hx hb dX0_isOf_11 (by decide) (fun c11_7 => ?_) (fun c11_7 => ?_)
  · skip
    have c11_7 := bI_0.mp c11_7
    refine lv_iconst (v := 0) hx hb dX0_isOf_37 (by decide) ?_
    -- path 1
    exact hret (0) () _ _ _ _ dX0_isOf_38 (rfl) (by clear hret hl hS hD hP hK hA hN hts hx hb hr hml hown hlocks ; grind [jIsOf, bI]) hP hD hS
  · skip
    have c11_7 := bI_n0.mp c11_7
    refine lv_iload_n hx hb dX0_isOf_14 rfl (lv_at hl 3 rfl) ?_
    refine lv_if_eq (tgt := 33) hx hb dX0_isOf_15 (by decide) (fun c15_8 => ?_) (fun c15_8 => ?_)
    · skip
      refine lv_iconst (v := 1) hx hb dX0_isOf_33 (by decide) ?_
      refine lv_goto (tgt := 38) hx hb dX0_isOf_34 (by decide) ?_
      -- path 2
      exact hret (1) () _ _ _ _ dX0_isOf_38 (rfl) (by clear hret hl hS hD hP hK hA hN hts hx hb hr hml hown hlocks ; grind [jIsOf, bI]) hP hD hS
    · skip
      refine lv_iload_n hx hb dX0_isOf_18 rfl (lv_at hl 3 rfl) ?_
      refine lv_iload_n hx hb dX0_isOf_19 rfl (lv_at hl 0 rfl) ?_
      refine lv_icmp_eq (tgt := 33) hx hb dX0_isOf_20 (by decide) (fun c20_9 => ?_) (fun c20_9 => ?_)
      · skip
        refine lv_iconst (v := 1) hx hb dX0_isOf_33 (by decide) ?_
        refine lv_goto (tgt := 38) hx hb dX0_isOf_34 (by decide) ?_
        -- path 3
        exact hret (1) () _ _ _ _ dX0_isOf_38 (rfl) (by clear hret hl hS hD hP hK hA hN hts hx hb hr hml hown hlocks ; grind [jIsOf, bI]) hP hD hS
      · skip
        refine lv_iload_n hx hb dX0_isOf_23 rfl (lv_at hl 3 rfl) ?_
        refine lv_iconst (v := 1) hx hb dX0_isOf_24 (by decide) ?_
        refine lv_icmp_ne (tgt := 37) hx hb dX0_isOf_25 (by decide) (fun c25_10 => ?_) (fun c25_10 => ?_)
        · skip
          refine lv_iconst (v := 0) hx hb dX0_isOf_37 (by decide) ?_
          -- path 4
          exact hret (0) () _ _ _ _ dX0_isOf_38 (rfl) (by clear hret hl hS hD hP hK hA hN hts hx hb hr hml hown hlocks ; grind [jIsOf, bI]) hP hD hS
        · skip
          refine lv_iload_n hx hb dX0_isOf_28 rfl (lv_at hl 0 rfl) ?_
          refine lv_iconst (v := 4) hx hb dX0_isOf_29 (by decide) ?_
          refine lv_icmp_ne (tgt := 37) hx hb dX0_isOf_30 (by decide) (fun c30_11 => ?_) (fun c30_11 => ?_)
          · skip
            refine lv_iconst (v := 0) hx hb dX0_isOf_37 (by decide) ?_
            -- path 5
            exact hret (0) () _ _ _ _ dX0_isOf_38 (rfl) (by clear hret hl hS hD hP hK hA hN hts hx hb hr hml hown hlocks ; grind [jIsOf, bI]) hP hD hS
          · skip
            refine lv_iconst (v := 1) hx hb dX0_isOf_33 (by decide) ?_
            refine lv_goto (tgt := 38) hx hb dX0_isOf_34 (by decide) ?_
            -- path 6
            exact hret (1) () _ _ _ _ dX0_isOf_38 (rfl) (by clear hret hl hS hD hP hK hA hN hts hx hb hr hml hown hlocks ; grind [jIsOf, bI]) hP hD hS
abbrev rm_c_X0_sitsBeside : Room := { frames := 0, cells := 0, slots := 0, locals := 0 }
set_option maxHeartbeats 400000 in
set_option maxRecDepth 20000 in
theorem c_X0_sitsBeside {l : Launch} {D : va_G} {cA : ClassId} {b0 : Nat} {qk : Nat} {qs : Nat} {N : Nat} {pt : Int32} {x : Int32} {y : Int32} : zMi l yX0_sitsBeside wsX0_sitsBeside rm_c_X0_sitsBeside D cA [(b0, .inr (0, [.ref qk, .ref qs, .int (nI N), .int pt]))] [.ref b0, .int x, .int y] (fun (r : Int32) (_ : Unit) => r = bI (jBeside N x y)) (fun (_ : Unit) => [(b0, .inr (0, [.ref qk, .ref qs, .int (nI N), .int pt]))]) := by
  refine z_enteri (cc := cX0_sitsBeside) (maxL := 3) (ty := .boolean) (by decide) rfl (Nat.le_of_ble_eq_true rfl) (fun p e s m args below meth c ls A H0 H locs Q hi_ hA hK hP hD hS hl hret => ?_)
  obtain ⟨hx, hb, hr, hml, hown, hts, hlocks, hN⟩ := hi_
  have hl : lv_has ls 3 [(0, .ref b0), (1, .int x), (2, .int y)] := hl
  have hiX0 : ∀ w ∈ wsX00, w ∈ wsX0_sitsBeside := by decide +kernel
  refine lv_iload_n hx hb dX0_sitsBeside_0 rfl (lv_at hl 1 rfl) ?_
  refine lv_if_lt (tgt := 30) hx hb dX0_sitsBeside_1 (by decide) (fun c1_1 => ?_) (fun c1_1 => ?_)
  · skip
    refine lv_iconst (v := 0) hx hb dX0_sitsBeside_30 (by decide) ?_
    -- path 1
    exact hret (0) () _ _ _ _ dX0_sitsBeside_31 (rfl) (by clear hret hl hS hD hP hK hA hN hts hx hb hr hml hown hlocks hiX0; grind [jBeside, bI]) hP hD hS
  · skip
    refine lv_iload_n hx hb dX0_sitsBeside_4 rfl (lv_at hl 1 rfl) ?_
    refine lv_aload_n hx hb dX0_sitsBeside_5 rfl (lv_at hl 0 rfl) ?_
    refine va_get (D := D) (ci := 0) (v := .int (nI N)) (C := RX0) (T := TX0) (N := 4) hx hb hts hiX0 hown hK hP 0 rfl rfl 2 (by decide) (hts (.fieldLink RX0 30 "HeardSecond$Bench" "seats" "I") (by decide +kernel)) (fun _ h9 => h9) rfl dX0_sitsBeside_6 ?_
    refine lv_icmp_ge (tgt := 30) hx hb dX0_sitsBeside_9 (by decide) (fun c9_2 => ?_) (fun c9_2 => ?_)
    · skip
      refine lv_iconst (v := 0) hx hb dX0_sitsBeside_30 (by decide) ?_
      -- path 2
      exact hret (0) () _ _ _ _ dX0_sitsBeside_31 (rfl) (by clear hret hl hS hD hP hK hA hN hts hx hb hr hml hown hlocks hiX0; grind [jBeside, bI]) hP hD hS
    · skip
      refine lv_iload_n hx hb dX0_sitsBeside_12 rfl (lv_at hl 1 rfl) ?_
      refine lv_iload_n hx hb dX0_sitsBeside_13 rfl (lv_at hl 2 rfl) ?_
      refine lv_iconst (v := 1) hx hb dX0_sitsBeside_14 (by decide) ?_
      refine lv_isub hx hb dX0_sitsBeside_15 ?_
      refine lv_icmp_eq (tgt := 26) hx hb dX0_sitsBeside_16 (by decide) (fun c16_3 => ?_) (fun c16_3 => ?_)
      · skip
        refine lv_iconst (v := 1) hx hb dX0_sitsBeside_26 (by decide) ?_
        refine lv_goto (tgt := 31) hx hb dX0_sitsBeside_27 (by decide) ?_
        -- path 3
        exact hret (1) () _ _ _ _ dX0_sitsBeside_31 (rfl) (by clear hret hl hS hD hP hK hA hN hts hx hb hr hml hown hlocks hiX0; grind [jBeside, bI]) hP hD hS
      · skip
        refine lv_iload_n hx hb dX0_sitsBeside_19 rfl (lv_at hl 1 rfl) ?_
        refine lv_iload_n hx hb dX0_sitsBeside_20 rfl (lv_at hl 2 rfl) ?_
        refine lv_iconst (v := 1) hx hb dX0_sitsBeside_21 (by decide) ?_
        refine lv_iadd hx hb dX0_sitsBeside_22 ?_
        refine lv_icmp_ne (tgt := 30) hx hb dX0_sitsBeside_23 (by decide) (fun c23_4 => ?_) (fun c23_4 => ?_)
        · skip
          refine lv_iconst (v := 0) hx hb dX0_sitsBeside_30 (by decide) ?_
          -- path 4
          exact hret (0) () _ _ _ _ dX0_sitsBeside_31 (rfl) (by clear hret hl hS hD hP hK hA hN hts hx hb hr hml hown hlocks hiX0; grind [jBeside, bI]) hP hD hS
        · skip
          refine lv_iconst (v := 1) hx hb dX0_sitsBeside_26 (by decide) ?_
          refine lv_goto (tgt := 31) hx hb dX0_sitsBeside_27 (by decide) ?_
          -- path 5
          exact hret (1) () _ _ _ _ dX0_sitsBeside_31 (rfl) (by clear hret hl hS hD hP hK hA hN hts hx hb hr hml hown hlocks hiX0; grind [jBeside, bI]) hP hD hS
abbrev rm_c_X0_counts : Room := { frames := 1, cells := 0, slots := 0, locals := 22 }
set_option maxHeartbeats 400000 in
set_option maxRecDepth 20000 in
theorem c_X0_counts {l : Launch} {D : va_G} {cA : ClassId} {b0 : Nat} {qk : Nat} {qs : Nat} {N : Nat} {pt : Int32} {kf : Nat → Int32} {x : Int32} {last : Int32} {o : Int32} (h5 : N ≤ 5) : zMi l yX0_counts wsX0_counts rm_c_X0_counts D cA [(b0, .inr (0, [.ref qk, .ref qs, .int (nI N), .int pt])), (qk, .inl (cA, 5, .inl kf))] [.ref b0, .int x, .int last, .int o] (fun (r : Int32) (_ : Unit) => r = bI (jCounts N kf x last o)) (fun (_ : Unit) => [(b0, .inr (0, [.ref qk, .ref qs, .int (nI N), .int pt])), (qk, .inl (cA, 5, .inl kf))]) := by
  refine z_enteri (cc := cX0_counts) (maxL := 5) (ty := .boolean) (by decide) rfl (Nat.le_of_ble_eq_true rfl) (fun p e s m args below meth c ls A H0 H locs Q hi_ hA hK hP hD hS hl hret => ?_)
  obtain ⟨hx, hb, hr, hml, hown, hts, hlocks, hN⟩ := hi_
  have hl : lv_has ls 5 [(0, .ref b0), (1, .int x), (2, .int last), (3, .int o)] := hl
  refine lv_aload_n hx hb dX0_counts_0 rfl (lv_at hl 0 rfl) ?_
  refine lv_iload_n hx hb dX0_counts_1 rfl (lv_at hl 1 rfl) ?_
  refine z_bri (z_runV (As := [.int x]) (rest := []) (ci := 0) ⟨hx, hb, hml, hown, hts⟩ (c_X0_kindAt (b0 := b0) (qk := qk) (qs := qs) (N := N) (pt := pt) (kf := kf) (x := x) (by first | assumption | omega) _) (cwV 1 hts gX0_counts_X0_kindAt rfl rfl rfl (by decide +kernel) ⟨Nat.le_of_ble_eq_true rfl, Nat.le_of_ble_eq_true rfl⟩) hK hP hD hN [0, 1] rfl rfl rfl rfl rfl hl.1 rfl (Nat.le_of_ble_eq_true rfl) dX0_counts_2 ⟨Nat.zero_le _, Nat.zero_le _⟩) hP hD hS hA [0, 1] rfl (fun r2 u3 H locs hw1 hP hS => ?_)
  obtain rfl : r2 = jKind N kf x := hw1
  refine lv_istore (lv' := [(4, .int (jKind N kf x)), (0, .ref b0), (1, .int x), (2, .int last), (3, .int o)]) hx hb dX0_counts_5 hl (by decide) rfl (fun ls hl => ?_)
  refine lv_iload hx hb dX0_counts_7 (lv_at hl 0 rfl) ?_
  refine lv_iconst (v := (-1)) hx hb dX0_counts_9 (by decide) ?_
  refine lv_icmp_eq (tgt := 27) hx hb dX0_counts_10 (by decide) (fun c10_4 => ?_) (fun c10_4 => ?_)
  · skip
    refine lv_iconst (v := 0) hx hb dX0_counts_27 (by decide) ?_
    -- path 1
    exact hret (0) () _ _ _ _ dX0_counts_28 (rfl) (by clear hret hl hS hD hP hK hA hN hts hx hb hr hml hown hlocks ; grind [jCounts, bI]) hP hD hS
  · skip
    refine lv_iload hx hb dX0_counts_13 (lv_at hl 0 rfl) ?_
    refine lv_iconst (v := 4) hx hb dX0_counts_15 (by decide) ?_
    refine lv_icmp_eq (tgt := 27) hx hb dX0_counts_16 (by decide) (fun c16_5 => ?_) (fun c16_5 => ?_)
    · skip
      refine lv_iconst (v := 0) hx hb dX0_counts_27 (by decide) ?_
      -- path 2
      exact hret (0) () _ _ _ _ dX0_counts_28 (rfl) (by clear hret hl hS hD hP hK hA hN hts hx hb hr hml hown hlocks ; grind [jCounts, bI]) hP hD hS
    · skip
      refine lv_iload_n hx hb dX0_counts_19 rfl (lv_at hl 2 rfl) ?_
      refine lv_iload_n hx hb dX0_counts_20 rfl (lv_at hl 4 rfl) ?_
      refine z_bri (z_runSN (As := [.int x, .int o]) (rest := []) ⟨hx, hb, hml, hown, hts⟩ (c_X4_isIn (x := x) (o := o) _) (va_cnB (own := RX0) (host := "HeardSecond") (index := 54) 2 hts ggX0_counts_X4_isIn rfl rfl rfl (hN.get 25 rfl) (hts (.initialized RX4) (by decide +kernel)) (by decide +kernel) ⟨Nat.le_of_ble_eq_true rfl, Nat.le_of_ble_eq_true rfl⟩) (hts (.static yX4_isIn) (by decide +kernel)) hK hP hD hN [] rfl rfl rfl hl.1 rfl (Nat.le_of_ble_eq_true rfl) dX0_counts_21 ⟨Nat.zero_le _, Nat.zero_le _⟩) hP hD hS hA [] rfl (fun r7 u8 H locs hw6 hP hS => ?_)
      obtain rfl : r7 = bI (jIsIn x o) := hw6
      refine lv_if_eq (tgt := 29) hx hb dX0_counts_24 (by decide) (fun c24_9 => ?_) (fun c24_9 => ?_)
      · skip
        have c24_9 := bI_0.mp c24_9
        refine lv_iload hx hb dX0_counts_29 (lv_at hl 0 rfl) ?_
        refine lv_iconst (v := 1) hx hb dX0_counts_31 (by decide) ?_
        refine lv_icmp_ne (tgt := 44) hx hb dX0_counts_32 (by decide) (fun c32_10 => ?_) (fun c32_10 => ?_)
        · skip
          refine lv_iconst (v := 1) hx hb dX0_counts_44 (by decide) ?_
          refine lv_goto (tgt := 49) hx hb dX0_counts_45 (by decide) ?_
          -- path 3
          exact hret (1) () _ _ _ _ dX0_counts_49 (rfl) (by clear hret hl hS hD hP hK hA hN hts hx hb hr hml hown hlocks ; grind [jCounts, bI]) hP hD hS
        · skip
          refine lv_aload_n hx hb dX0_counts_35 rfl (lv_at hl 1 rfl) ?_
          refine lv_iload_n hx hb dX0_counts_36 rfl (lv_at hl 3 rfl) ?_
          refine lv_iload_n hx hb dX0_counts_37 rfl (lv_at hl 2 rfl) ?_
          refine z_bri (z_runV (As := [.int last, .int x]) (rest := []) (ci := 0) ⟨hx, hb, hml, hown, hts⟩ (c_X0_sitsBeside (b0 := b0) (qk := qk) (qs := qs) (N := N) (pt := pt) (x := last) (y := x) _) (cwV 2 hts gX0_counts_X0_sitsBeside rfl rfl rfl (by decide +kernel) ⟨Nat.le_of_ble_eq_true rfl, Nat.le_of_ble_eq_true rfl⟩) hK hP hD hN [0] rfl rfl rfl rfl rfl hl.1 rfl (Nat.le_of_ble_eq_true rfl) dX0_counts_38 ⟨Nat.zero_le _, Nat.zero_le _⟩) hP hD hS hA [0] rfl (fun r12 u13 H locs hw11 hP hS => ?_)
          obtain rfl : r12 = bI (jBeside N last x) := hw11
          refine lv_if_eq (tgt := 48) hx hb dX0_counts_41 (by decide) (fun c41_14 => ?_) (fun c41_14 => ?_)
          · skip
            have c41_14 := bI_0.mp c41_14
            refine lv_iconst (v := 0) hx hb dX0_counts_48 (by decide) ?_
            -- path 4
            exact hret (0) () _ _ _ _ dX0_counts_49 (rfl) (by clear hret hl hS hD hP hK hA hN hts hx hb hr hml hown hlocks ; grind [jCounts, bI]) hP hD hS
          · skip
            have c41_14 := bI_n0.mp c41_14
            refine lv_iconst (v := 1) hx hb dX0_counts_44 (by decide) ?_
            refine lv_goto (tgt := 49) hx hb dX0_counts_45 (by decide) ?_
            -- path 5
            exact hret (1) () _ _ _ _ dX0_counts_49 (rfl) (by clear hret hl hS hD hP hK hA hN hts hx hb hr hml hown hlocks ; grind [jCounts, bI]) hP hD hS
      · skip
        have c24_9 := bI_n0.mp c24_9
        refine lv_iconst (v := 0) hx hb dX0_counts_27 (by decide) ?_
        -- path 6
        exact hret (0) () _ _ _ _ dX0_counts_28 (rfl) (by clear hret hl hS hD hP hK hA hN hts hx hb hr hml hown hlocks ; grind [jCounts, bI]) hP hD hS
abbrev rm_c_X0_believedBehind : Room := { frames := 1, cells := 0, slots := 0, locals := 21 }
set_option maxHeartbeats 400000 in
set_option maxRecDepth 20000 in
theorem c_X0_believedBehind {l : Launch} {D : va_G} {cA : ClassId} {b0 : Nat} {qk : Nat} {qs : Nat} {N : Nat} {pt : Int32} {kf : Nat → Int32} {x : Int32} {last : Int32} (h5 : N ≤ 5) : zMi l yX0_believedBehind wsX0_believedBehind rm_c_X0_believedBehind D cA [(b0, .inr (0, [.ref qk, .ref qs, .int (nI N), .int pt])), (qk, .inl (cA, 5, .inl kf))] [.ref b0, .int x, .int last] (fun (r : Int32) (_ : Unit) => r = jBel N kf x last) (fun (_ : Unit) => [(b0, .inr (0, [.ref qk, .ref qs, .int (nI N), .int pt])), (qk, .inl (cA, 5, .inl kf))]) := by
  refine z_enteri (cc := cX0_believedBehind) (maxL := 4) (ty := .int) (by decide) rfl (Nat.le_of_ble_eq_true rfl) (fun p e s m args below meth c ls A H0 H locs Q hi_ hA hK hP hD hS hl hret => ?_)
  obtain ⟨hx, hb, hr, hml, hown, hts, hlocks, hN⟩ := hi_
  have hl : lv_has ls 4 [(0, .ref b0), (1, .int x), (2, .int last)] := hl
  have hiX0 : ∀ w ∈ wsX00, w ∈ wsX0_believedBehind := by decide +kernel
  refine lv_aload_n hx hb dX0_believedBehind_0 rfl (lv_at hl 0 rfl) ?_
  refine lv_iload_n hx hb dX0_believedBehind_1 rfl (lv_at hl 1 rfl) ?_
  refine z_bri (z_runV (As := [.int x]) (rest := []) (ci := 0) ⟨hx, hb, hml, hown, hts⟩ (c_X0_kindAt (b0 := b0) (qk := qk) (qs := qs) (N := N) (pt := pt) (kf := kf) (x := x) (by first | assumption | omega) _) (cwV 1 hts gX0_believedBehind_X0_kindAt rfl rfl rfl (by decide +kernel) ⟨Nat.le_of_ble_eq_true rfl, Nat.le_of_ble_eq_true rfl⟩) hK hP hD hN [0, 1] rfl rfl rfl rfl rfl hl.1 rfl (Nat.le_of_ble_eq_true rfl) dX0_believedBehind_2 ⟨Nat.zero_le _, Nat.zero_le _⟩) hP hD hS hA [0, 1] rfl (fun r2 u3 H locs hw1 hP hS => ?_)
  obtain rfl : r2 = jKind N kf x := hw1
  refine lv_istore_n (lv' := [(3, .int (jKind N kf x)), (0, .ref b0), (1, .int x), (2, .int last)]) hx hb dX0_believedBehind_5 rfl hl (by decide) rfl (fun ls hl => ?_)
  refine lv_iload_n hx hb dX0_believedBehind_6 rfl (lv_at hl 3 rfl) ?_
  refine lv_iconst (v := (-1)) hx hb dX0_believedBehind_7 (by decide) ?_
  refine lv_icmp_eq (tgt := 16) hx hb dX0_believedBehind_8 (by decide) (fun c8_4 => ?_) (fun c8_4 => ?_)
  · skip
    refine lv_iconst (v := (-1)) hx hb dX0_believedBehind_16 (by decide) ?_
    -- path 1
    exact hret ((-1)) () _ _ _ _ dX0_believedBehind_17 (rfl) (by clear hret hl hS hD hP hK hA hN hts hx hb hr hml hown hlocks hiX0; grind [jBel]) hP hD hS
  · skip
    refine lv_iload_n hx hb dX0_believedBehind_11 rfl (lv_at hl 0 rfl) ?_
    refine lv_iconst (v := 2) hx hb dX0_believedBehind_12 (by decide) ?_
    refine lv_icmp_ne (tgt := 18) hx hb dX0_believedBehind_13 (by decide) (fun c13_5 => ?_) (fun c13_5 => ?_)
    · skip
      refine lv_iload_n hx hb dX0_believedBehind_18 rfl (lv_at hl 0 rfl) ?_
      refine lv_iconst (v := 3) hx hb dX0_believedBehind_19 (by decide) ?_
      refine lv_icmp_ne (tgt := 40) hx hb dX0_believedBehind_20 (by decide) (fun c20_6 => ?_) (fun c20_6 => ?_)
      · skip
        refine lv_iload_n hx hb dX0_believedBehind_40 rfl (lv_at hl 2 rfl) ?_
        -- path 2
        exact hret (x) () _ _ _ _ dX0_believedBehind_41 (rfl) (by clear hret hl hS hD hP hK hA hN hts hx hb hr hml hown hlocks hiX0; grind [jBel]) hP hD hS
      · skip
        refine lv_iload_n hx hb dX0_believedBehind_23 rfl (lv_at hl 2 rfl) ?_
        refine lv_if_ne (tgt := 36) hx hb dX0_believedBehind_24 (by decide) (fun c24_7 => ?_) (fun c24_7 => ?_)
        · skip
          refine lv_iload_n hx hb dX0_believedBehind_36 rfl (lv_at hl 2 rfl) ?_
          refine lv_iconst (v := 1) hx hb dX0_believedBehind_37 (by decide) ?_
          refine lv_isub hx hb dX0_believedBehind_38 ?_
          -- path 3
          exact hret (x - 1) () _ _ _ _ dX0_believedBehind_39 (rfl) (by clear hret hl hS hD hP hK hA hN hts hx hb hr hml hown hlocks hiX0; grind [jBel]) hP hD hS
        · skip
          refine lv_aload_n hx hb dX0_believedBehind_27 rfl (lv_at hl 1 rfl) ?_
          refine va_get (D := D) (ci := 0) (v := .int (nI N)) (C := RX0) (T := TX0) (N := 4) hx hb hts hiX0 hown hK hP 0 rfl rfl 2 (by decide) (hts (.fieldLink RX0 30 "HeardSecond$Bench" "seats" "I") (by decide +kernel)) (fun _ h9 => h9) rfl dX0_believedBehind_28 ?_
          refine lv_iconst (v := 1) hx hb dX0_believedBehind_31 (by decide) ?_
          refine lv_isub hx hb dX0_believedBehind_32 ?_
          refine lv_goto (tgt := 39) hx hb dX0_believedBehind_33 (by decide) ?_
          -- path 4
          exact hret ((nI N) - 1) () _ _ _ _ dX0_believedBehind_39 (rfl) (by clear hret hl hS hD hP hK hA hN hts hx hb hr hml hown hlocks hiX0; grind [jBel]) hP hD hS
    · skip
      refine lv_iconst (v := (-1)) hx hb dX0_believedBehind_16 (by decide) ?_
      -- path 5
      exact hret ((-1)) () _ _ _ _ dX0_believedBehind_17 (rfl) (by clear hret hl hS hD hP hK hA hN hts hx hb hr hml hown hlocks hiX0; grind [jBel]) hP hD hS
abbrev rm_c_X0_lastBehind : Room := { frames := 1, cells := 0, slots := 0, locals := 21 }
set_option maxHeartbeats 400000 in
set_option maxRecDepth 20000 in
theorem c_X0_lastBehind {l : Launch} {D : va_G} {cA : ClassId} {b0 : Nat} {qk : Nat} {qs : Nat} {N : Nat} {pt : Int32} {kf : Nat → Int32} {x : Int32} (h5 : N ≤ 5) : zMi l yX0_lastBehind wsX0_lastBehind rm_c_X0_lastBehind D cA [(b0, .inr (0, [.ref qk, .ref qs, .int (nI N), .int pt])), (qk, .inl (cA, 5, .inl kf))] [.ref b0, .int x] (fun (r : Int32) (_ : Unit) => r = jLast N kf x) (fun (_ : Unit) => [(b0, .inr (0, [.ref qk, .ref qs, .int (nI N), .int pt])), (qk, .inl (cA, 5, .inl kf))]) := by
  refine z_enteri (cc := cX0_lastBehind) (maxL := 2) (ty := .int) (by decide) rfl (Nat.le_of_ble_eq_true rfl) (fun p e s m args below meth c ls A H0 H locs Q hi_ hA hK hP hD hS hl hret => ?_)
  obtain ⟨hx, hb, hr, hml, hown, hts, hlocks, hN⟩ := hi_
  have hl : lv_has ls 2 [(0, .ref b0), (1, .int x)] := hl
  refine lv_aload_n hx hb dX0_lastBehind_0 rfl (lv_at hl 0 rfl) ?_
  refine lv_iload_n hx hb dX0_lastBehind_1 rfl (lv_at hl 1 rfl) ?_
  refine z_bri (z_runV (As := [.int x]) (rest := []) (ci := 0) ⟨hx, hb, hml, hown, hts⟩ (c_X0_kindAt (b0 := b0) (qk := qk) (qs := qs) (N := N) (pt := pt) (kf := kf) (x := x) (by first | assumption | omega) _) (cwV 1 hts gX0_lastBehind_X0_kindAt rfl rfl rfl (by decide +kernel) ⟨Nat.le_of_ble_eq_true rfl, Nat.le_of_ble_eq_true rfl⟩) hK hP hD hN [0, 1] rfl rfl rfl rfl rfl hl.1 rfl (Nat.le_of_ble_eq_true rfl) dX0_lastBehind_2 ⟨Nat.zero_le _, Nat.zero_le _⟩) hP hD hS hA [0, 1] rfl (fun r2 u3 H locs hw1 hP hS => ?_)
  obtain rfl : r2 = jKind N kf x := hw1
  refine lv_iconst (v := 2) hx hb dX0_lastBehind_5 (by decide) ?_
  refine lv_icmp_ne (tgt := 13) hx hb dX0_lastBehind_6 (by decide) (fun c6_4 => ?_) (fun c6_4 => ?_)
  · skip
    refine lv_iload_n hx hb dX0_lastBehind_13 rfl (lv_at hl 1 rfl) ?_
    -- path 1
    exact hret (x) () _ _ _ _ dX0_lastBehind_14 (rfl) (by clear hret hl hS hD hP hK hA hN hts hx hb hr hml hown hlocks ; grind [jLast]) hP hD hS
  · skip
    refine lv_iconst (v := 5) hx hb dX0_lastBehind_9 (by decide) ?_
    refine lv_goto (tgt := 14) hx hb dX0_lastBehind_10 (by decide) ?_
    -- path 2
    exact hret (5) () _ _ _ _ dX0_lastBehind_14 (rfl) (by clear hret hl hS hD hP hK hA hN hts hx hb hr hml hown hlocks ; grind [jLast]) hP hD hS
