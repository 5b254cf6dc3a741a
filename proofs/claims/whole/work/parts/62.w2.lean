/-! the law's world -/
theorem in_zN : ∀ w ∈ zNl, w ∈ lw_tbl := fun w h => by
  have hp : zNl = [66, 67, 83, 85, 86, 103, 104, 106, 107, 108, 110, 112, 114, 116, 118, 120, 122, 124, 60, 76, 98, 222, 245, 275, 284, 311, 333, 338, 343, 374, 389, 390, 440, 517].filterMap (fun i => lw_tbl[i]?) := by decide +kernel
  rw [hp] at h
  obtain ⟨i, -, hi⟩ := List.mem_filterMap.mp h
  exact List.mem_of_getElem? hi
theorem zN_of {s : State} {args : Array Value} (hts : ∀ w ∈ lw_tbl, w.before args s = true) : zN s := fun w h => va_Nw.of (zNl_on w h) (hts w (in_zN w h))
/-- all that stands: the class's words (q 0 .. q 26), the reference's (q 27 .. q 42) -/
def lw (cA : ClassId) (q : Nat → Nat) (n N t L B a : Nat) (f kf sf : Nat → Int32) (pt ou en w0 w1 br : Int32) (fw ftw fts : Nat → Int32) (ik cr la1 be1 ou1 si1 en1 w01 w11 br1 td1 : Int32) (fw1 ftw1 fts1 : Nat → Int32) (I2 : Nat → Int32) (F2 G : Nat → Nat → Int32)
    (J : Nat → Int32) (kt kc : Int32) (ha : Int64) (r he kr kn kh : Nat → Int32) (K : Nat → Nat → Int32) : va_W :=
  [(q 0, .inr (4, [.ref (q 1), .ref (q 3), .ref (q 6), .ref (q 10), .ref (q 14), .ref (q 18), .int ik, .int cr])),
   (q 1, .inr (2, [.ref (q 2), .int (nI n)])), (q 2, .inl (cA, 18, .inl f)),
   (q 3, .inr (0, [.ref (q 4), .ref (q 5), .int (nI N), .int pt])), (q 4, .inl (cA, 5, .inl kf)), (q 5, .inl (cA, 5, .inl sf)),
   (q 6, .inr (3, [.int (pI L), .int (pI B), .int ou, .int (nI a), .int en, .int w0, .int w1, .int br, .ref (q 7), .int (nI t), .ref (q 8), .ref (q 9)])), (q 7, .inl (cA, 5, .inl fw)), (q 8, .inl (cA, 8, .inl ftw)), (q 9, .inl (cA, 8, .inl fts)),
   (q 10, .inr (3, [.int la1, .int be1, .int ou1, .int si1, .int en1, .int w01, .int w11, .int br1, .ref (q 11), .int td1, .ref (q 12), .ref (q 13)])), (q 11, .inl (cA, 5, .inl fw1)), (q 12, .inl (cA, 8, .inl ftw1)), (q 13, .inl (cA, 8, .inl fts1)),
   (q 14, .inr (3, [.int (I2 0), .int (I2 1), .int (I2 2), .int (I2 3), .int (I2 4), .int (I2 5), .int (I2 6), .int (I2 7), .ref (q 15), .int (I2 8), .ref (q 16), .ref (q 17)])), (q 15, .inl (cA, 5, .inl (F2 0))), (q 16, .inl (cA, 8, .inl (F2 1))), (q 17, .inl (cA, 8, .inl (F2 2))),
   (q 18, .inr (1, [.ref (q 3), .ref (q 6), .ref (q 19), .ref (q 20), .ref (q 21), .ref (q 22), .ref (q 23), .ref (q 24), .ref (q 25), .ref (q 26)])), (q 19, .inl (cA, 35, .inl (G 0))), (q 20, .inl (cA, 35, .inl (G 1))), (q 21, .inl (cA, 7, .inl (G 2))), (q 22, .inl (cA, 42, .inl (G 3))), (q 23, .inl (cA, 42, .inl (G 4))), (q 24, .inl (cA, 49, .inl (G 5))), (q 25, .inl (cA, 49, .inl (G 6))), (q 26, .inl (cA, 6, .inl (G 7))),
   (q 27, .inr (5, [.ref (q 28), .int (nI n), .ref (q 29), .int (J 0), .int (J 1), .int (J 2), .int (nI N), .int pt, .int (nI (eC L B)), .int ou, .int (nI a), .int en, .int w0, .int w1, .int br, .int cr, .ref (q 30), .ref (q 31), .ref (q 32), .ref (q 33), .int (J 3), .int (nI t), .ref (q 34), .ref (q 35), .ref (q 36), .ref (q 37), .ref (q 38), .ref (q 39), .ref (q 40), .int kt, .int kc, .int (J 4), .ref (q 41), .ref (q 42), .long ha])),
   (q 28, .inl (cA, 18, .inl f)), (q 29, .inl (cA, 10, .inl (K 0))), (q 30, .inl (cA, 15, .inl r)), (q 31, .inl (cA, 64, .inl (K 1))), (q 32, .inl (cA, 64, .inl (K 2))), (q 33, .inl (cA, 64, .inl (K 3))), (q 34, .inl (cA, 16, .inl he)), (q 35, .inl (cA, 448, .inl (K 4))), (q 36, .inl (cA, 448, .inl (K 5))), (q 37, .inl (cA, 8, .inl (K 6))), (q 38, .inl (cA, 15, .inl kr)), (q 39, .inl (cA, 8, .inl kn)), (q 40, .inl (cA, 16, .inl kh)), (q 41, .inl (cA, 15, .inl (K 7))), (q 42, .inl (cA, 8, .inl (K 8)))]
