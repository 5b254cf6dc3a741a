theorem mRun_V {N : Nat} {pt sd : Int32} {g : mT} (hk : mV g.1) (h5 : N ≤ 5) : ∀ k, mV (mRun N pt sd g k).2.1
  | 0 => hk
  | k + 1 => mGoes_V (mRun_V hk h5 k) h5
theorem mRunG_V {N : Nat} {pt sd sd2 : Int32} {g sg : mT} {k : Nat} (hk : mV g.1) (h5 : N ≤ 5) (h : (sd2, sg) = mRun N pt sd g k) : mV sg.1 := by
  have := mRun_V (pt := pt) (sd := sd) hk h5 k
  rw [← h] at this
  exact this
