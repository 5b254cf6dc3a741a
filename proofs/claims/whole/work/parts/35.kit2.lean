/-! constructors: new cells -/
def zMc (l : Launch) (y : MethodName) (wsT : List Cond) (rm : Room) (D : va_G) (cA : ClassId) (ws : va_W) (av : List Value) {S : Type} (w2 : S → va_W) (mc ms : Nat) : Prop := ∀ sz : Nat, Met l y wsT rm (zPc D cA ws sz av) (va_Qv (fun _ : S => True) (zB D cA (va_A ws sz) w2) (va_A ws sz)) mc ms (va_A ws sz)
theorem z_oneA {D : va_G} {cl : List vw_C} {cA cB : ClassId} {s : State} (h : va_K D cl ([(cA, .int)] ++ [(cB, .int)]) s) : cB = cA := by
  have h1 := va_nm_int (h.2 0 (cA, .int) rfl).2
  have h2 := va_nm_int (h.2 1 (cB, .int) rfl).2
  rw [h1] at h2
  exact (Option.some.inj h2).symm
theorem z_enterc {l : Launch} {y : MethodName} {wsT ws' : List Cond} {rm : Room} {cc : ByteArray} {maxL : Nat} {D : va_G} {cA : ClassId} {ws : va_W} {av : List Value} {S : Type} {w2 : S → va_W} {mc ms : Nat}
    (hy : plainName y.cls = true) (hw : wsT = Cond.code y cc maxL none :: ws') (hlen : (lg_sl av).length ≤ maxL)
    (body : ∀ (p : Program) (e : Env) (s : State) (m : MethodId) (args : Array Value) (below : List Frame) (meth : Method) (c : Code) (ls : Array Slot) (A : Nat → Prop) (H0 H : Heap) (locs : List Loc) (Q : State → Prop), zIn p s m meth c cc y.cls none maxL wsT args → meth.name = y.name → (∀ q : Nat, H0.size ≤ q → A q) → va_K D vwCl [(cA, .int)] s → va_P D vwCl ws H → va_D A ws → va_S A H0 H locs → lv_has ls maxL (lv_args 0 av) →
      (∀ (u : S) (pc : Nat) (ls : Array Slot) (H : Heap) (locs : List Loc), decode cc pc = .ok (.return_, 1) → va_P D vwCl (w2 u) H → va_D A (w2 u) → va_S A H0 H locs → W p l e rm s m args below meth c H locs mc ms Q (F0 m pc ls [])) →
      W p l e rm s m args below meth c H locs 0 0 Q (F0 m 0 ls [])) :
    zMc l y wsT rm D cA ws av w2 mc ms := by
  intro sz
  refine Met.ofW (cc := cc) (maxL := maxL) (ret := none) hy hw ?_
  intro p e s m args below meth c s₁ B hml hv
  obtain ⟨rfl, hsz, hP, hK, hD0, hN⟩ := hv
  have hts := atoms_spec (ws := wsT) B.pre
  have hown : s.vm.findClass y.cls = some m.cls := findClass_of_methodNamed B.named
  have hin : meth.name = y.name := (name_of_methodNamed B.named B.method).1
  subst hsz
  rw [lg_entry_eq]
  exact body p e s m _ below meth c _ _ s.heap s.heap [] _ ⟨B.exec, B.bytes, B.returns, hml, hown, hts, B.notSynchronized, hN⟩ hin (fun q h => Or.inr h) hK hP hD0.self va_S.rf (lv_entry av hlen)
    (fun u pc ls H locs hdg hP hD hS => W.vret B.exec B.bytes B.returns (fun t ht hW => ⟨⟨u, rfl, trivial, by rw [ht]; exact hP, va_K.moved hW.alike hK, hD⟩, hS.F ht⟩) hS.2.2 hdg B.notSynchronized)
section ZCtor
variable {p : Program} {l : Launch} {e : Env} {R : Room} {s : State} {m : MethodId} {args : Array Value} {below : List Frame} {meth : Method} {c : Code} {H : Heap} {locs : List Loc} {cells slots : Nat} {Q : State → Prop}
theorem z_runI {cc : ByteArray} {nL : Nat} {Ts : List Cond} {own : String} {index maxL n mc ms : Nat} {y : MethodName} {bytes : ByteArray} {wsT : List Cond} {rm : Room} {D : va_G} {cA : ClassId} {ws wc : va_W} {A : Nat → Prop} {Qc : Array Value → State → Outcome → State → Prop} {b : Addr} {As rest st : List Value} {pc : Nat} {ls : Array Slot}
    (F : CallFix p m c cc nL s args Ts own) (hM : Met l y wsT rm (zPc D cA wc H.size (.ref b :: As)) Qc mc ms (va_A wc H.size)) (cw : CallB R s args own index y bytes maxL none wsT rm mc ms n ∧ y.name = "<init>" ∧ (Cond.instanceMethod y).before args s = true) (hK : va_K D vwCl [(cA, .int)] s) (hP : va_P D vwCl ws H) (hD : va_D A ws) (hN : zN s) (isC : List Nat) (hC : isC.map (fun i => ws[i]?) = wc.map some) (hnC : va_nd isC = true)
    (hn : As.length = n) (hl : ls.size = nL) (hst : st = As.reverse ++ .ref b :: rest) (hW : (rest.map fun v => v.category).sum ≤ 8) (hdg : decode cc pc = .ok (.invokespecial index, 3)) (hf : cells + mc ≤ R.cells ∧ slots + ms ≤ R.slots) :
    va_Run p l e R s m args below meth c H locs cells slots mc ms (F0 m pc ls st) rest (Qc (Value.ref b :: As).toArray) (va_A wc H.size) :=
  va_runI F hM cw ⟨z_blind, z_preU hK hP hD hN isC hC hnC _⟩ rfl hn hl hst (lv_room (m := m) (pc := pc) (ls := ls) (rest := st) hW) hdg hf
theorem z_runIN {cc : ByteArray} {nL : Nat} {Ts : List Cond} {own host : String} {index maxL n mc ms : Nat} {y : MethodName} {bytes : ByteArray} {wsT : List Cond} {rm : Room} {D : va_G} {cA : ClassId} {ws wc : va_W} {A : Nat → Prop} {Qc : Array Value → State → Outcome → State → Prop} {b : Addr} {As rest st : List Value} {pc : Nat} {ls : Array Slot}
    (F : CallFix p m c cc nL s args Ts own) (hM : Met l y wsT rm (zPc D cA wc H.size (.ref b :: As)) Qc mc ms (va_A wc H.size)) (cw : va_CN R s args own index y host bytes maxL none wsT rm mc ms n ∧ y.name = "<init>" ∧ (Cond.instanceMethod y).before args s = true) (hK : va_K D vwCl [(cA, .int)] s) (hP : va_P D vwCl ws H) (hD : va_D A ws) (hN : zN s) (isC : List Nat) (hC : isC.map (fun i => ws[i]?) = wc.map some) (hnC : va_nd isC = true)
    (hn : As.length = n) (hl : ls.size = nL) (hst : st = As.reverse ++ .ref b :: rest) (hW : (rest.map fun v => v.category).sum ≤ 8) (hdg : decode cc pc = .ok (.invokespecial index, 3)) (hf : cells + mc ≤ R.cells ∧ slots + ms ≤ R.slots) :
    va_Run p l e R s m args below meth c H locs cells slots mc ms (F0 m pc ls st) rest (Qc (Value.ref b :: As).toArray) (va_A wc H.size) :=
  va_runIN F hM cw ⟨z_blind, z_preU hK hP hD hN isC hC hnC _⟩ rfl hn hl hst (lv_room (m := m) (pc := pc) (ls := ls) (rest := st) hW) hdg hf
theorem z_bwc {S : Type} {mc ms : Nat} {w2 ws' : S → va_W} {D : va_G} {cA : ClassId} {ws wc wr : va_W} {A : Nat → Prop} {H0 : Heap} {a : Array Value} {pc : Nat} {ls : Array Slot} {st rest : List Value} (hr : va_Run p l e R s m args below meth c H locs cells slots mc ms (F0 m pc ls st) rest (va_Qv (fun _ : S => True) (zB D cA (va_A wc H.size) w2) (va_A wc H.size) a) (va_A wc H.size))
    (hP : va_P D vwCl ws H) (hD : va_D A ws) (hS : va_S A H0 H locs) (hA : ∀ q, H0.size ≤ q → A q) (isC isR isP : List Nat) (hC : isC.map (fun i => ws[i]?) = wc.map some) (hR : isR.map (fun i => ws[i]?) = wr.map some) (hn : va_nd isR = true) (hdis : ∀ i ∈ isR, i ∉ isC) (hnP : va_nd isP = true) (hp : ∀ u, isP.map (fun i => (wr ++ w2 u)[i]?) = (ws' u).map some)
    (kk : ∀ (u : S) (H1 : Heap) (locs1 : List Loc), va_P D vwCl (ws' u) H1 → va_D A (ws' u) → va_S A H0 H1 locs1 → W p l e R s m args below meth c H1 locs1 (cells + mc) (slots + ms) Q (F0 m (pc + 3) ls rest)) : W p l e R s m args below meth c H locs cells slots Q (F0 m pc ls st) := by
  have hFc := va_free (wc := wc) hD hS hA isC hC
  refine va_callv hr hS (fun q _ h => hFc q h) hFc (fun u t H1 locs1 ht hvm hw hB hz1 hk1 hS1 => ?_)
  obtain ⟨hP1, hK1, hD1⟩ := hB
  rw [ht] at hP1
  obtain ⟨hP2, hD2⟩ := va_join (wr := wr) (w1 := w2 u) hP hD isC isR hC hR hn hdis hk1 hFc hP1 hD1
  exact kk u H1 locs1 (hP2.sub isP (z_fm _ _ _ (hp u))) (hD2.sub isP hnP (hp u)) hS1
theorem z_newa {cc : ByteArray} {D : va_G} {cA : ClassId} {ws : va_W} {A : Nat → Prop} {H0 : Heap} {pc : Nat} {ls : Array Slot} {rest : List Value} (hx : p.tables.exec = Jvm.exec) (hb : c.code = cc) (harr : (Cond.arrayClass .int).before args s = true) (hK : va_K D vwCl [(cA, .int)] s) (hP : va_P D vwCl ws H) (hD : va_D A ws) (hS : va_S A H0 H locs) (hA : ∀ q, H0.size ≤ q → A q)
    {n : Int32} (N : Nat) (hn : ¬ n < 0) (hN : n.toNatClampNeg = N) (hb2 : N * 4 ≤ 536870912) (hcells : cells + 1 ≤ R.cells) (hslots : slots + N ≤ R.slots) (hdg : decode cc pc = .ok (.newarray .int, 2))
    (kk : ∀ (q : Nat) (H1 : Heap), va_P D vwCl (ws ++ [(q, .inl (cA, N, .inl (fun _ => 0)))]) H1 → va_D A (ws ++ [(q, .inl (cA, N, .inl (fun _ => 0)))]) → va_S A H0 H1 locs → W p l e R s m args below meth c H1 locs (cells + 1) (slots + N) Q (F0 m (pc + 2) ls (.ref q :: rest))) : W p l e R s m args below meth c H locs cells slots Q (F0 m pc ls (.int n :: rest)) := by
  refine va_newa (atype := .int) (ty := .int) (a0 := (N, .inl (fun _ => 0))) hx hb harr rfl hK hP hD hS hA (fun _ => rfl) hn hN hb2 hcells hslots hdg (fun q cB H1 hK2 hP2 hD2 hS2 => ?_)
  have e := z_oneA hK2
  subst e
  exact kk q H1 hP2 hD2 hS2
end ZCtor
theorem z_cA {s : State} {args : Array Value} (h : (Cond.arrayClass .int).before args s = true) : ∃ cA : ClassId, ArrOfT s cA .int ∧ va_RA s cA .int := by
  obtain ⟨cA, kA, comp, h1, h2, h3⟩ := Cond.arrayClass_spec h
  exact ⟨cA, fun n z => ⟨fun k h => (by cases h), kA, h2, comp, h3⟩, h1⟩
