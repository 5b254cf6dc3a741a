/-! own helpers: links of nest mates, contracts over worlds, calls that put the world back in its order -/
def zNl : List Cond := [.fieldLinkNest "HeardSecond$Bench" 18 "HeardSecond$Page" "length" "I" "HeardSecond", .fieldLinkNest "HeardSecond" 53 "HeardSecond$Page" "length" "I" "HeardSecond", .fieldLinkNest "HeardSecond" 78 "HeardSecond$Bench" "seats" "I" "HeardSecond", .fieldLinkNest "HeardSecond$Trial" 94 "HeardSecond$Bench" "patience" "I" "HeardSecond", .fieldLinkNest "HeardSecond" 181 "HeardSecond$Bench" "patience" "I" "HeardSecond", .fieldLinkNest "HeardSecond$Outlook" 90 "HeardSecond$Trial" "last" "I" "HeardSecond", .fieldLinkNest "HeardSecond" 99 "HeardSecond$Trial" "last" "I" "HeardSecond", .fieldLinkNest "HeardSecond$Outlook" 87 "HeardSecond$Trial" "believed" "I" "HeardSecond", .fieldLinkNest "HeardSecond" 184 "HeardSecond$Trial" "believed" "I" "HeardSecond", .fieldLinkNest "HeardSecond$Outlook" 44 "HeardSecond$Trial" "out" "I" "HeardSecond", .fieldLinkNest "HeardSecond" 92 "HeardSecond$Trial" "out" "I" "HeardSecond", .fieldLinkNest "HeardSecond" 187 "HeardSecond$Trial" "silence" "I" "HeardSecond", .fieldLinkNest "HeardSecond" 172 "HeardSecond$Trial" "ended" "I" "HeardSecond", .fieldLinkNest "HeardSecond" 175 "HeardSecond$Trial" "wonBy0" "I" "HeardSecond", .fieldLinkNest "HeardSecond" 190 "HeardSecond$Trial" "wonBy1" "I" "HeardSecond", .fieldLinkNest "HeardSecond" 178 "HeardSecond$Trial" "breaths" "I" "HeardSecond", .fieldLinkNest "HeardSecond" 106 "HeardSecond$Trial" "words" "[I" "HeardSecond", .fieldLinkNest "HeardSecond" 145 "HeardSecond$Trial" "told" "I" "HeardSecond",
  .methodLinkNest "HeardSecond" 9 ⟨"HeardSecond$Page", "<init>", "()V"⟩ "HeardSecond", .methodLinkNest "HeardSecond" 18 ⟨"HeardSecond$Bench", "<init>", "()V"⟩ "HeardSecond", .methodLinkNest "HeardSecond" 25 ⟨"HeardSecond$Trial", "<init>", "()V"⟩ "HeardSecond", .methodLinkNest "HeardSecond$Page" 19 ⟨"HeardSecond", "put", "([III)V"⟩ "HeardSecond", .methodLinkNest "HeardSecond$Page" 23 ⟨"HeardSecond", "at", "([II)I"⟩ "HeardSecond", .methodLinkNest "HeardSecond$Bench" 40 ⟨"HeardSecond", "put", "([III)V"⟩ "HeardSecond", .methodLinkNest "HeardSecond$Trial" 46 ⟨"HeardSecond", "fill", "([II)V"⟩ "HeardSecond", .methodLinkNest "HeardSecond$Bench" 54 ⟨"HeardSecond", "isIn", "(II)Z"⟩ "HeardSecond", .methodLinkNest "HeardSecond$Outlook" 64 ⟨"HeardSecond", "put", "([III)V"⟩ "HeardSecond", .methodLinkNest "HeardSecond$Outlook" 74 ⟨"HeardSecond", "fill", "([II)V"⟩ "HeardSecond", .methodLinkNest "HeardSecond$Outlook" 93 ⟨"HeardSecond", "at", "([II)I"⟩ "HeardSecond", .methodLinkNest "HeardSecond$Trial" 60 ⟨"HeardSecond", "isIn", "(II)Z"⟩ "HeardSecond", .methodLinkNest "HeardSecond$Trial" 78 ⟨"HeardSecond", "at", "([II)I"⟩ "HeardSecond", .methodLinkNest "HeardSecond$Trial" 82 ⟨"HeardSecond", "put", "([III)V"⟩ "HeardSecond", .methodLinkNest "HeardSecond$Outlook" 126 ⟨"HeardSecond", "copy", "([I[I)V"⟩ "HeardSecond", .methodLinkNest "HeardSecond$Trial" 56 ⟨"HeardSecond", "copy", "([I[I)V"⟩ "HeardSecond"]
def zN (U : State) : Prop := ∀ w ∈ zNl, va_Nw w U
theorem zNl_on : ∀ w ∈ zNl, w.onTables = true := by
  intro w hw
  have h : zNl.all Cond.onTables = true := by rfl
  exact List.all_eq_true.mp h w hw
theorem zN.vm {u U : State} (e : u.vm = U.vm) (h : zN u) : zN U := fun w hw => va_Nw.same (zNl_on w hw) e (h w hw)
theorem zN.warm {s U : State} (hW : s.WarmedH U.vm) (h : zN s) : zN U := by
  intro w hw
  have h1 := h w hw
  simp only [zNl, List.mem_cons, List.not_mem_nil, or_false] at hw
  rcases hw with rfl | rfl | rfl | rfl | rfl | rfl | rfl | rfl | rfl | rfl | rfl | rfl | rfl | rfl | rfl | rfl | rfl | rfl | rfl | rfl | rfl | rfl | rfl | rfl | rfl | rfl | rfl | rfl | rfl | rfl | rfl | rfl | rfl | rfl <;> first | exact va_Nw.warmF hW h1 | exact va_Nw.warmM hW h1
theorem zN.get {U : State} (h : zN U) (i : Nat) {w : Cond} (hi : zNl[i]? = some w) : va_Nw w U := h w (List.mem_of_getElem? hi)
theorem zN.getb {U : State} (h : zN U) (i : Nat) {w : Cond} (hi : zNl[i]? = some w) {A : Array Value} : w.before A U = true := va_Nw.use (zNl_on w (List.mem_of_getElem? hi)) (h w (List.mem_of_getElem? hi))
-- contracts
def zPc (D : va_G) (cA : ClassId) (ws : va_W) (sz : Nat) (av : List Value) : Array Value → State → Prop := va_Pc av (fun U => U.heap.size = sz ∧ va_P D vwCl ws U.heap ∧ va_K D vwCl [(cA, .int)] U ∧ va_D (fun _ => True) ws ∧ zN U)
def zB {S : Type} (D : va_G) (cA : ClassId) (A : Nat → Prop) (w2 : S → va_W) (u : S) (t : State) : Prop := va_P D vwCl (w2 u) t.heap ∧ va_K D vwCl [(cA, .int)] t ∧ va_D A (w2 u)
def zMi (l : Launch) (y : MethodName) (wsT : List Cond) (rm : Room) (D : va_G) (cA : ClassId) (ws : va_W) (av : List Value) {S : Type} (post : Int32 → S → Prop) (w2 : S → va_W) : Prop := ∀ sz : Nat, Met l y wsT rm (zPc D cA ws sz av) (va_Qi post (zB D cA (va_A ws sz) w2) (va_A ws sz)) 0 0 (va_A ws sz)
def zMl (l : Launch) (y : MethodName) (wsT : List Cond) (rm : Room) (D : va_G) (cA : ClassId) (ws : va_W) (av : List Value) {S : Type} (post : Int64 → S → Prop) (w2 : S → va_W) : Prop := ∀ sz : Nat, Met l y wsT rm (zPc D cA ws sz av) (va_Ql post (zB D cA (va_A ws sz) w2) (va_A ws sz)) 0 0 (va_A ws sz)
def zMv (l : Launch) (y : MethodName) (wsT : List Cond) (rm : Room) (D : va_G) (cA : ClassId) (ws : va_W) (av : List Value) {S : Type} (post : S → Prop) (w2 : S → va_W) : Prop := ∀ sz : Nat, Met l y wsT rm (zPc D cA ws sz av) (va_Qv post (zB D cA (va_A ws sz) w2) (va_A ws sz)) 0 0 (va_A ws sz)
theorem z_blind {D : va_G} {cA : ClassId} {ws : va_W} {sz : Nat} {av : List Value} : FrameBlind (zPc D cA ws sz av) := fun a U g mk q => by
  obtain ⟨q0, q1, qP, qK, qD, qN⟩ := q
  exact ⟨q0, q1, qP, va_K.moved (u := U) (U := U.calling g mk a) (Vm.Alike.refl U.vm) qK, qD, zN.vm (u := U) rfl qN⟩
theorem z_fm {α β : Type} (f : α → Option β) : ∀ (l : List α) (w : List β), l.map f = w.map some → l.filterMap f = w
  | [], [], _ => rfl
  | [], _ :: _, h => by simp at h
  | _ :: _, [], h => by simp at h
  | a :: l, b :: w, h => by
    simp only [List.map_cons, List.cons.injEq] at h
    simp only [List.filterMap_cons, h.1, z_fm f l w h.2]
theorem z_at {ws wc : va_W} {isC : List Nat} (hC : isC.map (fun i => ws[i]?) = wc.map some) {k : Nat} {q : Nat × va_E} (hq : wc[k]? = some q) : ∃ i, isC[k]? = some i ∧ ws[i]? = some q := by
  have h1 : (isC.map (fun i => ws[i]?))[k]? = some (some q) := by rw [hC, List.getElem?_map, hq]; rfl
  rw [List.getElem?_map] at h1
  cases hi : isC[k]? with
  | none => rw [hi] at h1; cases h1
  | some i => rw [hi] at h1; exact ⟨i, rfl, Option.some.inj h1⟩
/-- an array's row, said otherwise below its length -/
theorem z_cell {cA : ClassId} {n : Nat} {f g : Nat → Int32} (h : ∀ j, j < n → f j = g j) : vp_cell cA (n, .inl f) = vp_cell cA (n, .inl g) := by
  show arrV cA n (fun j => .int (f j)) = arrV cA n (fun j => .int (g j))
  unfold arrV
  congr 1
  refine Array.ext (by simp) (fun i h1 h2 => ?_)
  simp only [Array.getElem_ofFn]
  rw [h i (by simpa using h1)]
theorem z_arrP {D : va_G} {cl : List vw_C} {ws ws' : va_W} {H : Heap} (hP : va_P D cl ws H) (k0 : Nat) {a : Nat} {cA : ClassId} {n : Nat} {f g : Nat → Int32} (hk : ws[k0]? = some (a, .inl (cA, n, .inl f))) (h : ∀ j, j < n → f j = g j) (hs : ws.set k0 (a, .inl (cA, n, .inl g)) = ws') : va_P D cl ws' H := by
  subst hs
  intro k q hq
  rw [List.getElem?_set] at hq
  by_cases e : k0 = k
  · subst e
    have hlt : k0 < ws.length := (List.getElem?_eq_some_iff.mp hk).1
    rw [if_pos rfl, if_pos hlt] at hq
    cases hq
    have h1 : H[a]? = some (vp_cell cA (n, .inl f)) := hP k0 _ hk
    show H[a]? = some (vp_cell cA (n, .inl g))
    rw [h1, z_cell h]
  · rw [if_neg e] at hq
    exact hP k q hq
theorem z_arrD {A : Nat → Prop} {ws ws' : va_W} (hD : va_D A ws) (k0 : Nat) {a : Nat} {e0 e : va_E} (hk : ws[k0]? = some (a, e0)) (hs : ws.set k0 (a, e) = ws') : va_D A ws' := by
  subst hs
  exact hD.set hk
-- runs of calls
section ZRun
variable {p : Program} {l : Launch} {e : Env} {R : Room} {s : State} {m : MethodId} {args : Array Value} {below : List Frame} {meth : Method} {c : Code} {H : Heap} {locs : List Loc} {cells slots : Nat} {Q : State → Prop}
theorem z_preU {D : va_G} {cA : ClassId} {ws wc : va_W} {A : Nat → Prop} (hK : va_K D vwCl [(cA, .int)] s) (hP : va_P D vwCl ws H) (hD : va_D A ws) (hN : zN s) (isC : List Nat) (hC : isC.map (fun i => ws[i]?) = wc.map some) (hn : va_nd isC = true) (av : List Value) : ∀ U : State, U.heap = H → s.WarmedH U.vm → zPc D cA wc H.size av av.toArray U :=
  fun U hU hW => ⟨rfl, by rw [hU], by rw [hU]; exact hP.sub isC (z_fm _ _ _ hC), va_K.moved hW.alike hK, (hD.sub isC hn hC).weaken (fun _ _ _ _ => trivial), hN.warm hW⟩
theorem z_runV {cc : ByteArray} {nL : Nat} {Ts : List Cond} {own C : String} {index maxL n ci : Nat} {y : MethodName} {bytes : ByteArray} {ret : Option FieldType} {wsT : List Cond} {rm : Room} {D : va_G} {cA : ClassId} {ws wc : va_W} {A : Nat → Prop} {Qc : Array Value → State → Outcome → State → Prop} {b : Addr} {As rest st : List Value} {pc : Nat} {ls : Array Slot} {T : u_T} {N : Nat} {fs : List Value}
    (F : CallFix p m c cc nL s args Ts own) (hM : Met l y wsT rm (zPc D cA wc H.size (.ref b :: As)) Qc 0 0 (va_A wc H.size)) (cw : CallW R s args own C index y bytes maxL ret wsT rm 0 0 n) (hK : va_K D vwCl [(cA, .int)] s) (hP : va_P D vwCl ws H) (hD : va_D A ws) (hN : zN s) (isC : List Nat) (hC : isC.map (fun i => ws[i]?) = wc.map some) (hnC : va_nd isC = true)
    (hc : vwCl[ci]? = some (C, T, N)) (he : wc[0]? = some (b, .inr (ci, fs))) (hn : As.length = n) (hl : ls.size = nL) (hst : st = As.reverse ++ .ref b :: rest) (hW : (rest.map fun v => v.category).sum ≤ 8) (hdg : decode cc pc = .ok (.invokevirtual index, 3)) (hf : cells ≤ R.cells ∧ slots ≤ R.slots) :
    va_Run p l e R s m args below meth c H locs cells slots 0 0 (F0 m pc ls st) rest (Qc (Value.ref b :: As).toArray) (va_A wc H.size) :=
  va_runV F hM cw ⟨z_blind, va_recv hK (hP.sub isC (z_fm _ _ _ hC)) hc he, z_preU hK hP hD hN isC hC hnC _⟩ rfl hn hl hst (lv_room (m := m) (pc := pc) (ls := ls) (rest := st) hW) hdg hf
theorem z_runS {cc : ByteArray} {nL : Nat} {Ts : List Cond} {own : String} {index maxL n : Nat} {y : MethodName} {bytes : ByteArray} {ret : Option FieldType} {wsT : List Cond} {rm : Room} {D : va_G} {cA : ClassId} {ws wc : va_W} {A : Nat → Prop} {Qc : Array Value → State → Outcome → State → Prop} {As rest st : List Value} {pc : Nat} {ls : Array Slot}
    (F : CallFix p m c cc nL s args Ts own) (hM : Met l y wsT rm (zPc D cA wc H.size As) Qc 0 0 (va_A wc H.size)) (cw : CallB R s args own index y bytes maxL ret wsT rm 0 0 n ∧ (Cond.static y).before args s = true) (hK : va_K D vwCl [(cA, .int)] s) (hP : va_P D vwCl ws H) (hD : va_D A ws) (hN : zN s) (isC : List Nat) (hC : isC.map (fun i => ws[i]?) = wc.map some) (hnC : va_nd isC = true)
    (hn : As.length = n) (hl : ls.size = nL) (hst : st = As.reverse ++ rest) (hW : (rest.map fun v => v.category).sum ≤ 8) (hdg : decode cc pc = .ok (.invokestatic index, 3)) (hf : cells ≤ R.cells ∧ slots ≤ R.slots) :
    va_Run p l e R s m args below meth c H locs cells slots 0 0 (F0 m pc ls st) rest (Qc As.toArray) (va_A wc H.size) :=
  va_runS F hM cw ⟨z_blind, z_preU hK hP hD hN isC hC hnC _⟩ rfl hn hl hst (lv_room (m := m) (pc := pc) (ls := ls) (rest := st) hW) hdg hf
theorem z_runSN {cc : ByteArray} {nL : Nat} {Ts : List Cond} {own host : String} {index maxL n : Nat} {y : MethodName} {bytes : ByteArray} {ret : Option FieldType} {wsT : List Cond} {rm : Room} {D : va_G} {cA : ClassId} {ws wc : va_W} {A : Nat → Prop} {Qc : Array Value → State → Outcome → State → Prop} {As rest st : List Value} {pc : Nat} {ls : Array Slot}
    (F : CallFix p m c cc nL s args Ts own) (hM : Met l y wsT rm (zPc D cA wc H.size As) Qc 0 0 (va_A wc H.size)) (cw : va_CN R s args own index y host bytes maxL ret wsT rm 0 0 n) (hst2 : (Cond.static y).before args s = true) (hK : va_K D vwCl [(cA, .int)] s) (hP : va_P D vwCl ws H) (hD : va_D A ws) (hN : zN s) (isC : List Nat) (hC : isC.map (fun i => ws[i]?) = wc.map some) (hnC : va_nd isC = true)
    (hn : As.length = n) (hl : ls.size = nL) (hst : st = As.reverse ++ rest) (hW : (rest.map fun v => v.category).sum ≤ 8) (hdg : decode cc pc = .ok (.invokestatic index, 3)) (hf : cells ≤ R.cells ∧ slots ≤ R.slots) :
    va_Run p l e R s m args below meth c H locs cells slots 0 0 (F0 m pc ls st) rest (Qc As.toArray) (va_A wc H.size) :=
  va_runSN F hM ⟨cw, hst2, trivial⟩ ⟨z_blind, z_preU hK hP hD hN isC hC hnC _⟩ rfl hn hl hst (lv_room (m := m) (pc := pc) (ls := ls) (rest := st) hW) hdg hf
/-- behind a call that leaves its cells as they were: the world stands in its order -/
theorem z_ro {D : va_G} {ws wc : va_W} {A : Nat → Prop} {H1 : Heap} (hP : va_P D vwCl ws H) (hD : va_D A ws) (isC : List Nat) (hC : isC.map (fun i => ws[i]?) = wc.map some) (hk1 : ∀ q : Nat, q < H.size → ¬ va_A wc H.size q → H1[q]? = H[q]?) (hP1 : va_P D vwCl wc H1) : va_P D vwCl ws H1 := by
  intro k q hk
  by_cases hq : va_A wc H.size q.1
  · rcases hq with ⟨k2, e2, h2⟩ | h2
    · obtain ⟨i, hi, hw⟩ := z_at hC h2
      have hik : i = k := hD.1 i k _ _ hw hk rfl
      subst hik
      rw [hk] at hw
      have h3 := hP1 k2 _ h2
      rw [← Option.some.inj hw] at h3
      exact h3
    · exact absurd (hP k q hk).lt (Nat.not_lt.mpr h2)
  · exact (hP k q hk).kept (hk1 q.1 (hP k q hk).lt hq)
theorem z_bri {S : Type} {post : Int32 → S → Prop} {D : va_G} {cA : ClassId} {ws wc : va_W} {A : Nat → Prop} {H0 : Heap} {a : Array Value} {pc : Nat} {ls : Array Slot} {st rest : List Value} (hr : va_Run p l e R s m args below meth c H locs cells slots 0 0 (F0 m pc ls st) rest (va_Qi post (zB D cA (va_A wc H.size) (fun _ : S => wc)) (va_A wc H.size) a) (va_A wc H.size))
    (hP : va_P D vwCl ws H) (hD : va_D A ws) (hS : va_S A H0 H locs) (hA : ∀ q, H0.size ≤ q → A q) (isC : List Nat) (hC : isC.map (fun i => ws[i]?) = wc.map some)
    (kk : ∀ (r : Int32) (u : S) (H1 : Heap) (locs1 : List Loc), post r u → va_P D vwCl ws H1 → va_S A H0 H1 locs1 → W p l e R s m args below meth c H1 locs1 cells slots Q (F0 m (pc + 3) ls (.int r :: rest))) : W p l e R s m args below meth c H locs cells slots Q (F0 m pc ls st) := by
  have hFc := va_free (wc := wc) hD hS hA isC hC
  refine va_calli hr hS (fun q _ h => hFc q h) hFc (fun r u t H1 locs1 ht hvm hw hB hz1 hk1 hS1 => ?_)
  obtain ⟨hP1, hK1, hD1⟩ := hB
  rw [ht] at hP1
  exact kk r u H1 locs1 hw (z_ro hP hD isC hC hk1 hP1) hS1
theorem z_bwi {S : Type} {post : Int32 → S → Prop} {w2 ws' : S → va_W} {D : va_G} {cA : ClassId} {ws wc wr : va_W} {A : Nat → Prop} {H0 : Heap} {a : Array Value} {pc : Nat} {ls : Array Slot} {st rest : List Value} (hr : va_Run p l e R s m args below meth c H locs cells slots 0 0 (F0 m pc ls st) rest (va_Qi post (zB D cA (va_A wc H.size) w2) (va_A wc H.size) a) (va_A wc H.size))
    (hP : va_P D vwCl ws H) (hD : va_D A ws) (hS : va_S A H0 H locs) (hA : ∀ q, H0.size ≤ q → A q) (isC isR isP : List Nat) (hC : isC.map (fun i => ws[i]?) = wc.map some) (hR : isR.map (fun i => ws[i]?) = wr.map some) (hn : va_nd isR = true) (hdis : ∀ i ∈ isR, i ∉ isC) (hnP : va_nd isP = true) (hp : ∀ u, isP.map (fun i => (wr ++ w2 u)[i]?) = (ws' u).map some)
    (kk : ∀ (r : Int32) (u : S) (H1 : Heap) (locs1 : List Loc), post r u → va_P D vwCl (ws' u) H1 → va_D A (ws' u) → va_S A H0 H1 locs1 → W p l e R s m args below meth c H1 locs1 cells slots Q (F0 m (pc + 3) ls (.int r :: rest))) : W p l e R s m args below meth c H locs cells slots Q (F0 m pc ls st) := by
  have hFc := va_free (wc := wc) hD hS hA isC hC
  refine va_calli hr hS (fun q _ h => hFc q h) hFc (fun r u t H1 locs1 ht hvm hw hB hz1 hk1 hS1 => ?_)
  obtain ⟨hP1, hK1, hD1⟩ := hB
  rw [ht] at hP1
  obtain ⟨hP2, hD2⟩ := va_join (wr := wr) (w1 := w2 u) hP hD isC isR hC hR hn hdis hk1 hFc hP1 hD1
  exact kk r u H1 locs1 hw (hP2.sub isP (z_fm _ _ _ (hp u))) (hD2.sub isP hnP (hp u)) hS1
theorem z_brl {S : Type} {post : Int64 → S → Prop} {D : va_G} {cA : ClassId} {ws wc : va_W} {A : Nat → Prop} {H0 : Heap} {a : Array Value} {pc : Nat} {ls : Array Slot} {st rest : List Value} (hr : va_Run p l e R s m args below meth c H locs cells slots 0 0 (F0 m pc ls st) rest (va_Ql post (zB D cA (va_A wc H.size) (fun _ : S => wc)) (va_A wc H.size) a) (va_A wc H.size))
    (hP : va_P D vwCl ws H) (hD : va_D A ws) (hS : va_S A H0 H locs) (hA : ∀ q, H0.size ≤ q → A q) (isC : List Nat) (hC : isC.map (fun i => ws[i]?) = wc.map some)
    (kk : ∀ (r : Int64) (u : S) (H1 : Heap) (locs1 : List Loc), post r u → va_P D vwCl ws H1 → va_S A H0 H1 locs1 → W p l e R s m args below meth c H1 locs1 cells slots Q (F0 m (pc + 3) ls (.long r :: rest))) : W p l e R s m args below meth c H locs cells slots Q (F0 m pc ls st) := by
  have hFc := va_free (wc := wc) hD hS hA isC hC
  refine va_calll hr hS (fun q _ h => hFc q h) hFc (fun r u t H1 locs1 ht hvm hw hB hz1 hk1 hS1 => ?_)
  obtain ⟨hP1, hK1, hD1⟩ := hB
  rw [ht] at hP1
  exact kk r u H1 locs1 hw (z_ro hP hD isC hC hk1 hP1) hS1
theorem z_bwl {S : Type} {post : Int64 → S → Prop} {w2 ws' : S → va_W} {D : va_G} {cA : ClassId} {ws wc wr : va_W} {A : Nat → Prop} {H0 : Heap} {a : Array Value} {pc : Nat} {ls : Array Slot} {st rest : List Value} (hr : va_Run p l e R s m args below meth c H locs cells slots 0 0 (F0 m pc ls st) rest (va_Ql post (zB D cA (va_A wc H.size) w2) (va_A wc H.size) a) (va_A wc H.size))
    (hP : va_P D vwCl ws H) (hD : va_D A ws) (hS : va_S A H0 H locs) (hA : ∀ q, H0.size ≤ q → A q) (isC isR isP : List Nat) (hC : isC.map (fun i => ws[i]?) = wc.map some) (hR : isR.map (fun i => ws[i]?) = wr.map some) (hn : va_nd isR = true) (hdis : ∀ i ∈ isR, i ∉ isC) (hnP : va_nd isP = true) (hp : ∀ u, isP.map (fun i => (wr ++ w2 u)[i]?) = (ws' u).map some)
    (kk : ∀ (r : Int64) (u : S) (H1 : Heap) (locs1 : List Loc), post r u → va_P D vwCl (ws' u) H1 → va_D A (ws' u) → va_S A H0 H1 locs1 → W p l e R s m args below meth c H1 locs1 cells slots Q (F0 m (pc + 3) ls (.long r :: rest))) : W p l e R s m args below meth c H locs cells slots Q (F0 m pc ls st) := by
  have hFc := va_free (wc := wc) hD hS hA isC hC
  refine va_calll hr hS (fun q _ h => hFc q h) hFc (fun r u t H1 locs1 ht hvm hw hB hz1 hk1 hS1 => ?_)
  obtain ⟨hP1, hK1, hD1⟩ := hB
  rw [ht] at hP1
  obtain ⟨hP2, hD2⟩ := va_join (wr := wr) (w1 := w2 u) hP hD isC isR hC hR hn hdis hk1 hFc hP1 hD1
  exact kk r u H1 locs1 hw (hP2.sub isP (z_fm _ _ _ (hp u))) (hD2.sub isP hnP (hp u)) hS1
theorem z_bwv {S : Type} {post : S → Prop} {w2 ws' : S → va_W} {D : va_G} {cA : ClassId} {ws wc wr : va_W} {A : Nat → Prop} {H0 : Heap} {a : Array Value} {pc : Nat} {ls : Array Slot} {st rest : List Value} (hr : va_Run p l e R s m args below meth c H locs cells slots 0 0 (F0 m pc ls st) rest (va_Qv post (zB D cA (va_A wc H.size) w2) (va_A wc H.size) a) (va_A wc H.size))
    (hP : va_P D vwCl ws H) (hD : va_D A ws) (hS : va_S A H0 H locs) (hA : ∀ q, H0.size ≤ q → A q) (isC isR isP : List Nat) (hC : isC.map (fun i => ws[i]?) = wc.map some) (hR : isR.map (fun i => ws[i]?) = wr.map some) (hn : va_nd isR = true) (hdis : ∀ i ∈ isR, i ∉ isC) (hnP : va_nd isP = true) (hp : ∀ u, isP.map (fun i => (wr ++ w2 u)[i]?) = (ws' u).map some)
    (kk : ∀ (u : S) (H1 : Heap) (locs1 : List Loc), post u → va_P D vwCl (ws' u) H1 → va_D A (ws' u) → va_S A H0 H1 locs1 → W p l e R s m args below meth c H1 locs1 cells slots Q (F0 m (pc + 3) ls rest)) : W p l e R s m args below meth c H locs cells slots Q (F0 m pc ls st) := by
  have hFc := va_free (wc := wc) hD hS hA isC hC
  refine va_callv hr hS (fun q _ h => hFc q h) hFc (fun u t H1 locs1 ht hvm hw hB hz1 hk1 hS1 => ?_)
  obtain ⟨hP1, hK1, hD1⟩ := hB
  rw [ht] at hP1
  obtain ⟨hP2, hD2⟩ := va_join (wr := wr) (w1 := w2 u) hP hD isC isR hC hR hn hdis hk1 hFc hP1 hD1
  exact kk u H1 locs1 hw (hP2.sub isP (z_fm _ _ _ (hp u))) (hD2.sub isP hnP (hp u)) hS1
-- ends
theorem z_iret {S : Type} {post : Int32 → S → Prop} {w2 : S → va_W} {D : va_G} {cA : ClassId} {A : Nat → Prop} {cc : ByteArray} {ty : FieldType} {v : Int32} {pc : Nat} {ls : Array Slot} (u : S) (hx : p.tables.exec = Jvm.exec) (hb : c.code = cc) (hr : meth.sig.returnType = some ty) (hn : narrow ty (.int v) = .int v) (hlocks : meth.locks = false) (hK : va_K D vwCl [(cA, .int)] s) (hP : va_P D vwCl (w2 u) H) (hD : va_D A (w2 u)) (hS : va_S A s.heap H locs) (hpost : post v u) (hdg : decode cc pc = .ok (.ireturn, 1)) :
    W p l e R s m args below meth c H locs cells slots (MQ below (va_Qi post (zB D cA A w2) A) args s cells slots A) (F0 m pc ls [.int v]) :=
  W.zret hx hb hr hn (fun t ht hW => ⟨⟨v, u, rfl, hpost, by rw [ht]; exact hP, va_K.moved hW.alike hK, hD⟩, hS.F ht⟩) hS.2.2 hdg hlocks
theorem z_lret {S : Type} {post : Int64 → S → Prop} {w2 : S → va_W} {D : va_G} {cA : ClassId} {A : Nat → Prop} {cc : ByteArray} {v : Int64} {pc : Nat} {ls : Array Slot} (u : S) (hx : p.tables.exec = Jvm.exec) (hb : c.code = cc) (hr : meth.sig.returnType = some .long) (hlocks : meth.locks = false) (hK : va_K D vwCl [(cA, .int)] s) (hP : va_P D vwCl (w2 u) H) (hD : va_D A (w2 u)) (hS : va_S A s.heap H locs) (hpost : post v u) (hdg : decode cc pc = .ok (.lreturn, 1)) :
    W p l e R s m args below meth c H locs cells slots (MQ below (va_Ql post (zB D cA A w2) A) args s cells slots A) (F0 m pc ls [.long v]) :=
  W.lret hx hb hr (fun t ht hW => ⟨⟨v, u, rfl, hpost, by rw [ht]; exact hP, va_K.moved hW.alike hK, hD⟩, hS.F ht⟩) hS.2.2 hdg hlocks
theorem z_vret {S : Type} {post : S → Prop} {w2 : S → va_W} {D : va_G} {cA : ClassId} {A : Nat → Prop} {cc : ByteArray} {pc : Nat} {ls : Array Slot} (u : S) (hx : p.tables.exec = Jvm.exec) (hb : c.code = cc) (hr : meth.sig.returnType = none) (hlocks : meth.locks = false) (hK : va_K D vwCl [(cA, .int)] s) (hP : va_P D vwCl (w2 u) H) (hD : va_D A (w2 u)) (hS : va_S A s.heap H locs) (hpost : post u) (hdg : decode cc pc = .ok (.return_, 1)) :
    W p l e R s m args below meth c H locs cells slots (MQ below (va_Qv post (zB D cA A w2) A) args s cells slots A) (F0 m pc ls []) :=
  W.vret hx hb hr (fun t ht hW => ⟨⟨u, rfl, hpost, by rw [ht]; exact hP, va_K.moved hW.alike hK, hD⟩, hS.F ht⟩) hS.2.2 hdg hlocks
end ZRun
/-- what holds at a method's entry -/
def zIn (p : Program) (s : State) (m : MethodId) (meth : Method) (c : Code) (cc : ByteArray) (own : String) (ret : Option FieldType) (maxL : Nat) (wsT : List Cond) (args : Array Value) : Prop :=
  p.tables.exec = Jvm.exec ∧ c.code = cc ∧ meth.sig.returnType = ret ∧ c.maxLocals = maxL ∧ s.vm.findClass own = some m.cls ∧ (∀ w ∈ wsT, w.before args s = true) ∧ meth.locks = false ∧ zN s
theorem z_enter {l : Launch} {y : MethodName} {wsT ws' : List Cond} {rm : Room} {cc : ByteArray} {maxL : Nat} {ret : Option FieldType} {D : va_G} {cA : ClassId} {ws : va_W} {av : List Value} {Qc : Nat → Array Value → State → Outcome → State → Prop}
    (hy : plainName y.cls = true) (hw : wsT = Cond.code y cc maxL ret :: ws') (hlen : (lg_sl av).length ≤ maxL)
    (body : ∀ (p : Program) (e : Env) (s : State) (m : MethodId) (below : List Frame) (meth : Method) (c : Code) (ls : Array Slot), zIn p s m meth c cc y.cls ret maxL wsT av.toArray → va_K D vwCl [(cA, .int)] s → va_P D vwCl ws s.heap → va_D (va_A ws s.heap.size) ws → lv_has ls maxL (lv_args 0 av) →
      W p l e rm s m av.toArray below meth c s.heap [] 0 0 (MQ below (Qc s.heap.size) av.toArray s 0 0 (va_A ws s.heap.size)) (F0 m 0 ls [])) :
    ∀ sz : Nat, Met l y wsT rm (zPc D cA ws sz av) (Qc sz) 0 0 (va_A ws sz) := by
  intro sz
  refine Met.ofW (cc := cc) (maxL := maxL) (ret := ret) hy hw ?_
  intro p e s m args below meth c s₁ B hml hv
  obtain ⟨rfl, hsz, hP, hK, hD0, hN⟩ := hv
  have hts := atoms_spec (ws := wsT) B.pre
  have hown : s.vm.findClass y.cls = some m.cls := findClass_of_methodNamed B.named
  subst hsz
  rw [lg_entry_eq]
  exact body p e s m below meth c _ ⟨B.exec, B.bytes, B.returns, hml, hown, hts, B.notSynchronized, hN⟩ hK hP hD0.self (lv_entry av hlen)
theorem z_enteri {l : Launch} {y : MethodName} {wsT ws' : List Cond} {rm : Room} {cc : ByteArray} {maxL : Nat} {ty : FieldType} {D : va_G} {cA : ClassId} {ws : va_W} {av : List Value} {S : Type} {post : Int32 → S → Prop} {w2 : S → va_W}
    (hy : plainName y.cls = true) (hw : wsT = Cond.code y cc maxL (some ty) :: ws') (hlen : (lg_sl av).length ≤ maxL)
    (body : ∀ (p : Program) (e : Env) (s : State) (m : MethodId) (args : Array Value) (below : List Frame) (meth : Method) (c : Code) (ls : Array Slot) (A : Nat → Prop) (H0 H : Heap) (locs : List Loc) (Q : State → Prop), zIn p s m meth c cc y.cls (some ty) maxL wsT args → (∀ q : Nat, H0.size ≤ q → A q) → va_K D vwCl [(cA, .int)] s → va_P D vwCl ws H → va_D A ws → va_S A H0 H locs → lv_has ls maxL (lv_args 0 av) →
      (∀ (v : Int32) (u : S) (pc : Nat) (ls : Array Slot) (H : Heap) (locs : List Loc), decode cc pc = .ok (.ireturn, 1) → narrow ty (.int v) = .int v → post v u → va_P D vwCl (w2 u) H → va_D A (w2 u) → va_S A H0 H locs → W p l e rm s m args below meth c H locs 0 0 Q (F0 m pc ls [.int v])) →
      W p l e rm s m args below meth c H locs 0 0 Q (F0 m 0 ls [])) :
    zMi l y wsT rm D cA ws av post w2 := by
  unfold zMi
  refine z_enter hy hw hlen (fun p e s m below meth c ls hi hK hP hD hl => ?_)
  obtain ⟨hx, hb, hr, -, -, -, hlocks, -⟩ := id hi
  exact body p e s m _ below meth c ls _ s.heap s.heap [] _ hi (fun q h => Or.inr h) hK hP hD va_S.rf hl (fun v u pc ls H locs hdg hn hp hP hD hS => z_iret u hx hb hr hn hlocks hK hP hD hS hp hdg)
theorem z_enterl {l : Launch} {y : MethodName} {wsT ws' : List Cond} {rm : Room} {cc : ByteArray} {maxL : Nat} {D : va_G} {cA : ClassId} {ws : va_W} {av : List Value} {S : Type} {post : Int64 → S → Prop} {w2 : S → va_W}
    (hy : plainName y.cls = true) (hw : wsT = Cond.code y cc maxL (some .long) :: ws') (hlen : (lg_sl av).length ≤ maxL)
    (body : ∀ (p : Program) (e : Env) (s : State) (m : MethodId) (args : Array Value) (below : List Frame) (meth : Method) (c : Code) (ls : Array Slot) (A : Nat → Prop) (H0 H : Heap) (locs : List Loc) (Q : State → Prop), zIn p s m meth c cc y.cls (some .long) maxL wsT args → (∀ q : Nat, H0.size ≤ q → A q) → va_K D vwCl [(cA, .int)] s → va_P D vwCl ws H → va_D A ws → va_S A H0 H locs → lv_has ls maxL (lv_args 0 av) →
      (∀ (v : Int64) (u : S) (pc : Nat) (ls : Array Slot) (H : Heap) (locs : List Loc), decode cc pc = .ok (.lreturn, 1) → post v u → va_P D vwCl (w2 u) H → va_D A (w2 u) → va_S A H0 H locs → W p l e rm s m args below meth c H locs 0 0 Q (F0 m pc ls [.long v])) →
      W p l e rm s m args below meth c H locs 0 0 Q (F0 m 0 ls [])) :
    zMl l y wsT rm D cA ws av post w2 := by
  unfold zMl
  refine z_enter hy hw hlen (fun p e s m below meth c ls hi hK hP hD hl => ?_)
  obtain ⟨hx, hb, hr, -, -, -, hlocks, -⟩ := id hi
  exact body p e s m _ below meth c ls _ s.heap s.heap [] _ hi (fun q h => Or.inr h) hK hP hD va_S.rf hl (fun v u pc ls H locs hdg hp hP hD hS => z_lret u hx hb hr hlocks hK hP hD hS hp hdg)
theorem z_enterv {l : Launch} {y : MethodName} {wsT ws' : List Cond} {rm : Room} {cc : ByteArray} {maxL : Nat} {D : va_G} {cA : ClassId} {ws : va_W} {av : List Value} {S : Type} {post : S → Prop} {w2 : S → va_W}
    (hy : plainName y.cls = true) (hw : wsT = Cond.code y cc maxL none :: ws') (hlen : (lg_sl av).length ≤ maxL)
    (body : ∀ (p : Program) (e : Env) (s : State) (m : MethodId) (args : Array Value) (below : List Frame) (meth : Method) (c : Code) (ls : Array Slot) (A : Nat → Prop) (H0 H : Heap) (locs : List Loc) (Q : State → Prop), zIn p s m meth c cc y.cls none maxL wsT args → (∀ q : Nat, H0.size ≤ q → A q) → va_K D vwCl [(cA, .int)] s → va_P D vwCl ws H → va_D A ws → va_S A H0 H locs → lv_has ls maxL (lv_args 0 av) →
      (∀ (u : S) (pc : Nat) (ls : Array Slot) (H : Heap) (locs : List Loc), decode cc pc = .ok (.return_, 1) → post u → va_P D vwCl (w2 u) H → va_D A (w2 u) → va_S A H0 H locs → W p l e rm s m args below meth c H locs 0 0 Q (F0 m pc ls [])) →
      W p l e rm s m args below meth c H locs 0 0 Q (F0 m 0 ls [])) :
    zMv l y wsT rm D cA ws av post w2 := by
  unfold zMv
  refine z_enter hy hw hlen (fun p e s m below meth c ls hi hK hP hD hl => ?_)
  obtain ⟨hx, hb, hr, -, -, -, hlocks, -⟩ := id hi
  exact body p e s m _ below meth c ls _ s.heap s.heap [] _ hi (fun q h => Or.inr h) hK hP hD va_S.rf hl (fun u pc ls H locs hdg hp hP hD hS => z_vret u hx hb hr hlocks hK hP hD hS hp hdg)
/-! own numbers -/
def bI (b : Bool) : Int32 := if b then 1 else 0
theorem bI_t : bI true = 1 := rfl
theorem bI_f : bI false = 0 := rfl
theorem bI_0 {b : Bool} : bI b = 0 ↔ b = false := by cases b <;> decide
theorem bI_n0 {b : Bool} : ¬ bI b = 0 ↔ b = true := by cases b <;> decide
theorem bI_1 {b : Bool} : bI b = 1 ↔ b = true := by cases b <;> decide
theorem bI_nar (b : Bool) : narrow .boolean (.int (bI b)) = .int (bI b) := by cases b <;> rfl
def jMax (x y : Int32) : Int32 := if x < y then y else x
def jMin (x y : Int32) : Int32 := if y < x then y else x
section ZTop
variable {p : Program} {l : Launch} {e : Env} {R : Room} {s : State} {m : MethodId} {args : Array Value} {below : List Frame} {meth : Method} {c : Code} {H : Heap} {locs : List Loc} {cells slots : Nat} {Q : State → Prop}
theorem z_top {x y : Int32} {pc : Nat} {ls : Array Slot} {rest : List Value} (h : x = y) (k : W p l e R s m args below meth c H locs cells slots Q (F0 m pc ls (.int y :: rest))) : W p l e R s m args below meth c H locs cells slots Q (F0 m pc ls (.int x :: rest)) := by
  subst h
  exact k
end ZTop
theorem z_toInt {x : Int32} {k : Int} (h : x.toInt = k) (y : Int32) (hy : y.toInt = k) : x = y := Int32.toInt_inj.mp (h.trans hy.symm)
theorem z_out0_1 {x : Int32} (h0 : ¬ x = 0) (h1 : ¬ x = 1) : x.toInt < 0 ∨ 1 < x.toInt := by
  have a0 : ¬ x.toInt = 0 := fun h => h0 (z_toInt h 0 rfl)
  have a1 : ¬ x.toInt = 1 := fun h => h1 (z_toInt h 1 rfl)
  omega
theorem z_out0_3 {x : Int32} (h0 : ¬ x = 0) (h1 : ¬ x = 1) (h2 : ¬ x = 2) (h3 : ¬ x = 3) : x.toInt < 0 ∨ 3 < x.toInt := by
  have a0 : ¬ x.toInt = 0 := fun h => h0 (z_toInt h 0 rfl)
  have a1 : ¬ x.toInt = 1 := fun h => h1 (z_toInt h 1 rfl)
  have a2 : ¬ x.toInt = 2 := fun h => h2 (z_toInt h 2 rfl)
  have a3 : ¬ x.toInt = 3 := fun h => h3 (z_toInt h 3 rfl)
  omega
theorem z_out0_5 {x : Int32} (h0 : ¬ x = 0) (h1 : ¬ x = 1) (h2 : ¬ x = 2) (h3 : ¬ x = 3) (h4 : ¬ x = 4) (h5 : ¬ x = 5) : x.toInt < 0 ∨ 5 < x.toInt := by
  have a0 : ¬ x.toInt = 0 := fun h => h0 (z_toInt h 0 rfl)
  have a1 : ¬ x.toInt = 1 := fun h => h1 (z_toInt h 1 rfl)
  have a2 : ¬ x.toInt = 2 := fun h => h2 (z_toInt h 2 rfl)
  have a3 : ¬ x.toInt = 3 := fun h => h3 (z_toInt h 3 rfl)
  have a4 : ¬ x.toInt = 4 := fun h => h4 (z_toInt h 4 rfl)
  have a5 : ¬ x.toInt = 5 := fun h => h5 (z_toInt h 5 rfl)
  omega
theorem z_out0_11 {x : Int32} (h0 : ¬ x = 0) (h1 : ¬ x = 1) (h2 : ¬ x = 2) (h3 : ¬ x = 3) (h4 : ¬ x = 4) (h5 : ¬ x = 5) (h6 : ¬ x = 6) (h7 : ¬ x = 7) (h8 : ¬ x = 8) (h9 : ¬ x = 9) (h10 : ¬ x = 10) (h11 : ¬ x = 11) : x.toInt < 0 ∨ 11 < x.toInt := by
  have a0 : ¬ x.toInt = 0 := fun h => h0 (z_toInt h 0 rfl)
  have a1 : ¬ x.toInt = 1 := fun h => h1 (z_toInt h 1 rfl)
  have a2 : ¬ x.toInt = 2 := fun h => h2 (z_toInt h 2 rfl)
  have a3 : ¬ x.toInt = 3 := fun h => h3 (z_toInt h 3 rfl)
  have a4 : ¬ x.toInt = 4 := fun h => h4 (z_toInt h 4 rfl)
  have a5 : ¬ x.toInt = 5 := fun h => h5 (z_toInt h 5 rfl)
  have a6 : ¬ x.toInt = 6 := fun h => h6 (z_toInt h 6 rfl)
  have a7 : ¬ x.toInt = 7 := fun h => h7 (z_toInt h 7 rfl)
  have a8 : ¬ x.toInt = 8 := fun h => h8 (z_toInt h 8 rfl)
  have a9 : ¬ x.toInt = 9 := fun h => h9 (z_toInt h 9 rfl)
  have a10 : ¬ x.toInt = 10 := fun h => h10 (z_toInt h 10 rfl)
  have a11 : ¬ x.toInt = 11 := fun h => h11 (z_toInt h 11 rfl)
  omega
theorem z_in {i : Int32} {n : Nat} (hn : n < 2147483648) (h0 : 0 ≤ i) (h1 : i < nI n) : vp_in i n := by
  unfold vp_in
  rw [Int32.le_iff_toInt_le] at h0
  rw [Int32.lt_iff_toInt_lt, nI_toInt hn] at h1
  rintro (h | h)
  · rw [Int32.lt_iff_toInt_lt] at h
    have : (0 : Int32).toInt = 0 := rfl
    omega
  · have e : (i.toNatClampNeg : Int) = max i.toInt 0 := by rw [← Int32.toNat_toInt]; omega
    have : (0 : Int32).toInt = 0 := rfl
    omega
theorem z_inN {i n : Nat} (h : i < n) (hn : n < 2147483648) : vp_in (nI i) n := by
  refine z_in hn ?_ ?_
  · rw [Int32.le_iff_toInt_le, nI_toInt (by omega)]; show (0 : Int) ≤ i; omega
  · rw [Int32.lt_iff_toInt_lt, nI_toInt (by omega), nI_toInt hn]; omega
theorem z_nat {i : Nat} (h : i < 2147483648) : (nI i).toNatClampNeg = i := by
  rw [← Int32.toNat_toInt, nI_toInt h]; omega
-- level 0: small methods
def jAt (n : Nat) (f : Nat → Int32) (p : Int32) : Int32 := if 0 ≤ p ∧ p < nI n then f p.toNatClampNeg else 0
def jPut (n : Nat) (f : Nat → Int32) (p x : Int32) : Nat → Int32 := if 0 ≤ p ∧ p < nI n then upd f p.toNatClampNeg x else f
def jIsIn (s o : Int32) : Bool := decide (0 ≤ s ∧ s < 5) && decide ((o >>> (s &&& 31)) &&& 1 = 1)
