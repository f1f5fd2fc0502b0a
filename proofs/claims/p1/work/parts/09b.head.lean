
/-! what constructors and the law's helpers ask beside: array classes of references, and two classes of exceptions that aren't of one kind -/
def fX (U : State) : Prop := (True ∧ va_AOA .int U) ∧ va_Nc "java/util/NoSuchElementException" "java/lang/IllegalArgumentException" U ∧ va_Nc "java/lang/ArithmeticException" "java/lang/IllegalArgumentException" U
theorem va_AOA.moved {t : FieldType} {u U : State} (hvm : u.vm.Alike U.vm) (h : va_AOA t u) : va_AOA t U := arrayOver_alikeB hvm h
theorem fX.moved {u U : State} (hvm : u.vm.Alike U.vm) (h : fX u) : fX U := ⟨⟨trivial, h.1.2.moved hvm⟩, h.2.1.moved hvm, h.2.2.moved hvm⟩
def gPre (dC : Nat → ClassId) (dI : Nat → Nat → Nat) (av : List Value) (W : va_W) (T : fT) (sz : Nat) : Array Value → State → Prop := fun v U => fPre dC dI av W T sz v U ∧ fX U
theorem gBlind {dC : Nat → ClassId} {dI : Nat → Nat → Nat} {av : List Value} {W : va_W} {T : fT} {sz : Nat} : FrameBlind (gPre dC dI av W T sz) := fun a U g mk h => ⟨fBlind a U g mk h.1, fX.moved (u := U) (U := U.calling g mk a) (Vm.Alike.refl U.vm) h.2⟩
theorem gPreS {dC : Nat → ClassId} {dI : Nat → Nat → Nat} {av : List Value} {W : va_W} {T : fT} {s : State} {H : Heap} {A A0 : Nat → Prop} {locs : List Loc} (hX : fX s) (hN : fN s) (hZ : fZ A s s.heap) (hS : va_S A s.heap H locs) (hF : ∀ q, va_A W H.size q → A q) (hP : va_P (dC, dI) vwCl W H) (hK : va_K (dC, dI) vwCl T s) (hD : va_D A0 W) : PreS s H (gPre dC dI av W T H.size) av :=
  ⟨gBlind, fun U hU hW => ⟨(fPreS (av := av) hN hZ hS hF hP hK hD).2 U hU hW, hX.moved hW.alike⟩⟩
abbrev gMv (l : Launch) (y : MethodName) (ws : List Cond) (rm : Room) (dC : Nat → ClassId) (dI : Nat → Nat → Nat) (av : List Value) (W : va_W) (T : fT) (sz : Nat) {S : Type} (post : S → Prop) (W' : S → va_W) (T' : S → fT) : Prop := Met l y ws rm (gPre dC dI av W T sz) (va_Qv post (fun u t => fB dC dI (va_A W sz) (W' u) (T' u) t) (va_A W sz)) rm.cells rm.slots (va_A W sz)
abbrev gHi (l : Launch) (y : MethodName) (ws : List Cond) (rm : Room) (dC : Nat → ClassId) (dI : Nat → Nat → Nat) (av : List Value) (W : va_W) (T : fT) (sz : Nat) {S : Type} (post : Int32 → S → Prop) (W' : S → va_W) (T' : S → fT) : Prop := vx_Met l y ws rm (gPre dC dI av W T sz) (va_Qi post (fun u t => fB dC dI (va_A W sz) (W' u) (T' u) t) (va_A W sz)) (fE (fun _ => False) (va_A W sz)) rm.cells rm.slots (va_A W sz)
theorem fTab {T : List ExceptionTableEntry} {L : List (Nat × Nat × Nat × Nat)} (h : T.map (fun h => (h.startPc, h.endPc, h.handlerPc, h.catchType)) = L) : T = L.map (fun q => { startPc := q.1, endPc := q.2.1, handlerPc := q.2.2.1, catchType := q.2.2.2 }) := by
  subst h
  rw [List.map_map]
  exact (List.map_id T).symm
abbrev fXf (l : Launch) (y : MethodName) (ws : List Cond) (rm : Room) (dC : Nat → ClassId) (dI : Nat → Nat → Nat) (av : List Value) (W : va_W) (T : fT) (sz : Nat) (PE : String → Prop) {S : Type} (post : UInt32 → S → Prop) (W' : S → va_W) (T' : S → fT) : Prop := vx_Met l y ws rm (fPre dC dI av W T sz) (va_Qf post (fun u t => fB dC dI (va_A W sz) (W' u) (T' u) t) (va_A W sz)) (fE PE (va_A W sz)) rm.cells rm.slots (va_A W sz)
abbrev fXd (l : Launch) (y : MethodName) (ws : List Cond) (rm : Room) (dC : Nat → ClassId) (dI : Nat → Nat → Nat) (av : List Value) (W : va_W) (T : fT) (sz : Nat) (PE : String → Prop) {S : Type} (post : UInt64 → S → Prop) (W' : S → va_W) (T' : S → fT) : Prop := vx_Met l y ws rm (fPre dC dI av W T sz) (va_Qd post (fun u t => fB dC dI (va_A W sz) (W' u) (T' u) t) (va_A W sz)) (fE PE (va_A W sz)) rm.cells rm.slots (va_A W sz)
set_option maxHeartbeats 1000000 in
theorem oX_f {l : Launch} (hfl : l.stackTraces = false) {y : MethodName} {ws ws' : List Cond} {rm : Room} {cc : ByteArray} {maxL : Nat} {dC : Nat → ClassId} {dI : Nat → Nat → Nat} {av : List Value} {Wl : va_W} {T : fT} {sz : Nat} {PE : String → Prop} {S : Type} {post : UInt32 → S → Prop} {W' : S → va_W} {T' : S → fT} (hy : plainName y.cls = true) (hw : ws = Cond.code y cc maxL (some .float) :: ws') (hlen : (lg_sl av).length ≤ maxL)
    (body : ∀ (p : Program) (e : Env) (s : State) (m : MethodId) (args : Array Value) (below : List Frame) (meth : Method) (c : Code) (ls : Array Slot) (A : Nat → Prop) (Q : State → Prop), p.tables.exec = Jvm.exec → c.code = cc → meth.sig.returnType = some .float → c.maxLocals = maxL → s.vm.findClass y.cls = some m.cls → (∀ w ∈ ws, w.before args s = true) → fN s → fZ A s s.heap → (∀ q : Nat, s.heap.size ≤ q → A q) → meth.name = y.name → meth.locks = false → va_P (dC, dI) vwCl Wl s.heap → va_K (dC, dI) vwCl T s → va_D A Wl → lv_has ls maxL (lv_args 0 av) →
    (∀ (r : UInt32) (u : S) (H : Heap) (locs : List Loc) (cells slots pc : Nat) (ls : Array Slot), post r u → va_P (dC, dI) vwCl (W' u) H → va_K (dC, dI) vwCl (T' u) s → va_D A (W' u) → va_S A s.heap H locs → cells ≤ rm.cells → slots ≤ rm.slots → decode cc pc = .ok (.freturn, 1) → W p l e rm s m args below meth c H locs cells slots Q (F0 m pc ls [.float r])) →
    (∀ (E : String) (ce : Cell) (q : Nat) (H : Heap) (locs : List Loc) (cells slots pc : Nat) (ls : Array Slot) (rest : List Value), PE E → H[q]? = some ce → ce.vm = .none → s.vm.findClass E = some ce.cls → va_S A s.heap H locs → cells ≤ rm.cells → slots ≤ rm.slots → vx_W p l e rm s m args below meth c H locs cells slots Q (F0 m pc ls rest) q) →
    (∀ (cls text : String) (names : List String) (ik is ic : Nat) (H : Heap) (locs : List Loc) (cells slots pc : Nat) (ls : Array Slot), PE cls → Bundle.fit cls = true → (∀ n ∈ names, Bundle.fit n = true) → (Cond.classLink y.cls ik cls).before args s = true → (Cond.initialized cls).before args s = true → (∃ a : Nat, vk_R y.cls is text a s) → (∀ w ∈ vx_atS y.cls ic cls names, w.before args s = true) → (∀ w ∈ Cond.classLink y.cls ik cls :: Cond.initialized cls :: vx_atS y.cls ic cls names, vx_ot w = true) → va_S A s.heap H locs → ls.size = maxL → names.length + 3 < rm.frames → 13 * (names.length + 1) + 43 ≤ rm.locals → cells + 1 ≤ rm.cells → slots + 6 ≤ rm.slots →
      decode cc pc = .ok (.new ik, 3) → decode cc (pc + 3) = .ok (.dup, 1) → (decode cc (pc + 4) = .ok (.ldc is, 2) ∧ decode cc (pc + 6) = .ok (.invokespecial ic, 3) ∧ decode cc (pc + 9) = .ok (.athrow, 1) ∨ decode cc (pc + 4) = .ok (.ldc_w is, 3) ∧ decode cc (pc + 7) = .ok (.invokespecial ic, 3) ∧ decode cc (pc + 10) = .ok (.athrow, 1)) → W p l e rm s m args below meth c H locs cells slots Q (F0 m pc ls [])) →
    W p l e rm s m args below meth c s.heap [] 0 0 Q (F0 m 0 ls [])) : fXf l y ws rm dC dI av Wl T sz PE post W' T' := by
  refine vx_ofW (cc := cc) (maxL := maxL) (ret := (some .float)) hy hw ?_
  intro p e s m args below meth c s₁ B hml ht hv
  obtain ⟨rfl, hsz, hP, hK, hD0, hN, hZ⟩ := hv
  subst hsz
  have hx := B.exec
  have hb := B.bytes
  have hr := B.returns
  have hlocks := B.notSynchronized
  have hl := lv_entry av (n := maxL) hlen
  rw [lg_entry_eq]
  refine body p e s m _ below meth c _ (va_A Wl s.heap.size) _ hx hb hr hml (findClass_of_methodNamed B.named) (atoms_spec (ws := ws) B.pre) hN hZ (fun q h => Or.inr h) (name_of_methodNamed B.named B.method).1 hlocks hP hK hD0.self hl ?_ ?_ ?_
  · intro r u H locs cells slots pc ls hp hP1 hK1 hD1 hS hc hs d
    refine W.widen hc hs ?_
    refine vx_ret ?_
    exact W.fret (v := r) hx hb hr (fun t ht hW => ⟨⟨r, u, rfl, hp, by rw [ht]; exact hP1, va_K.moved hW.alike hK1, hD1⟩, hS.F ht⟩) hS.2.2 d
  · intro E ce q H locs cells slots pc ls rest hE h1 h2 h3 hS hc hs
    exact vx_out (fun x hx9 => (ht x hx9).elim) hlocks h1 h2 h3 (fun t ht9 _ => ⟨(), trivial, hE, hS.F ht9⟩) hS.2.2 hc hs
  · intro cls text names ik is ic H locs cells slots pc ls hE h1 h2 h3 h4 h5 h6 h7 hS hsz9 hf1 hf2 hc hs d0 d3 hd
    obtain ⟨sa, h5⟩ := h5
    rcases hd with ⟨d4, d6, d9⟩ | ⟨d4, d6, d9⟩
    · exact vx_throwS hx hb hfl (findClass_of_methodNamed B.named) h1 h2 h3 h4 h5 h6 h7 hZ.1 hZ.2 hS (hsz9.trans hml.symm) d0 d3 d4 d6 d9 (fun x hx9 => (ht x hx9).elim) hf1 (by simpa using hf2) hc hs hlocks (fun t hA hz9 hk9 => ⟨(), trivial, hE, Nat.le_trans hS.1 hz9, fun q hq1 hq2 => by rw [hk9 q (Nat.lt_of_lt_of_le hq1 hS.1)]; exact hS.2.1 q hq1 hq2⟩) hS.2.2 hc hs
    · exact vx_throwSW hx hb hfl (findClass_of_methodNamed B.named) h1 h2 h3 h4 h5 h6 h7 hZ.1 hZ.2 hS (hsz9.trans hml.symm) d0 d3 d4 d6 d9 (fun x hx9 => (ht x hx9).elim) hf1 (by simpa using hf2) hc hs hlocks (fun t hA hz9 hk9 => ⟨(), trivial, hE, Nat.le_trans hS.1 hz9, fun q hq1 hq2 => by rw [hk9 q (Nat.lt_of_lt_of_le hq1 hS.1)]; exact hS.2.1 q hq1 hq2⟩) hS.2.2 hc hs
set_option maxHeartbeats 1000000 in
theorem oX_d {l : Launch} (hfl : l.stackTraces = false) {y : MethodName} {ws ws' : List Cond} {rm : Room} {cc : ByteArray} {maxL : Nat} {dC : Nat → ClassId} {dI : Nat → Nat → Nat} {av : List Value} {Wl : va_W} {T : fT} {sz : Nat} {PE : String → Prop} {S : Type} {post : UInt64 → S → Prop} {W' : S → va_W} {T' : S → fT} (hy : plainName y.cls = true) (hw : ws = Cond.code y cc maxL (some .double) :: ws') (hlen : (lg_sl av).length ≤ maxL)
    (body : ∀ (p : Program) (e : Env) (s : State) (m : MethodId) (args : Array Value) (below : List Frame) (meth : Method) (c : Code) (ls : Array Slot) (A : Nat → Prop) (Q : State → Prop), p.tables.exec = Jvm.exec → c.code = cc → meth.sig.returnType = some .double → c.maxLocals = maxL → s.vm.findClass y.cls = some m.cls → (∀ w ∈ ws, w.before args s = true) → fN s → fZ A s s.heap → (∀ q : Nat, s.heap.size ≤ q → A q) → meth.name = y.name → meth.locks = false → va_P (dC, dI) vwCl Wl s.heap → va_K (dC, dI) vwCl T s → va_D A Wl → lv_has ls maxL (lv_args 0 av) →
    (∀ (r : UInt64) (u : S) (H : Heap) (locs : List Loc) (cells slots pc : Nat) (ls : Array Slot), post r u → va_P (dC, dI) vwCl (W' u) H → va_K (dC, dI) vwCl (T' u) s → va_D A (W' u) → va_S A s.heap H locs → cells ≤ rm.cells → slots ≤ rm.slots → decode cc pc = .ok (.dreturn, 1) → W p l e rm s m args below meth c H locs cells slots Q (F0 m pc ls [.double r])) →
    (∀ (E : String) (ce : Cell) (q : Nat) (H : Heap) (locs : List Loc) (cells slots pc : Nat) (ls : Array Slot) (rest : List Value), PE E → H[q]? = some ce → ce.vm = .none → s.vm.findClass E = some ce.cls → va_S A s.heap H locs → cells ≤ rm.cells → slots ≤ rm.slots → vx_W p l e rm s m args below meth c H locs cells slots Q (F0 m pc ls rest) q) →
    (∀ (cls text : String) (names : List String) (ik is ic : Nat) (H : Heap) (locs : List Loc) (cells slots pc : Nat) (ls : Array Slot), PE cls → Bundle.fit cls = true → (∀ n ∈ names, Bundle.fit n = true) → (Cond.classLink y.cls ik cls).before args s = true → (Cond.initialized cls).before args s = true → (∃ a : Nat, vk_R y.cls is text a s) → (∀ w ∈ vx_atS y.cls ic cls names, w.before args s = true) → (∀ w ∈ Cond.classLink y.cls ik cls :: Cond.initialized cls :: vx_atS y.cls ic cls names, vx_ot w = true) → va_S A s.heap H locs → ls.size = maxL → names.length + 3 < rm.frames → 13 * (names.length + 1) + 43 ≤ rm.locals → cells + 1 ≤ rm.cells → slots + 6 ≤ rm.slots →
      decode cc pc = .ok (.new ik, 3) → decode cc (pc + 3) = .ok (.dup, 1) → (decode cc (pc + 4) = .ok (.ldc is, 2) ∧ decode cc (pc + 6) = .ok (.invokespecial ic, 3) ∧ decode cc (pc + 9) = .ok (.athrow, 1) ∨ decode cc (pc + 4) = .ok (.ldc_w is, 3) ∧ decode cc (pc + 7) = .ok (.invokespecial ic, 3) ∧ decode cc (pc + 10) = .ok (.athrow, 1)) → W p l e rm s m args below meth c H locs cells slots Q (F0 m pc ls [])) →
    W p l e rm s m args below meth c s.heap [] 0 0 Q (F0 m 0 ls [])) : fXd l y ws rm dC dI av Wl T sz PE post W' T' := by
  refine vx_ofW (cc := cc) (maxL := maxL) (ret := (some .double)) hy hw ?_
  intro p e s m args below meth c s₁ B hml ht hv
  obtain ⟨rfl, hsz, hP, hK, hD0, hN, hZ⟩ := hv
  subst hsz
  have hx := B.exec
  have hb := B.bytes
  have hr := B.returns
  have hlocks := B.notSynchronized
  have hl := lv_entry av (n := maxL) hlen
  rw [lg_entry_eq]
  refine body p e s m _ below meth c _ (va_A Wl s.heap.size) _ hx hb hr hml (findClass_of_methodNamed B.named) (atoms_spec (ws := ws) B.pre) hN hZ (fun q h => Or.inr h) (name_of_methodNamed B.named B.method).1 hlocks hP hK hD0.self hl ?_ ?_ ?_
  · intro r u H locs cells slots pc ls hp hP1 hK1 hD1 hS hc hs d
    refine W.widen hc hs ?_
    refine vx_ret ?_
    exact W.dret (v := r) hx hb hr (fun t ht hW => ⟨⟨r, u, rfl, hp, by rw [ht]; exact hP1, va_K.moved hW.alike hK1, hD1⟩, hS.F ht⟩) hS.2.2 d
  · intro E ce q H locs cells slots pc ls rest hE h1 h2 h3 hS hc hs
    exact vx_out (fun x hx9 => (ht x hx9).elim) hlocks h1 h2 h3 (fun t ht9 _ => ⟨(), trivial, hE, hS.F ht9⟩) hS.2.2 hc hs
  · intro cls text names ik is ic H locs cells slots pc ls hE h1 h2 h3 h4 h5 h6 h7 hS hsz9 hf1 hf2 hc hs d0 d3 hd
    obtain ⟨sa, h5⟩ := h5
    rcases hd with ⟨d4, d6, d9⟩ | ⟨d4, d6, d9⟩
    · exact vx_throwS hx hb hfl (findClass_of_methodNamed B.named) h1 h2 h3 h4 h5 h6 h7 hZ.1 hZ.2 hS (hsz9.trans hml.symm) d0 d3 d4 d6 d9 (fun x hx9 => (ht x hx9).elim) hf1 (by simpa using hf2) hc hs hlocks (fun t hA hz9 hk9 => ⟨(), trivial, hE, Nat.le_trans hS.1 hz9, fun q hq1 hq2 => by rw [hk9 q (Nat.lt_of_lt_of_le hq1 hS.1)]; exact hS.2.1 q hq1 hq2⟩) hS.2.2 hc hs
    · exact vx_throwSW hx hb hfl (findClass_of_methodNamed B.named) h1 h2 h3 h4 h5 h6 h7 hZ.1 hZ.2 hS (hsz9.trans hml.symm) d0 d3 d4 d6 d9 (fun x hx9 => (ht x hx9).elim) hf1 (by simpa using hf2) hc hs hlocks (fun t hA hz9 hk9 => ⟨(), trivial, hE, Nat.le_trans hS.1 hz9, fun q hq1 hq2 => by rw [hk9 q (Nat.lt_of_lt_of_le hq1 hS.1)]; exact hS.2.1 q hq1 hq2⟩) hS.2.2 hc hs
set_option maxHeartbeats 1000000 in
theorem oG_v {l : Launch} {y : MethodName} {ws ws' : List Cond} {rm : Room} {cc : ByteArray} {maxL : Nat} {dC : Nat → ClassId} {dI : Nat → Nat → Nat} {av : List Value} {Wl : va_W} {T : fT} {sz : Nat} {S : Type} {post : S → Prop} {W' : S → va_W} {T' : S → fT} (hy : plainName y.cls = true) (hw : ws = Cond.code y cc maxL (none) :: ws') (hlen : (lg_sl av).length ≤ maxL)
    (body : ∀ (p : Program) (e : Env) (s : State) (m : MethodId) (args : Array Value) (below : List Frame) (meth : Method) (c : Code) (ls : Array Slot) (A : Nat → Prop) (Q : State → Prop), p.tables.exec = Jvm.exec → c.code = cc → meth.sig.returnType = none → c.maxLocals = maxL → s.vm.findClass y.cls = some m.cls → (∀ w ∈ ws, w.before args s = true) → fN s → fZ A s s.heap → (∀ q : Nat, s.heap.size ≤ q → A q) → meth.name = y.name → meth.locks = false → va_P (dC, dI) vwCl Wl s.heap → va_K (dC, dI) vwCl T s → va_D A Wl → lv_has ls maxL (lv_args 0 av) → fX s →
    (∀ (u : S) (H : Heap) (locs : List Loc) (cells slots pc : Nat) (ls : Array Slot), post u → va_P (dC, dI) vwCl (W' u) H → va_K (dC, dI) vwCl (T' u) s → va_D A (W' u) → va_S A s.heap H locs → cells ≤ rm.cells → slots ≤ rm.slots → decode cc pc = .ok (.return_, 1) → W p l e rm s m args below meth c H locs cells slots Q (F0 m pc ls [])) →
    W p l e rm s m args below meth c s.heap [] 0 0 Q (F0 m 0 ls [])) : gMv l y ws rm dC dI av Wl T sz post W' T' := by
  refine Met.ofW (cc := cc) (maxL := maxL) (ret := none) hy hw ?_
  intro p e s m args below meth c s₁ B hml hv
  obtain ⟨⟨rfl, hsz, hP, hK, hD0, hN, hZ⟩, hX⟩ := hv
  subst hsz
  have hx := B.exec
  have hb := B.bytes
  have hr := B.returns
  have hlocks := B.notSynchronized
  have hl := lv_entry av (n := maxL) hlen
  rw [lg_entry_eq]
  refine body p e s m _ below meth c _ (va_A Wl s.heap.size) _ hx hb hr hml (findClass_of_methodNamed B.named) (atoms_spec (ws := ws) B.pre) hN hZ (fun q h => Or.inr h) (name_of_methodNamed B.named B.method).1 hlocks hP hK hD0.self hl hX ?_
  intro u H locs cells slots pc ls hp hP1 hK1 hD1 hS hc hs d
  refine W.widen hc hs ?_
  exact W.vret hx hb hr (fun t ht hW => ⟨⟨u, rfl, hp, by rw [ht]; exact hP1, va_K.moved hW.alike hK1, hD1⟩, hS.F ht⟩) hS.2.2 d
set_option maxHeartbeats 1000000 in
theorem oH_i {l : Launch} {y : MethodName} {ws ws' : List Cond} {rm : Room} {cc : ByteArray} {maxL : Nat} {hh : List (Nat × Nat × Nat × Nat)} {dC : Nat → ClassId} {dI : Nat → Nat → Nat} {av : List Value} {Wl : va_W} {T : fT} {sz : Nat} {S : Type} {post : Int32 → S → Prop} {W' : S → va_W} {T' : S → fT} (hy : plainName y.cls = true) (hw : ws = Cond.codeWith y cc maxL (some .int) hh :: ws') (hlen : (lg_sl av).length ≤ maxL)
    (body : ∀ (p : Program) (e : Env) (s : State) (m : MethodId) (args : Array Value) (below : List Frame) (meth : Method) (c : Code) (ls : Array Slot) (A : Nat → Prop) (Q : State → Prop), p.tables.exec = Jvm.exec → c.code = cc → meth.sig.returnType = some .int → c.maxLocals = maxL → s.vm.findClass y.cls = some m.cls → (∀ w ∈ ws, w.before args s = true) → fN s → fZ A s s.heap → (∀ q : Nat, s.heap.size ≤ q → A q) → meth.name = y.name → meth.locks = false → va_P (dC, dI) vwCl Wl s.heap → va_K (dC, dI) vwCl T s → va_D A Wl → lv_has ls maxL (lv_args 0 av) → fX s → c.exceptionTable.toList = hh.map (fun q => { startPc := q.1, endPc := q.2.1, handlerPc := q.2.2.1, catchType := q.2.2.2 }) →
    (∀ (r : Int32) (u : S) (H : Heap) (locs : List Loc) (cells slots pc : Nat) (ls : Array Slot), post r u → va_P (dC, dI) vwCl (W' u) H → va_K (dC, dI) vwCl (T' u) s → va_D A (W' u) → va_S A s.heap H locs → cells ≤ rm.cells → slots ≤ rm.slots → decode cc pc = .ok (.ireturn, 1) → W p l e rm s m args below meth c H locs cells slots Q (F0 m pc ls [.int r])) →
    W p l e rm s m args below meth c s.heap [] 0 0 Q (F0 m 0 ls [])) : gHi l y ws rm dC dI av Wl T sz post W' T' := by
  refine vx_ofWH (cc := cc) (maxL := maxL) (ret := some .int) (hh := hh) hy hw ?_
  intro p e s m args below meth c s₁ B hml hv
  obtain ⟨⟨rfl, hsz, hP, hK, hD0, hN, hZ⟩, hX⟩ := hv
  subst hsz
  have hx := B.exec
  have hb := B.bytes
  have hr := B.returns
  have hlocks := B.notSynchronized
  have hl := lv_entry av (n := maxL) hlen
  have htab : c.exceptionTable.toList = hh.map (fun q => { startPc := q.1, endPc := q.2.1, handlerPc := q.2.2.1, catchType := q.2.2.2 }) := by
    obtain ⟨m9, meth9, c9, hn9, h1, h2, -, -, h5, -, -, -⟩ := Cond.codeWith_spec (atoms_spec (ws := ws) B.pre _ (by rw [hw]; exact List.mem_cons_self))
    cases Option.some.inj (B.named.symm.trans hn9)
    cases Option.some.inj (h1.symm.trans B.method)
    cases Option.some.inj (h2.symm.trans (Stand.of_body B).code)
    exact fTab h5
  rw [lg_entry_eq]
  refine body p e s m _ below meth c _ (va_A Wl s.heap.size) _ hx hb hr hml (findClass_of_methodNamed B.named) (atoms_spec (ws := ws) B.pre) hN hZ (fun q h => Or.inr h) (name_of_methodNamed B.named B.method).1 hlocks hP hK hD0.self hl hX htab ?_
  intro r u H locs cells slots pc ls hp hP1 hK1 hD1 hS hc hs d
  refine W.widen hc hs ?_
  refine vx_ret ?_
  exact W.iret (v := r) hx hb hr (fun t ht hW => ⟨⟨r, u, rfl, hp, by rw [ht]; exact hP1, va_K.moved hW.alike hK1, hD1⟩, hS.F ht⟩) hS.2.2 d
