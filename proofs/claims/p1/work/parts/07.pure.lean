
/-! pure facts for the reference, and the openings for long, float and double answers -/
theorem fLt (x y : Int64) : lg_cmp x y < 0 ↔ x < y := by
  have h := lg_cmp_ge x y
  constructor
  · intro h1
    exact Int64.not_le.mp fun q => absurd (h.mpr q) (Int32.not_le.mpr h1)
  · intro h1
    exact Int32.not_le.mp fun q => absurd (h.mp q) (Int64.not_le.mpr h1)
theorem fGt (x y : Int64) : 0 < lg_cmp x y ↔ y < x := by
  unfold lg_cmp
  by_cases h : x > y
  · rw [if_pos h]; exact ⟨fun _ => h, fun _ => by decide⟩
  · rw [if_neg h]
    refine ⟨fun q => ?_, fun q => absurd q h⟩
    split at q
    · exact absurd q (by decide)
    · exact absurd q (by decide)
theorem fEm {a : Int64} (h : ¬ lg_cmp a 0 < 0) : 0 < lg_cmp a (-1) := by
  rw [fGt]
  have h1 : ¬ a < 0 := fun q => h ((fLt a 0).mpr q)
  rw [Int64.lt_iff_toInt_lt] at h1 ⊢
  have e0 : (0 : Int64).toInt = 0 := by decide
  have e1 : (-1 : Int64).toInt = -1 := by decide
  omega
theorem fWl (x k : Int32) (K : Int64) (h : k.toInt64 = K) : x.toInt64 < K ↔ x < k := by
  subst h
  rw [Int64.lt_iff_toInt_lt, Int32.lt_iff_toInt_lt, Int32.toInt_toInt64, Int32.toInt_toInt64]
theorem fWg (x k : Int32) (K : Int64) (h : k.toInt64 = K) : K < x.toInt64 ↔ k < x := by
  subst h
  rw [Int64.lt_iff_toInt_lt, Int32.lt_iff_toInt_lt, Int32.toInt_toInt64, Int32.toInt_toInt64]
theorem fIn (x b c : Int32) (B C : Int64) (hb : b.toInt64 = B) (hc : c.toInt64 = C) : (¬ x.toInt64 < B ∧ ¬ C < x.toInt64) ↔ (¬ x < b ∧ ¬ c < x) := by
  rw [fWl x b B hb, fWg x c C hc]
theorem fU2 (f : Nat → Int32) (i : Nat) (x y : Int32) : upd (upd f i x) i y = upd f i y := funext fun j => by unfold upd; split <;> rfl
theorem fInv {f : Nat → Int32} {i : Nat} {x : Int32} (h : ∀ j, j < i → f j = x) : ∀ j, j < i + 1 → upd f i x j = x := by
  intro j hj
  unfold upd
  split
  · rfl
  · exact h j (by omega)
theorem fAt (f : Nat → Int32) (i : Nat) (x : Int32) (hi : i < 2 ^ 31) : upd f i x (nI i).toNatClampNeg = x := by rw [nI_clamp hi]; exact pk_us
theorem fEl {f : Nat → Int32} {n i : Nat} {x : Int32} (h : ∀ j, j < n → f j = x) (hi : i < n) (hn : n < 2 ^ 31) : f (nI i).toNatClampNeg = x := by rw [nI_clamp (by omega)]; exact h i hi
theorem fFit {cA : ClassId} {n : Nat} {f : Nat → Int32} {i : Nat} {v : Value} (h : (vp_cell cA (n, .inl f)).slots[i]? = some v) : fits .int v = true := by
  rw [vp_cell_i] at h
  have hi : i < n := by
    have h1 := (Array.getElem?_eq_some_iff.mp h).1
    rwa [arrV_size] at h1
  rw [arrV_read cA _ hi] at h
  cases h
  rfl
theorem fKeep {f : Nat → Int32} {n i : Nat} {x : Int32} (h : ∀ j, j < n → f j = x) : ∀ j, j < n → upd f i x j = x := by
  intro j hj
  unfold upd
  split
  · rfl
  · exact h j hj
theorem fq0 {i : Nat} (h : i < 10) : nI i / 10 = 0 := (show nI i / nI 10 = nI 0 from by rw [pk_div (by omega) (by decide) (by decide)]; congr 1; omega)
theorem fq1 {i : Nat} (h1 : 10 ≤ i) (h : i < 20) : nI i / 10 = 1 := (show nI i / nI 10 = nI 1 from by rw [pk_div (by omega) (by decide) (by decide)]; congr 1; omega)
abbrev fMl (l : Launch) (y : MethodName) (ws : List Cond) (rm : Room) (dC : Nat → ClassId) (dI : Nat → Nat → Nat) (av : List Value) (W : va_W) (T : fT) (sz : Nat) {S : Type} (post : Int64 → S → Prop) (W' : S → va_W) (T' : S → fT) : Prop := Met l y ws rm (fPre dC dI av W T sz) (va_Ql post (fun u t => fB dC dI (va_A W sz) (W' u) (T' u) t) (va_A W sz)) rm.cells rm.slots (va_A W sz)
abbrev fMf (l : Launch) (y : MethodName) (ws : List Cond) (rm : Room) (dC : Nat → ClassId) (dI : Nat → Nat → Nat) (av : List Value) (W : va_W) (T : fT) (sz : Nat) {S : Type} (post : UInt32 → S → Prop) (W' : S → va_W) (T' : S → fT) : Prop := Met l y ws rm (fPre dC dI av W T sz) (va_Qf post (fun u t => fB dC dI (va_A W sz) (W' u) (T' u) t) (va_A W sz)) rm.cells rm.slots (va_A W sz)
abbrev fMd (l : Launch) (y : MethodName) (ws : List Cond) (rm : Room) (dC : Nat → ClassId) (dI : Nat → Nat → Nat) (av : List Value) (W : va_W) (T : fT) (sz : Nat) {S : Type} (post : UInt64 → S → Prop) (W' : S → va_W) (T' : S → fT) : Prop := Met l y ws rm (fPre dC dI av W T sz) (va_Qd post (fun u t => fB dC dI (va_A W sz) (W' u) (T' u) t) (va_A W sz)) rm.cells rm.slots (va_A W sz)
set_option maxHeartbeats 1000000 in
theorem oP_l {l : Launch} {y : MethodName} {ws ws' : List Cond} {rm : Room} {cc : ByteArray} {maxL : Nat} {dC : Nat → ClassId} {dI : Nat → Nat → Nat} {av : List Value} {Wl : va_W} {T : fT} {sz : Nat} {S : Type} {post : Int64 → S → Prop} {W' : S → va_W} {T' : S → fT} (hy : plainName y.cls = true) (hw : ws = Cond.code y cc maxL (some .long) :: ws') (hlen : (lg_sl av).length ≤ maxL)
    (body : ∀ (p : Program) (e : Env) (s : State) (m : MethodId) (args : Array Value) (below : List Frame) (meth : Method) (c : Code) (ls : Array Slot) (A : Nat → Prop) (Q : State → Prop), p.tables.exec = Jvm.exec → c.code = cc → meth.sig.returnType = some .long → c.maxLocals = maxL → s.vm.findClass y.cls = some m.cls → (∀ w ∈ ws, w.before args s = true) → fN s → fZ A s s.heap → (∀ q : Nat, s.heap.size ≤ q → A q) → meth.name = y.name → meth.locks = false → va_P (dC, dI) vwCl Wl s.heap → va_K (dC, dI) vwCl T s → va_D A Wl → lv_has ls maxL (lv_args 0 av) →
    (∀ (r : Int64) (u : S) (H : Heap) (locs : List Loc) (cells slots pc : Nat) (ls : Array Slot), post r u → va_P (dC, dI) vwCl (W' u) H → va_K (dC, dI) vwCl (T' u) s → va_D A (W' u) → va_S A s.heap H locs → cells ≤ rm.cells → slots ≤ rm.slots → decode cc pc = .ok (.lreturn, 1) → W p l e rm s m args below meth c H locs cells slots Q (F0 m pc ls [.long r])) →
    W p l e rm s m args below meth c s.heap [] 0 0 Q (F0 m 0 ls [])) : fMl l y ws rm dC dI av Wl T sz post W' T' := by
  refine Met.ofW (cc := cc) (maxL := maxL) (ret := (some .long)) hy hw ?_
  intro p e s m args below meth c s₁ B hml hv
  obtain ⟨rfl, hsz, hP, hK, hD0, hN, hZ⟩ := hv
  subst hsz
  have hx := B.exec
  have hb := B.bytes
  have hr := B.returns
  have hlocks := B.notSynchronized
  have hl := lv_entry av (n := maxL) hlen
  rw [lg_entry_eq]
  refine body p e s m _ below meth c _ (va_A Wl s.heap.size) _ hx hb hr hml (findClass_of_methodNamed B.named) (atoms_spec (ws := ws) B.pre) hN hZ (fun q h => Or.inr h) (name_of_methodNamed B.named B.method).1 hlocks hP hK hD0.self hl ?_
  intro r u H locs cells slots pc ls hp hP1 hK1 hD1 hS hc hs d
  refine W.widen hc hs ?_
  exact W.lret (v := r) hx hb hr (fun t ht hW => ⟨⟨r, u, rfl, hp, by rw [ht]; exact hP1, va_K.moved hW.alike hK1, hD1⟩, hS.F ht⟩) hS.2.2 d
set_option maxHeartbeats 1000000 in
theorem oP_f {l : Launch} {y : MethodName} {ws ws' : List Cond} {rm : Room} {cc : ByteArray} {maxL : Nat} {dC : Nat → ClassId} {dI : Nat → Nat → Nat} {av : List Value} {Wl : va_W} {T : fT} {sz : Nat} {S : Type} {post : UInt32 → S → Prop} {W' : S → va_W} {T' : S → fT} (hy : plainName y.cls = true) (hw : ws = Cond.code y cc maxL (some .float) :: ws') (hlen : (lg_sl av).length ≤ maxL)
    (body : ∀ (p : Program) (e : Env) (s : State) (m : MethodId) (args : Array Value) (below : List Frame) (meth : Method) (c : Code) (ls : Array Slot) (A : Nat → Prop) (Q : State → Prop), p.tables.exec = Jvm.exec → c.code = cc → meth.sig.returnType = some .float → c.maxLocals = maxL → s.vm.findClass y.cls = some m.cls → (∀ w ∈ ws, w.before args s = true) → fN s → fZ A s s.heap → (∀ q : Nat, s.heap.size ≤ q → A q) → meth.name = y.name → meth.locks = false → va_P (dC, dI) vwCl Wl s.heap → va_K (dC, dI) vwCl T s → va_D A Wl → lv_has ls maxL (lv_args 0 av) →
    (∀ (r : UInt32) (u : S) (H : Heap) (locs : List Loc) (cells slots pc : Nat) (ls : Array Slot), post r u → va_P (dC, dI) vwCl (W' u) H → va_K (dC, dI) vwCl (T' u) s → va_D A (W' u) → va_S A s.heap H locs → cells ≤ rm.cells → slots ≤ rm.slots → decode cc pc = .ok (.freturn, 1) → W p l e rm s m args below meth c H locs cells slots Q (F0 m pc ls [.float r])) →
    W p l e rm s m args below meth c s.heap [] 0 0 Q (F0 m 0 ls [])) : fMf l y ws rm dC dI av Wl T sz post W' T' := by
  refine Met.ofW (cc := cc) (maxL := maxL) (ret := (some .float)) hy hw ?_
  intro p e s m args below meth c s₁ B hml hv
  obtain ⟨rfl, hsz, hP, hK, hD0, hN, hZ⟩ := hv
  subst hsz
  have hx := B.exec
  have hb := B.bytes
  have hr := B.returns
  have hlocks := B.notSynchronized
  have hl := lv_entry av (n := maxL) hlen
  rw [lg_entry_eq]
  refine body p e s m _ below meth c _ (va_A Wl s.heap.size) _ hx hb hr hml (findClass_of_methodNamed B.named) (atoms_spec (ws := ws) B.pre) hN hZ (fun q h => Or.inr h) (name_of_methodNamed B.named B.method).1 hlocks hP hK hD0.self hl ?_
  intro r u H locs cells slots pc ls hp hP1 hK1 hD1 hS hc hs d
  refine W.widen hc hs ?_
  exact W.fret (v := r) hx hb hr (fun t ht hW => ⟨⟨r, u, rfl, hp, by rw [ht]; exact hP1, va_K.moved hW.alike hK1, hD1⟩, hS.F ht⟩) hS.2.2 d
set_option maxHeartbeats 1000000 in
theorem oP_d {l : Launch} {y : MethodName} {ws ws' : List Cond} {rm : Room} {cc : ByteArray} {maxL : Nat} {dC : Nat → ClassId} {dI : Nat → Nat → Nat} {av : List Value} {Wl : va_W} {T : fT} {sz : Nat} {S : Type} {post : UInt64 → S → Prop} {W' : S → va_W} {T' : S → fT} (hy : plainName y.cls = true) (hw : ws = Cond.code y cc maxL (some .double) :: ws') (hlen : (lg_sl av).length ≤ maxL)
    (body : ∀ (p : Program) (e : Env) (s : State) (m : MethodId) (args : Array Value) (below : List Frame) (meth : Method) (c : Code) (ls : Array Slot) (A : Nat → Prop) (Q : State → Prop), p.tables.exec = Jvm.exec → c.code = cc → meth.sig.returnType = some .double → c.maxLocals = maxL → s.vm.findClass y.cls = some m.cls → (∀ w ∈ ws, w.before args s = true) → fN s → fZ A s s.heap → (∀ q : Nat, s.heap.size ≤ q → A q) → meth.name = y.name → meth.locks = false → va_P (dC, dI) vwCl Wl s.heap → va_K (dC, dI) vwCl T s → va_D A Wl → lv_has ls maxL (lv_args 0 av) →
    (∀ (r : UInt64) (u : S) (H : Heap) (locs : List Loc) (cells slots pc : Nat) (ls : Array Slot), post r u → va_P (dC, dI) vwCl (W' u) H → va_K (dC, dI) vwCl (T' u) s → va_D A (W' u) → va_S A s.heap H locs → cells ≤ rm.cells → slots ≤ rm.slots → decode cc pc = .ok (.dreturn, 1) → W p l e rm s m args below meth c H locs cells slots Q (F0 m pc ls [.double r])) →
    W p l e rm s m args below meth c s.heap [] 0 0 Q (F0 m 0 ls [])) : fMd l y ws rm dC dI av Wl T sz post W' T' := by
  refine Met.ofW (cc := cc) (maxL := maxL) (ret := (some .double)) hy hw ?_
  intro p e s m args below meth c s₁ B hml hv
  obtain ⟨rfl, hsz, hP, hK, hD0, hN, hZ⟩ := hv
  subst hsz
  have hx := B.exec
  have hb := B.bytes
  have hr := B.returns
  have hlocks := B.notSynchronized
  have hl := lv_entry av (n := maxL) hlen
  rw [lg_entry_eq]
  refine body p e s m _ below meth c _ (va_A Wl s.heap.size) _ hx hb hr hml (findClass_of_methodNamed B.named) (atoms_spec (ws := ws) B.pre) hN hZ (fun q h => Or.inr h) (name_of_methodNamed B.named B.method).1 hlocks hP hK hD0.self hl ?_
  intro r u H locs cells slots pc ls hp hP1 hK1 hD1 hS hc hs d
  refine W.widen hc hs ?_
  exact W.dret (v := r) hx hb hr (fun t ht hW => ⟨⟨r, u, rfl, hp, by rw [ht]; exact hP1, va_K.moved hW.alike hK1, hD1⟩, hS.F ht⟩) hS.2.2 d
