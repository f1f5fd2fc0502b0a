/-! ===== BEGIN .. of methods that hand back an object of the pool ===== -/
section
variable {p : Program} {l : Launch} {e : Env} {R : Room} {s : State} {m : MethodId} {args : Array Value} {below : List Frame} {meth : Method} {c : Code} {H : Heap} {locs : List Loc} {cells slots : Nat} {Q : State → Prop}
variable {mc ms : Nat} {free : Addr → Prop} {A0 A1 : Nat → Prop} {H0 : Heap} {a : Array Value} {pc : Nat} {ls : Array Slot} {st0 rest : List Value}
theorem vx_callq {S SX : Type} {post : Option Nat → S → Prop} {px : SX → Prop} {B : S → State → Prop} {BX : String → SX → State → Prop} {AX : Nat → Prop} (hr : vx_Run p l e R s m args below meth c H locs cells slots mc ms (F0 m pc ls st0) rest (va_Qq post B A1 a) (vx_X px BX AX) free) (hS : va_S A0 H0 H locs) (hA : ∀ q, q < H.size → A1 q → A0 q) (hf : ∀ q, free q → A0 q) (hAX : ∀ q, q < H.size → AX q → A0 q)
    (kx : ∀ (E : String) (ce : Cell) (q9 : Addr) (u : SX) (t : State) (H1 : Heap) (locs1 : List Loc), t.heap = H1 → s.vm.Alike t.vm → px u → BX E u t → H.size ≤ H1.size → (∀ q : Nat, q < H.size → ¬ AX q → H1[q]? = H[q]?) → va_S A0 H0 H1 locs1 → H1[q9]? = some ce → ce.vm = .none → s.vm.findClass E = some ce.cls → vx_W p l e R s m args below meth c H1 locs1 (cells + mc) (slots + ms) Q (F0 m pc ls rest) q9)
    (kk : ∀ (r : Option Nat) (u : S) (t : State) (H1 : Heap) (locs1 : List Loc), t.heap = H1 → s.vm.Alike t.vm → post r u → B u t → H.size ≤ H1.size → (∀ q : Nat, q < H.size → ¬ A1 q → H1[q]? = H[q]?) → va_S A0 H0 H1 locs1 → W p l e R s m args below meth c H1 locs1 (cells + mc) (slots + ms) Q (F0 m (pc + 3) ls (va_rf r :: rest))) : W p l e R s m args below meth c H locs cells slots Q (F0 m pc ls st0) := by
  intro T hT X
  rcases hr T hT X with ⟨v, st₀, t, T', L, h0, X', hL, e1, e2, ⟨⟨r, u, hv, hp, hb⟩, hF⟩, st⟩ | ⟨q, st₀, t, T', L, E, ce, h0, X', hL, e1, e2, ⟨u, hp, hb, hF⟩, hce, hcv, hcl, st⟩
  · cases hv
    obtain ⟨k1, k2, k3⟩ := vx_keep h0 e1 hS hA hf hL hF
    obtain ⟨t2, a1, b1⟩ := kk r u t T'.heap (locs ++ L) e1.symm (by rw [← e2]; exact X'.warmed.alike) hp hb k1 k2 k3 T' rfl X'
    exact ⟨t2, st t2 a1, b1⟩
  · obtain ⟨k1, k2, k3⟩ := vx_keep h0 e1 hS hAX hf hL hF
    obtain ⟨t2, a1, b1⟩ := kx E ce q u t T'.heap (locs ++ L) e1.symm (by rw [← e2]; exact X'.warmed.alike) hp hb k1 k2 k3 (by rw [e1]; exact hce) hcv hcl T' rfl X'
    exact ⟨t2, st.trans a1, b1⟩
end
/-! ===== END ===== -/

/-! What all contracts carry: words of nest mates, constants, the two statics that a throw reads; the uniform contract over a list of cells. -/
def fNl : List Cond := [.fieldLinkNest "Netcompare$Pair" 38 "Netcompare$Circuit" "netCount" "I" "Netcompare", .fieldLinkNest "Netcompare$Match" 59 "Netcompare$Circuit" "netCount" "I" "Netcompare", .fieldLinkNest "Netcompare" 145 "Netcompare$Circuit" "netCount" "I" "Netcompare", .fieldLinkNest "Netcompare$Pair" 42 "Netcompare$Members" "classCount" "I" "Netcompare", .fieldLinkNest "Netcompare" 192 "Netcompare$Members" "classCount" "I" "Netcompare", .fieldLinkNest "Netcompare$Match" 42 "Netcompare$Differences" "count" "I" "Netcompare", .fieldLinkNest "Netcompare" 246 "Netcompare$Differences" "count" "I" "Netcompare", .fieldLinkNest "Netcompare$Match" 55 "Netcompare$Pair" "wished" "LNetcompare$Circuit;" "Netcompare", .fieldLinkNest "Netcompare" 126 "Netcompare$Pair" "wished" "LNetcompare$Circuit;" "Netcompare", .fieldLinkNest "Netcompare$Match" 64 "Netcompare$Pair" "drawn" "LNetcompare$Circuit;" "Netcompare", .fieldLinkNest "Netcompare" 122 "Netcompare$Pair" "drawn" "LNetcompare$Circuit;" "Netcompare", .fieldLinkNest "Netcompare$Match" 85 "Netcompare$Pair" "ofNets" "LNetcompare$Members;" "Netcompare", .fieldLinkNest "Netcompare" 188 "Netcompare$Pair" "ofNets" "LNetcompare$Members;" "Netcompare", .fieldLinkNest "Netcompare" 197 "Netcompare$Pair" "ofParts" "LNetcompare$Members;" "Netcompare", .fieldLinkNest "Netcompare$Match" 38 "Netcompare$Pair" "unequal" "LNetcompare$Differences;" "Netcompare", .fieldLinkNest "Netcompare" 242 "Netcompare$Pair" "unequal" "LNetcompare$Differences;" "Netcompare", .fieldLinkNest "Netcompare" 185 "Netcompare$Pair" "roundCount" "I" "Netcompare", .fieldLinkNest "Netcompare" 305 "Netcompare$Pair" "isColoured" "Z" "Netcompare", .fieldLinkNest "Netcompare" 219 "Netcompare$Match" "isFound" "Z" "Netcompare", .fieldLinkNest "Netcompare" 308 "Netcompare$Match" "isSearched" "Z" "Netcompare", .methodLinkNest "Netcompare$Pair" 83 ⟨"Netcompare", "slot", "(II)I"⟩ "Netcompare", .methodLinkNest "Netcompare$Members" 41 ⟨"Netcompare", "slot", "(II)I"⟩ "Netcompare", .castable "java/lang/IllegalArgumentException" "java/lang/IllegalArgumentException", .declares ⟨"java/lang/RuntimeException", "<init>", "(Ljava/lang/String;)V"⟩, .declares ⟨"java/lang/Exception", "<init>", "(Ljava/lang/String;)V"⟩, .declares ⟨"java/lang/Throwable", "<init>", "(Ljava/lang/String;)V"⟩, .castable "java/lang/IllegalStateException" "java/lang/IllegalStateException", .castable "java/util/NoSuchElementException" "java/util/NoSuchElementException", .castable "java/lang/ArrayIndexOutOfBoundsException" "java/lang/ArrayIndexOutOfBoundsException", .declares ⟨"java/lang/IndexOutOfBoundsException", "<init>", "(Ljava/lang/String;)V"⟩, .castable "java/lang/IndexOutOfBoundsException" "java/lang/IndexOutOfBoundsException", .castable "java/lang/UnsupportedOperationException" "java/lang/UnsupportedOperationException", .methodLinkNest "Netcompare$Differences" 26 ⟨"Netcompare", "slot", "(II)I"⟩ "Netcompare", .castable "java/lang/ArithmeticException" "java/lang/ArithmeticException", .castable "[I" "java/lang/Cloneable"]
def fSl : List (Nat × String) := [(279, "no such circuit"), (40, "the circuit has all its nets"), (50, "no such letter"), (106, "no such net"), (61, "another net has the letter"), (281, "no such kind"), (283, "no such value"), (75, "a third net without a third pin"), (81, "all parts of the circuit have been added"), (291, "no such part"), (293, "no such pin"), (117, "the pins of a diode stay"), (140, "neither in series nor in parallel"), (176, "no such index"), (299, "too many nets to try all ways"), (301, "no match"), (303, "no such difference"), (271, "no classes"), (274, "no net reaches a port")]
def fNk : Cond → Bool
  | .fieldLinkNest .. => true
  | .methodLinkNest .. => true
  | .castable .. => true
  | .declares _ => true
  | _ => false
theorem fNl_k : fNl.all fNk = true := by decide +kernel
def fN (U : State) : Prop := (∀ w ∈ fNl, va_Nw w U) ∧ ∀ q ∈ fSl, ∃ a : Nat, vk_R "Netcompare" q.1 q.2 a U
def fZ (A : Nat → Prop) (U : State) (H : Heap) : Prop := vx_Zq Bundle.tN "UNASSIGNED_STACK" Bundle.steD A U H ∧ vx_Zq Bundle.tN "SUPPRESSED_SENTINEL" Bundle.listD A U H
theorem fN.same {u U : State} (hv : U.vm = u.vm) (h : fN u) : fN U := by
  refine ⟨fun w hw => ?_, fun q hq => ?_⟩
  · have hk := List.all_eq_true.mp fNl_k w hw
    have h1 := h.1 w hw
    cases w <;> first | exact va_tabs rfl hv.symm h1 | (simp [fNk] at hk)
  · obtain ⟨a, ha⟩ := h.2 q hq
    exact ⟨a, vk_R.same hv ha⟩
theorem fN.warm {s U : State} (hW : s.WarmedH U.vm) (h : fN s) : fN U := by
  refine ⟨fun w hw => ?_, fun q hq => ?_⟩
  · have hk := List.all_eq_true.mp fNl_k w hw
    have h1 := h.1 w hw
    cases w <;> first | exact va_Nw.warmF hW h1 | exact va_Nw.warmM hW h1 | exact va_Nw.warmC hW h1 | exact va_Nw.warmD hW h1 | (simp [fNk] at hk)
  · obtain ⟨a, ha⟩ := h.2 q hq
    exact ⟨a, vk_R.warm hW ha⟩
theorem fZ.moved {A : Nat → Prop} {u U : State} {H : Heap} (hvm : u.vm.Alike U.vm) (h : fZ A u H) : fZ A U H := ⟨vx_Zq.moved hvm h.1, vx_Zq.moved hvm h.2⟩
theorem fZ.kept {A : Nat → Prop} {U : State} {H H1 : Heap} (h : fZ A U H) (hq : ∀ a : Nat, a < H.size → ¬ A a → H1[a]? = H[a]?) : fZ A U H1 := ⟨h.1.kept hq, h.2.kept hq⟩
theorem fZ.narrow {A B : Nat → Prop} {U : State} {H : Heap} (h : fZ A U H) (hAB : ∀ q, B q → A q) : fZ B U H := ⟨h.1.narrow hAB, h.2.narrow hAB⟩
theorem fU_c (x : Int32) (i : Nat) : upd (fun _ => x) i x = fun _ => x := funext fun j => by unfold upd; split <;> rfl
theorem fCp0 (a b n : Nat) : va_cpy (fun _ => (0 : Int32)) (fun _ => 0) a b n = fun _ => 0 := funext fun j => by unfold va_cpy; split <;> rfl
abbrev fch (a0 a1 a2 a3 a4 a5 a6 a7 a8 a9 : Nat) : Nat → Option Nat := va_up (va_up (va_up (va_up (va_up (va_up (va_up (va_up (va_up (va_up (fun _ => none) 0 (some a0)) 1 (some a1)) 2 (some a2)) 3 (some a3)) 4 (some a4)) 5 (some a5)) 6 (some a6)) 7 (some a7)) 8 (some a8)) 9 (some a9)
abbrev fT : Type := List (ClassId × FieldType)
def fPre (dC : Nat → ClassId) (dI : Nat → Nat → Nat) (av : List Value) (W : va_W) (T : fT) (sz : Nat) : Array Value → State → Prop := va_Pc av (fun U => U.heap.size = sz ∧ va_P (dC, dI) vwCl W U.heap ∧ va_K (dC, dI) vwCl T U ∧ va_D (fun _ => True) W ∧ fN U ∧ fZ (va_A W sz) U U.heap)
theorem fBlind {dC : Nat → ClassId} {dI : Nat → Nat → Nat} {av : List Value} {W : va_W} {T : fT} {sz : Nat} : FrameBlind (fPre dC dI av W T sz) := by
  intro a U g mk h
  obtain ⟨h0, h1, hP, hK, hD, hN, hZ⟩ := h
  exact ⟨h0, h1, hP, va_K.moved (u := U) (U := U.calling g mk a) (Vm.Alike.refl U.vm) hK, hD, fN.same (u := U) (U := U.calling g mk a) rfl hN, fZ.moved (u := U) (U := U.calling g mk a) (Vm.Alike.refl U.vm) hZ⟩
theorem fPreS {dC : Nat → ClassId} {dI : Nat → Nat → Nat} {av : List Value} {W : va_W} {T : fT} {s : State} {H : Heap} {A A0 : Nat → Prop} {locs : List Loc} (hN : fN s) (hZ : fZ A s s.heap) (hS : va_S A s.heap H locs) (hF : ∀ q, va_A W H.size q → A q) (hP : va_P (dC, dI) vwCl W H) (hK : va_K (dC, dI) vwCl T s) (hD : va_D A0 W) : PreS s H (fPre dC dI av W T H.size) av :=
  ⟨fBlind, fun U hU hW => ⟨rfl, by rw [hU], by rw [hU]; exact hP, va_K.moved hW.alike hK, hD.weaken (fun _ _ _ _ => trivial), fN.warm hW hN, by rw [hU]; exact fZ.moved hW.alike ((hZ.kept hS.2.1).narrow hF)⟩⟩
theorem fPreV {dC : Nat → ClassId} {dI : Nat → Nat → Nat} {b : Nat} {As : List Value} {W : va_W} {T : fT} {s : State} {H : Heap} {A A0 : Nat → Prop} {locs : List Loc} (hN : fN s) (hZ : fZ A s s.heap) (hS : va_S A s.heap H locs) (hF : ∀ q, va_A W H.size q → A q) (hP : va_P (dC, dI) vwCl W H) (hK : va_K (dC, dI) vwCl T s) (hD : va_D A0 W) {q0 ci : Nat} {q : vw_C} {fs : List Value} (hc : vwCl[ci]? = some q) (he : W[q0]? = some (b, .inr (ci, fs))) : PreV s H q.1 b (fPre dC dI (.ref b :: As) W T H.size) As :=
  ⟨fBlind, va_recv hK hP hc he, (fPreS (av := .ref b :: As) hN hZ hS hF hP hK hD).2⟩
def fB (dC : Nat → ClassId) (dI : Nat → Nat → Nat) (A : Nat → Prop) (W : va_W) (T : fT) (t : State) : Prop := va_P (dC, dI) vwCl W t.heap ∧ va_K (dC, dI) vwCl T t ∧ va_D A W
abbrev fE (PE : String → Prop) (A : Nat → Prop) : String → State → State → Prop := vx_X (fun _ : Unit => True) (fun E _ _ => PE E) A
abbrev fMv (l : Launch) (y : MethodName) (ws : List Cond) (rm : Room) (dC : Nat → ClassId) (dI : Nat → Nat → Nat) (av : List Value) (W : va_W) (T : fT) (sz : Nat) {S : Type} (post : S → Prop) (W' : S → va_W) (T' : S → fT) : Prop := Met l y ws rm (fPre dC dI av W T sz) (va_Qv post (fun u t => fB dC dI (va_A W sz) (W' u) (T' u) t) (va_A W sz)) rm.cells rm.slots (va_A W sz)
abbrev fMi (l : Launch) (y : MethodName) (ws : List Cond) (rm : Room) (dC : Nat → ClassId) (dI : Nat → Nat → Nat) (av : List Value) (W : va_W) (T : fT) (sz : Nat) {S : Type} (post : Int32 → S → Prop) (W' : S → va_W) (T' : S → fT) : Prop := Met l y ws rm (fPre dC dI av W T sz) (va_Qi post (fun u t => fB dC dI (va_A W sz) (W' u) (T' u) t) (va_A W sz)) rm.cells rm.slots (va_A W sz)
abbrev fMq (l : Launch) (y : MethodName) (ws : List Cond) (rm : Room) (dC : Nat → ClassId) (dI : Nat → Nat → Nat) (av : List Value) (W : va_W) (T : fT) (sz : Nat) {S : Type} (post : Option Nat → S → Prop) (W' : S → va_W) (T' : S → fT) : Prop := Met l y ws rm (fPre dC dI av W T sz) (va_Qq post (fun u t => fB dC dI (va_A W sz) (W' u) (T' u) t) (va_A W sz)) rm.cells rm.slots (va_A W sz)
abbrev fXv (l : Launch) (y : MethodName) (ws : List Cond) (rm : Room) (dC : Nat → ClassId) (dI : Nat → Nat → Nat) (av : List Value) (W : va_W) (T : fT) (sz : Nat) (PE : String → Prop) {S : Type} (post : S → Prop) (W' : S → va_W) (T' : S → fT) : Prop := vx_Met l y ws rm (fPre dC dI av W T sz) (va_Qv post (fun u t => fB dC dI (va_A W sz) (W' u) (T' u) t) (va_A W sz)) (fE PE (va_A W sz)) rm.cells rm.slots (va_A W sz)
abbrev fXi (l : Launch) (y : MethodName) (ws : List Cond) (rm : Room) (dC : Nat → ClassId) (dI : Nat → Nat → Nat) (av : List Value) (W : va_W) (T : fT) (sz : Nat) (PE : String → Prop) {S : Type} (post : Int32 → S → Prop) (W' : S → va_W) (T' : S → fT) : Prop := vx_Met l y ws rm (fPre dC dI av W T sz) (va_Qi post (fun u t => fB dC dI (va_A W sz) (W' u) (T' u) t) (va_A W sz)) (fE PE (va_A W sz)) rm.cells rm.slots (va_A W sz)
abbrev fXl (l : Launch) (y : MethodName) (ws : List Cond) (rm : Room) (dC : Nat → ClassId) (dI : Nat → Nat → Nat) (av : List Value) (W : va_W) (T : fT) (sz : Nat) (PE : String → Prop) {S : Type} (post : Int64 → S → Prop) (W' : S → va_W) (T' : S → fT) : Prop := vx_Met l y ws rm (fPre dC dI av W T sz) (va_Ql post (fun u t => fB dC dI (va_A W sz) (W' u) (T' u) t) (va_A W sz)) (fE PE (va_A W sz)) rm.cells rm.slots (va_A W sz)
abbrev fXq (l : Launch) (y : MethodName) (ws : List Cond) (rm : Room) (dC : Nat → ClassId) (dI : Nat → Nat → Nat) (av : List Value) (W : va_W) (T : fT) (sz : Nat) (PE : String → Prop) {S : Type} (post : Option Nat → S → Prop) (W' : S → va_W) (T' : S → fT) : Prop := vx_Met l y ws rm (fPre dC dI av W T sz) (va_Qq post (fun u t => fB dC dI (va_A W sz) (W' u) (T' u) t) (va_A W sz)) (fE PE (va_A W sz)) rm.cells rm.slots (va_A W sz)
set_option maxHeartbeats 1000000 in
theorem oP_v {l : Launch} {y : MethodName} {ws ws' : List Cond} {rm : Room} {cc : ByteArray} {maxL : Nat} {dC : Nat → ClassId} {dI : Nat → Nat → Nat} {av : List Value} {Wl : va_W} {T : fT} {sz : Nat} {S : Type} {post : S → Prop} {W' : S → va_W} {T' : S → fT} (hy : plainName y.cls = true) (hw : ws = Cond.code y cc maxL (none) :: ws') (hlen : (lg_sl av).length ≤ maxL)
    (body : ∀ (p : Program) (e : Env) (s : State) (m : MethodId) (args : Array Value) (below : List Frame) (meth : Method) (c : Code) (ls : Array Slot) (A : Nat → Prop) (Q : State → Prop), p.tables.exec = Jvm.exec → c.code = cc → meth.sig.returnType = none → c.maxLocals = maxL → s.vm.findClass y.cls = some m.cls → (∀ w ∈ ws, w.before args s = true) → fN s → fZ A s s.heap → (∀ q : Nat, s.heap.size ≤ q → A q) → meth.name = y.name → meth.locks = false → va_P (dC, dI) vwCl Wl s.heap → va_K (dC, dI) vwCl T s → va_D A Wl → lv_has ls maxL (lv_args 0 av) →
    (∀ (u : S) (H : Heap) (locs : List Loc) (cells slots pc : Nat) (ls : Array Slot), post u → va_P (dC, dI) vwCl (W' u) H → va_K (dC, dI) vwCl (T' u) s → va_D A (W' u) → va_S A s.heap H locs → cells ≤ rm.cells → slots ≤ rm.slots → decode cc pc = .ok (.return_, 1) → W p l e rm s m args below meth c H locs cells slots Q (F0 m pc ls [])) →
    
    W p l e rm s m args below meth c s.heap [] 0 0 Q (F0 m 0 ls [])) : fMv l y ws rm dC dI av Wl T sz post W' T' := by
  refine Met.ofW (cc := cc) (maxL := maxL) (ret := none) hy hw ?_
  intro p e s m args below meth c s₁ B hml hv
  obtain ⟨rfl, hsz, hP, hK, hD0, hN, hZ⟩ := hv
  subst hsz
  have hx := B.exec
  have hb := B.bytes
  have hr := B.returns
  have hlocks := B.notSynchronized
  have hl := lv_entry av (n := maxL) hlen
  rw [lg_entry_eq]
  refine body p e s m _ below meth c _ (va_A Wl s.heap.size) _ hx hb hr hml (findClass_of_methodNamed B.named) (atoms_spec (ws := ws) B.pre) hN hZ (fun q h => Or.inr h) (name_of_methodNamed B.named B.method).1 hlocks hP hK hD0.self hl ?_
  · intro u H locs cells slots pc ls hp hP1 hK1 hD1 hS hc hs d
    refine W.widen hc hs ?_
    exact W.vret hx hb hr (fun t ht hW => ⟨⟨u, rfl, hp, by rw [ht]; exact hP1, va_K.moved hW.alike hK1, hD1⟩, hS.F ht⟩) hS.2.2 d
set_option maxHeartbeats 1000000 in
theorem oP_i {l : Launch} {y : MethodName} {ws ws' : List Cond} {rm : Room} {cc : ByteArray} {maxL : Nat} {dC : Nat → ClassId} {dI : Nat → Nat → Nat} {av : List Value} {Wl : va_W} {T : fT} {sz : Nat} {S : Type} {post : Int32 → S → Prop} {W' : S → va_W} {T' : S → fT} (hy : plainName y.cls = true) (hw : ws = Cond.code y cc maxL (some .int) :: ws') (hlen : (lg_sl av).length ≤ maxL)
    (body : ∀ (p : Program) (e : Env) (s : State) (m : MethodId) (args : Array Value) (below : List Frame) (meth : Method) (c : Code) (ls : Array Slot) (A : Nat → Prop) (Q : State → Prop), p.tables.exec = Jvm.exec → c.code = cc → meth.sig.returnType = some .int → c.maxLocals = maxL → s.vm.findClass y.cls = some m.cls → (∀ w ∈ ws, w.before args s = true) → fN s → fZ A s s.heap → (∀ q : Nat, s.heap.size ≤ q → A q) → meth.name = y.name → meth.locks = false → va_P (dC, dI) vwCl Wl s.heap → va_K (dC, dI) vwCl T s → va_D A Wl → lv_has ls maxL (lv_args 0 av) →
    (∀ (r : Int32) (u : S) (H : Heap) (locs : List Loc) (cells slots pc : Nat) (ls : Array Slot), post r u → va_P (dC, dI) vwCl (W' u) H → va_K (dC, dI) vwCl (T' u) s → va_D A (W' u) → va_S A s.heap H locs → cells ≤ rm.cells → slots ≤ rm.slots → decode cc pc = .ok (.ireturn, 1) → W p l e rm s m args below meth c H locs cells slots Q (F0 m pc ls [.int r])) →
    
    W p l e rm s m args below meth c s.heap [] 0 0 Q (F0 m 0 ls [])) : fMi l y ws rm dC dI av Wl T sz post W' T' := by
  refine Met.ofW (cc := cc) (maxL := maxL) (ret := (some .int)) hy hw ?_
  intro p e s m args below meth c s₁ B hml hv
  obtain ⟨rfl, hsz, hP, hK, hD0, hN, hZ⟩ := hv
  subst hsz
  have hx := B.exec
  have hb := B.bytes
  have hr := B.returns
  have hlocks := B.notSynchronized
  have hl := lv_entry av (n := maxL) hlen
  rw [lg_entry_eq]
  refine body p e s m _ below meth c _ (va_A Wl s.heap.size) _ hx hb hr hml (findClass_of_methodNamed B.named) (atoms_spec (ws := ws) B.pre) hN hZ (fun q h => Or.inr h) (name_of_methodNamed B.named B.method).1 hlocks hP hK hD0.self hl ?_
  · intro r u H locs cells slots pc ls hp hP1 hK1 hD1 hS hc hs d
    refine W.widen hc hs ?_
    exact W.iret (v := r) hx hb hr (fun t ht hW => ⟨⟨r, u, rfl, hp, by rw [ht]; exact hP1, va_K.moved hW.alike hK1, hD1⟩, hS.F ht⟩) hS.2.2 d
set_option maxHeartbeats 1000000 in
theorem oP_z {l : Launch} {y : MethodName} {ws ws' : List Cond} {rm : Room} {cc : ByteArray} {maxL : Nat} {rt : FieldType} {dC : Nat → ClassId} {dI : Nat → Nat → Nat} {av : List Value} {Wl : va_W} {T : fT} {sz : Nat} {S : Type} {post : Int32 → S → Prop} {W' : S → va_W} {T' : S → fT} (hy : plainName y.cls = true) (hw : ws = Cond.code y cc maxL (some rt) :: ws') (hlen : (lg_sl av).length ≤ maxL)
    (body : ∀ (p : Program) (e : Env) (s : State) (m : MethodId) (args : Array Value) (below : List Frame) (meth : Method) (c : Code) (ls : Array Slot) (A : Nat → Prop) (Q : State → Prop), p.tables.exec = Jvm.exec → c.code = cc → meth.sig.returnType = some rt → c.maxLocals = maxL → s.vm.findClass y.cls = some m.cls → (∀ w ∈ ws, w.before args s = true) → fN s → fZ A s s.heap → (∀ q : Nat, s.heap.size ≤ q → A q) → meth.name = y.name → meth.locks = false → va_P (dC, dI) vwCl Wl s.heap → va_K (dC, dI) vwCl T s → va_D A Wl → lv_has ls maxL (lv_args 0 av) →
    (∀ (r : Int32) (u : S) (H : Heap) (locs : List Loc) (cells slots pc : Nat) (ls : Array Slot), narrow rt (.int r) = .int r → post r u → va_P (dC, dI) vwCl (W' u) H → va_K (dC, dI) vwCl (T' u) s → va_D A (W' u) → va_S A s.heap H locs → cells ≤ rm.cells → slots ≤ rm.slots → decode cc pc = .ok (.ireturn, 1) → W p l e rm s m args below meth c H locs cells slots Q (F0 m pc ls [.int r])) →
    
    W p l e rm s m args below meth c s.heap [] 0 0 Q (F0 m 0 ls [])) : fMi l y ws rm dC dI av Wl T sz post W' T' := by
  refine Met.ofW (cc := cc) (maxL := maxL) (ret := (some rt)) hy hw ?_
  intro p e s m args below meth c s₁ B hml hv
  obtain ⟨rfl, hsz, hP, hK, hD0, hN, hZ⟩ := hv
  subst hsz
  have hx := B.exec
  have hb := B.bytes
  have hr := B.returns
  have hlocks := B.notSynchronized
  have hl := lv_entry av (n := maxL) hlen
  rw [lg_entry_eq]
  refine body p e s m _ below meth c _ (va_A Wl s.heap.size) _ hx hb hr hml (findClass_of_methodNamed B.named) (atoms_spec (ws := ws) B.pre) hN hZ (fun q h => Or.inr h) (name_of_methodNamed B.named B.method).1 hlocks hP hK hD0.self hl ?_
  · intro r u H locs cells slots pc ls hnr hp hP1 hK1 hD1 hS hc hs d
    refine W.widen hc hs ?_
    exact W.zret (v := r) hx hb hr hnr (fun t ht hW => ⟨⟨r, u, rfl, hp, by rw [ht]; exact hP1, va_K.moved hW.alike hK1, hD1⟩, hS.F ht⟩) hS.2.2 d
set_option maxHeartbeats 1000000 in
theorem oP_q {l : Launch} {y : MethodName} {ws ws' : List Cond} {rm : Room} {cc : ByteArray} {maxL : Nat} {rt : FieldType} {dC : Nat → ClassId} {dI : Nat → Nat → Nat} {av : List Value} {Wl : va_W} {T : fT} {sz : Nat} {S : Type} {post : Option Nat → S → Prop} {W' : S → va_W} {T' : S → fT} (hrt : (∃ n, rt = .object n) ∨ ∃ t, rt = .array t) (hy : plainName y.cls = true) (hw : ws = Cond.code y cc maxL (some rt) :: ws') (hlen : (lg_sl av).length ≤ maxL)
    (body : ∀ (p : Program) (e : Env) (s : State) (m : MethodId) (args : Array Value) (below : List Frame) (meth : Method) (c : Code) (ls : Array Slot) (A : Nat → Prop) (Q : State → Prop), p.tables.exec = Jvm.exec → c.code = cc → meth.sig.returnType = some rt → c.maxLocals = maxL → s.vm.findClass y.cls = some m.cls → (∀ w ∈ ws, w.before args s = true) → fN s → fZ A s s.heap → (∀ q : Nat, s.heap.size ≤ q → A q) → meth.name = y.name → meth.locks = false → va_P (dC, dI) vwCl Wl s.heap → va_K (dC, dI) vwCl T s → va_D A Wl → lv_has ls maxL (lv_args 0 av) →
    (∀ (r : Option Nat) (u : S) (H : Heap) (locs : List Loc) (cells slots pc : Nat) (ls : Array Slot), post r u → va_P (dC, dI) vwCl (W' u) H → va_K (dC, dI) vwCl (T' u) s → va_D A (W' u) → va_S A s.heap H locs → cells ≤ rm.cells → slots ≤ rm.slots → decode cc pc = .ok (.areturn, 1) → W p l e rm s m args below meth c H locs cells slots Q (F0 m pc ls [va_rf r])) →
    
    W p l e rm s m args below meth c s.heap [] 0 0 Q (F0 m 0 ls [])) : fMq l y ws rm dC dI av Wl T sz post W' T' := by
  refine Met.ofW (cc := cc) (maxL := maxL) (ret := (some rt)) hy hw ?_
  intro p e s m args below meth c s₁ B hml hv
  obtain ⟨rfl, hsz, hP, hK, hD0, hN, hZ⟩ := hv
  subst hsz
  have hx := B.exec
  have hb := B.bytes
  have hr := B.returns
  have hlocks := B.notSynchronized
  have hl := lv_entry av (n := maxL) hlen
  rw [lg_entry_eq]
  refine body p e s m _ below meth c _ (va_A Wl s.heap.size) _ hx hb hr hml (findClass_of_methodNamed B.named) (atoms_spec (ws := ws) B.pre) hN hZ (fun q h => Or.inr h) (name_of_methodNamed B.named B.method).1 hlocks hP hK hD0.self hl ?_
  · intro r u H locs cells slots pc ls hp hP1 hK1 hD1 hS hc hs d
    refine W.widen hc hs ?_
    exact W.aret (v := va_rf r) hx hb hr hrt (va_rf_or r) (fun t ht hW => ⟨⟨r, u, rfl, hp, by rw [ht]; exact hP1, va_K.moved hW.alike hK1, hD1⟩, hS.F ht⟩) hS.2.2 d
set_option maxHeartbeats 1000000 in
theorem oX_v {l : Launch} (hfl : l.stackTraces = false) {y : MethodName} {ws ws' : List Cond} {rm : Room} {cc : ByteArray} {maxL : Nat} {dC : Nat → ClassId} {dI : Nat → Nat → Nat} {av : List Value} {Wl : va_W} {T : fT} {sz : Nat} {PE : String → Prop} {S : Type} {post : S → Prop} {W' : S → va_W} {T' : S → fT} (hy : plainName y.cls = true) (hw : ws = Cond.code y cc maxL (none) :: ws') (hlen : (lg_sl av).length ≤ maxL)
    (body : ∀ (p : Program) (e : Env) (s : State) (m : MethodId) (args : Array Value) (below : List Frame) (meth : Method) (c : Code) (ls : Array Slot) (A : Nat → Prop) (Q : State → Prop), p.tables.exec = Jvm.exec → c.code = cc → meth.sig.returnType = none → c.maxLocals = maxL → s.vm.findClass y.cls = some m.cls → (∀ w ∈ ws, w.before args s = true) → fN s → fZ A s s.heap → (∀ q : Nat, s.heap.size ≤ q → A q) → meth.name = y.name → meth.locks = false → va_P (dC, dI) vwCl Wl s.heap → va_K (dC, dI) vwCl T s → va_D A Wl → lv_has ls maxL (lv_args 0 av) →
    (∀ (u : S) (H : Heap) (locs : List Loc) (cells slots pc : Nat) (ls : Array Slot), post u → va_P (dC, dI) vwCl (W' u) H → va_K (dC, dI) vwCl (T' u) s → va_D A (W' u) → va_S A s.heap H locs → cells ≤ rm.cells → slots ≤ rm.slots → decode cc pc = .ok (.return_, 1) → W p l e rm s m args below meth c H locs cells slots Q (F0 m pc ls [])) →
    (∀ (E : String) (ce : Cell) (q : Nat) (H : Heap) (locs : List Loc) (cells slots pc : Nat) (ls : Array Slot) (rest : List Value), PE E → H[q]? = some ce → ce.vm = .none → s.vm.findClass E = some ce.cls → va_S A s.heap H locs → cells ≤ rm.cells → slots ≤ rm.slots → vx_W p l e rm s m args below meth c H locs cells slots Q (F0 m pc ls rest) q) →
    (∀ (cls text : String) (names : List String) (ik is ic : Nat) (H : Heap) (locs : List Loc) (cells slots pc : Nat) (ls : Array Slot), PE cls → Bundle.fit cls = true → (∀ n ∈ names, Bundle.fit n = true) → (Cond.classLink y.cls ik cls).before args s = true → (Cond.initialized cls).before args s = true → (∃ a : Nat, vk_R y.cls is text a s) → (∀ w ∈ vx_atS y.cls ic cls names, w.before args s = true) → (∀ w ∈ Cond.classLink y.cls ik cls :: Cond.initialized cls :: vx_atS y.cls ic cls names, vx_ot w = true) → va_S A s.heap H locs → ls.size = maxL → names.length + 3 < rm.frames → 13 * (names.length + 1) + 43 ≤ rm.locals → cells + 1 ≤ rm.cells → slots + 6 ≤ rm.slots →
      decode cc pc = .ok (.new ik, 3) → decode cc (pc + 3) = .ok (.dup, 1) → (decode cc (pc + 4) = .ok (.ldc is, 2) ∧ decode cc (pc + 6) = .ok (.invokespecial ic, 3) ∧ decode cc (pc + 9) = .ok (.athrow, 1) ∨ decode cc (pc + 4) = .ok (.ldc_w is, 3) ∧ decode cc (pc + 7) = .ok (.invokespecial ic, 3) ∧ decode cc (pc + 10) = .ok (.athrow, 1)) → W p l e rm s m args below meth c H locs cells slots Q (F0 m pc ls [])) →
    W p l e rm s m args below meth c s.heap [] 0 0 Q (F0 m 0 ls [])) : fXv l y ws rm dC dI av Wl T sz PE post W' T' := by
  refine vx_ofW (cc := cc) (maxL := maxL) (ret := none) hy hw ?_
  intro p e s m args below meth c s₁ B hml ht hv
  obtain ⟨rfl, hsz, hP, hK, hD0, hN, hZ⟩ := hv
  subst hsz
  have hx := B.exec
  have hb := B.bytes
  have hr := B.returns
  have hlocks := B.notSynchronized
  have hl := lv_entry av (n := maxL) hlen
  rw [lg_entry_eq]
  refine body p e s m _ below meth c _ (va_A Wl s.heap.size) _ hx hb hr hml (findClass_of_methodNamed B.named) (atoms_spec (ws := ws) B.pre) hN hZ (fun q h => Or.inr h) (name_of_methodNamed B.named B.method).1 hlocks hP hK hD0.self hl ?_ ?_ ?_
  · intro u H locs cells slots pc ls hp hP1 hK1 hD1 hS hc hs d
    refine W.widen hc hs ?_
    refine vx_ret ?_
    exact W.vret hx hb hr (fun t ht hW => ⟨⟨u, rfl, hp, by rw [ht]; exact hP1, va_K.moved hW.alike hK1, hD1⟩, hS.F ht⟩) hS.2.2 d
  · intro E ce q H locs cells slots pc ls rest hE h1 h2 h3 hS hc hs
    exact vx_out (fun x hx9 => (ht x hx9).elim) hlocks h1 h2 h3 (fun t ht9 _ => ⟨(), trivial, hE, hS.F ht9⟩) hS.2.2 hc hs
  · intro cls text names ik is ic H locs cells slots pc ls hE h1 h2 h3 h4 h5 h6 h7 hS hsz9 hf1 hf2 hc hs d0 d3 hd
    obtain ⟨sa, h5⟩ := h5
    rcases hd with ⟨d4, d6, d9⟩ | ⟨d4, d6, d9⟩
    · exact vx_throwS hx hb hfl (findClass_of_methodNamed B.named) h1 h2 h3 h4 h5 h6 h7 hZ.1 hZ.2 hS (hsz9.trans hml.symm) d0 d3 d4 d6 d9 (fun x hx9 => (ht x hx9).elim) hf1 (by simpa using hf2) hc hs hlocks (fun t hA hz9 hk9 => ⟨(), trivial, hE, Nat.le_trans hS.1 hz9, fun q hq1 hq2 => by rw [hk9 q (Nat.lt_of_lt_of_le hq1 hS.1)]; exact hS.2.1 q hq1 hq2⟩) hS.2.2 hc hs
    · exact vx_throwSW hx hb hfl (findClass_of_methodNamed B.named) h1 h2 h3 h4 h5 h6 h7 hZ.1 hZ.2 hS (hsz9.trans hml.symm) d0 d3 d4 d6 d9 (fun x hx9 => (ht x hx9).elim) hf1 (by simpa using hf2) hc hs hlocks (fun t hA hz9 hk9 => ⟨(), trivial, hE, Nat.le_trans hS.1 hz9, fun q hq1 hq2 => by rw [hk9 q (Nat.lt_of_lt_of_le hq1 hS.1)]; exact hS.2.1 q hq1 hq2⟩) hS.2.2 hc hs
set_option maxHeartbeats 1000000 in
theorem oX_i {l : Launch} (hfl : l.stackTraces = false) {y : MethodName} {ws ws' : List Cond} {rm : Room} {cc : ByteArray} {maxL : Nat} {dC : Nat → ClassId} {dI : Nat → Nat → Nat} {av : List Value} {Wl : va_W} {T : fT} {sz : Nat} {PE : String → Prop} {S : Type} {post : Int32 → S → Prop} {W' : S → va_W} {T' : S → fT} (hy : plainName y.cls = true) (hw : ws = Cond.code y cc maxL (some .int) :: ws') (hlen : (lg_sl av).length ≤ maxL)
    (body : ∀ (p : Program) (e : Env) (s : State) (m : MethodId) (args : Array Value) (below : List Frame) (meth : Method) (c : Code) (ls : Array Slot) (A : Nat → Prop) (Q : State → Prop), p.tables.exec = Jvm.exec → c.code = cc → meth.sig.returnType = some .int → c.maxLocals = maxL → s.vm.findClass y.cls = some m.cls → (∀ w ∈ ws, w.before args s = true) → fN s → fZ A s s.heap → (∀ q : Nat, s.heap.size ≤ q → A q) → meth.name = y.name → meth.locks = false → va_P (dC, dI) vwCl Wl s.heap → va_K (dC, dI) vwCl T s → va_D A Wl → lv_has ls maxL (lv_args 0 av) →
    (∀ (r : Int32) (u : S) (H : Heap) (locs : List Loc) (cells slots pc : Nat) (ls : Array Slot), post r u → va_P (dC, dI) vwCl (W' u) H → va_K (dC, dI) vwCl (T' u) s → va_D A (W' u) → va_S A s.heap H locs → cells ≤ rm.cells → slots ≤ rm.slots → decode cc pc = .ok (.ireturn, 1) → W p l e rm s m args below meth c H locs cells slots Q (F0 m pc ls [.int r])) →
    (∀ (E : String) (ce : Cell) (q : Nat) (H : Heap) (locs : List Loc) (cells slots pc : Nat) (ls : Array Slot) (rest : List Value), PE E → H[q]? = some ce → ce.vm = .none → s.vm.findClass E = some ce.cls → va_S A s.heap H locs → cells ≤ rm.cells → slots ≤ rm.slots → vx_W p l e rm s m args below meth c H locs cells slots Q (F0 m pc ls rest) q) →
    (∀ (cls text : String) (names : List String) (ik is ic : Nat) (H : Heap) (locs : List Loc) (cells slots pc : Nat) (ls : Array Slot), PE cls → Bundle.fit cls = true → (∀ n ∈ names, Bundle.fit n = true) → (Cond.classLink y.cls ik cls).before args s = true → (Cond.initialized cls).before args s = true → (∃ a : Nat, vk_R y.cls is text a s) → (∀ w ∈ vx_atS y.cls ic cls names, w.before args s = true) → (∀ w ∈ Cond.classLink y.cls ik cls :: Cond.initialized cls :: vx_atS y.cls ic cls names, vx_ot w = true) → va_S A s.heap H locs → ls.size = maxL → names.length + 3 < rm.frames → 13 * (names.length + 1) + 43 ≤ rm.locals → cells + 1 ≤ rm.cells → slots + 6 ≤ rm.slots →
      decode cc pc = .ok (.new ik, 3) → decode cc (pc + 3) = .ok (.dup, 1) → (decode cc (pc + 4) = .ok (.ldc is, 2) ∧ decode cc (pc + 6) = .ok (.invokespecial ic, 3) ∧ decode cc (pc + 9) = .ok (.athrow, 1) ∨ decode cc (pc + 4) = .ok (.ldc_w is, 3) ∧ decode cc (pc + 7) = .ok (.invokespecial ic, 3) ∧ decode cc (pc + 10) = .ok (.athrow, 1)) → W p l e rm s m args below meth c H locs cells slots Q (F0 m pc ls [])) →
    W p l e rm s m args below meth c s.heap [] 0 0 Q (F0 m 0 ls [])) : fXi l y ws rm dC dI av Wl T sz PE post W' T' := by
  refine vx_ofW (cc := cc) (maxL := maxL) (ret := (some .int)) hy hw ?_
  intro p e s m args below meth c s₁ B hml ht hv
  obtain ⟨rfl, hsz, hP, hK, hD0, hN, hZ⟩ := hv
  subst hsz
  have hx := B.exec
  have hb := B.bytes
  have hr := B.returns
  have hlocks := B.notSynchronized
  have hl := lv_entry av (n := maxL) hlen
  rw [lg_entry_eq]
  refine body p e s m _ below meth c _ (va_A Wl s.heap.size) _ hx hb hr hml (findClass_of_methodNamed B.named) (atoms_spec (ws := ws) B.pre) hN hZ (fun q h => Or.inr h) (name_of_methodNamed B.named B.method).1 hlocks hP hK hD0.self hl ?_ ?_ ?_
  · intro r u H locs cells slots pc ls hp hP1 hK1 hD1 hS hc hs d
    refine W.widen hc hs ?_
    refine vx_ret ?_
    exact W.iret (v := r) hx hb hr (fun t ht hW => ⟨⟨r, u, rfl, hp, by rw [ht]; exact hP1, va_K.moved hW.alike hK1, hD1⟩, hS.F ht⟩) hS.2.2 d
  · intro E ce q H locs cells slots pc ls rest hE h1 h2 h3 hS hc hs
    exact vx_out (fun x hx9 => (ht x hx9).elim) hlocks h1 h2 h3 (fun t ht9 _ => ⟨(), trivial, hE, hS.F ht9⟩) hS.2.2 hc hs
  · intro cls text names ik is ic H locs cells slots pc ls hE h1 h2 h3 h4 h5 h6 h7 hS hsz9 hf1 hf2 hc hs d0 d3 hd
    obtain ⟨sa, h5⟩ := h5
    rcases hd with ⟨d4, d6, d9⟩ | ⟨d4, d6, d9⟩
    · exact vx_throwS hx hb hfl (findClass_of_methodNamed B.named) h1 h2 h3 h4 h5 h6 h7 hZ.1 hZ.2 hS (hsz9.trans hml.symm) d0 d3 d4 d6 d9 (fun x hx9 => (ht x hx9).elim) hf1 (by simpa using hf2) hc hs hlocks (fun t hA hz9 hk9 => ⟨(), trivial, hE, Nat.le_trans hS.1 hz9, fun q hq1 hq2 => by rw [hk9 q (Nat.lt_of_lt_of_le hq1 hS.1)]; exact hS.2.1 q hq1 hq2⟩) hS.2.2 hc hs
    · exact vx_throwSW hx hb hfl (findClass_of_methodNamed B.named) h1 h2 h3 h4 h5 h6 h7 hZ.1 hZ.2 hS (hsz9.trans hml.symm) d0 d3 d4 d6 d9 (fun x hx9 => (ht x hx9).elim) hf1 (by simpa using hf2) hc hs hlocks (fun t hA hz9 hk9 => ⟨(), trivial, hE, Nat.le_trans hS.1 hz9, fun q hq1 hq2 => by rw [hk9 q (Nat.lt_of_lt_of_le hq1 hS.1)]; exact hS.2.1 q hq1 hq2⟩) hS.2.2 hc hs
set_option maxHeartbeats 1000000 in
theorem oX_z {l : Launch} (hfl : l.stackTraces = false) {y : MethodName} {ws ws' : List Cond} {rm : Room} {cc : ByteArray} {maxL : Nat} {rt : FieldType} {dC : Nat → ClassId} {dI : Nat → Nat → Nat} {av : List Value} {Wl : va_W} {T : fT} {sz : Nat} {PE : String → Prop} {S : Type} {post : Int32 → S → Prop} {W' : S → va_W} {T' : S → fT} (hy : plainName y.cls = true) (hw : ws = Cond.code y cc maxL (some rt) :: ws') (hlen : (lg_sl av).length ≤ maxL)
    (body : ∀ (p : Program) (e : Env) (s : State) (m : MethodId) (args : Array Value) (below : List Frame) (meth : Method) (c : Code) (ls : Array Slot) (A : Nat → Prop) (Q : State → Prop), p.tables.exec = Jvm.exec → c.code = cc → meth.sig.returnType = some rt → c.maxLocals = maxL → s.vm.findClass y.cls = some m.cls → (∀ w ∈ ws, w.before args s = true) → fN s → fZ A s s.heap → (∀ q : Nat, s.heap.size ≤ q → A q) → meth.name = y.name → meth.locks = false → va_P (dC, dI) vwCl Wl s.heap → va_K (dC, dI) vwCl T s → va_D A Wl → lv_has ls maxL (lv_args 0 av) →
    (∀ (r : Int32) (u : S) (H : Heap) (locs : List Loc) (cells slots pc : Nat) (ls : Array Slot), narrow rt (.int r) = .int r → post r u → va_P (dC, dI) vwCl (W' u) H → va_K (dC, dI) vwCl (T' u) s → va_D A (W' u) → va_S A s.heap H locs → cells ≤ rm.cells → slots ≤ rm.slots → decode cc pc = .ok (.ireturn, 1) → W p l e rm s m args below meth c H locs cells slots Q (F0 m pc ls [.int r])) →
    (∀ (E : String) (ce : Cell) (q : Nat) (H : Heap) (locs : List Loc) (cells slots pc : Nat) (ls : Array Slot) (rest : List Value), PE E → H[q]? = some ce → ce.vm = .none → s.vm.findClass E = some ce.cls → va_S A s.heap H locs → cells ≤ rm.cells → slots ≤ rm.slots → vx_W p l e rm s m args below meth c H locs cells slots Q (F0 m pc ls rest) q) →
    (∀ (cls text : String) (names : List String) (ik is ic : Nat) (H : Heap) (locs : List Loc) (cells slots pc : Nat) (ls : Array Slot), PE cls → Bundle.fit cls = true → (∀ n ∈ names, Bundle.fit n = true) → (Cond.classLink y.cls ik cls).before args s = true → (Cond.initialized cls).before args s = true → (∃ a : Nat, vk_R y.cls is text a s) → (∀ w ∈ vx_atS y.cls ic cls names, w.before args s = true) → (∀ w ∈ Cond.classLink y.cls ik cls :: Cond.initialized cls :: vx_atS y.cls ic cls names, vx_ot w = true) → va_S A s.heap H locs → ls.size = maxL → names.length + 3 < rm.frames → 13 * (names.length + 1) + 43 ≤ rm.locals → cells + 1 ≤ rm.cells → slots + 6 ≤ rm.slots →
      decode cc pc = .ok (.new ik, 3) → decode cc (pc + 3) = .ok (.dup, 1) → (decode cc (pc + 4) = .ok (.ldc is, 2) ∧ decode cc (pc + 6) = .ok (.invokespecial ic, 3) ∧ decode cc (pc + 9) = .ok (.athrow, 1) ∨ decode cc (pc + 4) = .ok (.ldc_w is, 3) ∧ decode cc (pc + 7) = .ok (.invokespecial ic, 3) ∧ decode cc (pc + 10) = .ok (.athrow, 1)) → W p l e rm s m args below meth c H locs cells slots Q (F0 m pc ls [])) →
    W p l e rm s m args below meth c s.heap [] 0 0 Q (F0 m 0 ls [])) : fXi l y ws rm dC dI av Wl T sz PE post W' T' := by
  refine vx_ofW (cc := cc) (maxL := maxL) (ret := (some rt)) hy hw ?_
  intro p e s m args below meth c s₁ B hml ht hv
  obtain ⟨rfl, hsz, hP, hK, hD0, hN, hZ⟩ := hv
  subst hsz
  have hx := B.exec
  have hb := B.bytes
  have hr := B.returns
  have hlocks := B.notSynchronized
  have hl := lv_entry av (n := maxL) hlen
  rw [lg_entry_eq]
  refine body p e s m _ below meth c _ (va_A Wl s.heap.size) _ hx hb hr hml (findClass_of_methodNamed B.named) (atoms_spec (ws := ws) B.pre) hN hZ (fun q h => Or.inr h) (name_of_methodNamed B.named B.method).1 hlocks hP hK hD0.self hl ?_ ?_ ?_
  · intro r u H locs cells slots pc ls hnr hp hP1 hK1 hD1 hS hc hs d
    refine W.widen hc hs ?_
    refine vx_ret ?_
    exact W.zret (v := r) hx hb hr hnr (fun t ht hW => ⟨⟨r, u, rfl, hp, by rw [ht]; exact hP1, va_K.moved hW.alike hK1, hD1⟩, hS.F ht⟩) hS.2.2 d
  · intro E ce q H locs cells slots pc ls rest hE h1 h2 h3 hS hc hs
    exact vx_out (fun x hx9 => (ht x hx9).elim) hlocks h1 h2 h3 (fun t ht9 _ => ⟨(), trivial, hE, hS.F ht9⟩) hS.2.2 hc hs
  · intro cls text names ik is ic H locs cells slots pc ls hE h1 h2 h3 h4 h5 h6 h7 hS hsz9 hf1 hf2 hc hs d0 d3 hd
    obtain ⟨sa, h5⟩ := h5
    rcases hd with ⟨d4, d6, d9⟩ | ⟨d4, d6, d9⟩
    · exact vx_throwS hx hb hfl (findClass_of_methodNamed B.named) h1 h2 h3 h4 h5 h6 h7 hZ.1 hZ.2 hS (hsz9.trans hml.symm) d0 d3 d4 d6 d9 (fun x hx9 => (ht x hx9).elim) hf1 (by simpa using hf2) hc hs hlocks (fun t hA hz9 hk9 => ⟨(), trivial, hE, Nat.le_trans hS.1 hz9, fun q hq1 hq2 => by rw [hk9 q (Nat.lt_of_lt_of_le hq1 hS.1)]; exact hS.2.1 q hq1 hq2⟩) hS.2.2 hc hs
    · exact vx_throwSW hx hb hfl (findClass_of_methodNamed B.named) h1 h2 h3 h4 h5 h6 h7 hZ.1 hZ.2 hS (hsz9.trans hml.symm) d0 d3 d4 d6 d9 (fun x hx9 => (ht x hx9).elim) hf1 (by simpa using hf2) hc hs hlocks (fun t hA hz9 hk9 => ⟨(), trivial, hE, Nat.le_trans hS.1 hz9, fun q hq1 hq2 => by rw [hk9 q (Nat.lt_of_lt_of_le hq1 hS.1)]; exact hS.2.1 q hq1 hq2⟩) hS.2.2 hc hs
set_option maxHeartbeats 1000000 in
theorem oX_l {l : Launch} (hfl : l.stackTraces = false) {y : MethodName} {ws ws' : List Cond} {rm : Room} {cc : ByteArray} {maxL : Nat} {dC : Nat → ClassId} {dI : Nat → Nat → Nat} {av : List Value} {Wl : va_W} {T : fT} {sz : Nat} {PE : String → Prop} {S : Type} {post : Int64 → S → Prop} {W' : S → va_W} {T' : S → fT} (hy : plainName y.cls = true) (hw : ws = Cond.code y cc maxL (some .long) :: ws') (hlen : (lg_sl av).length ≤ maxL)
    (body : ∀ (p : Program) (e : Env) (s : State) (m : MethodId) (args : Array Value) (below : List Frame) (meth : Method) (c : Code) (ls : Array Slot) (A : Nat → Prop) (Q : State → Prop), p.tables.exec = Jvm.exec → c.code = cc → meth.sig.returnType = some .long → c.maxLocals = maxL → s.vm.findClass y.cls = some m.cls → (∀ w ∈ ws, w.before args s = true) → fN s → fZ A s s.heap → (∀ q : Nat, s.heap.size ≤ q → A q) → meth.name = y.name → meth.locks = false → va_P (dC, dI) vwCl Wl s.heap → va_K (dC, dI) vwCl T s → va_D A Wl → lv_has ls maxL (lv_args 0 av) →
    (∀ (r : Int64) (u : S) (H : Heap) (locs : List Loc) (cells slots pc : Nat) (ls : Array Slot), post r u → va_P (dC, dI) vwCl (W' u) H → va_K (dC, dI) vwCl (T' u) s → va_D A (W' u) → va_S A s.heap H locs → cells ≤ rm.cells → slots ≤ rm.slots → decode cc pc = .ok (.lreturn, 1) → W p l e rm s m args below meth c H locs cells slots Q (F0 m pc ls [.long r])) →
    (∀ (E : String) (ce : Cell) (q : Nat) (H : Heap) (locs : List Loc) (cells slots pc : Nat) (ls : Array Slot) (rest : List Value), PE E → H[q]? = some ce → ce.vm = .none → s.vm.findClass E = some ce.cls → va_S A s.heap H locs → cells ≤ rm.cells → slots ≤ rm.slots → vx_W p l e rm s m args below meth c H locs cells slots Q (F0 m pc ls rest) q) →
    (∀ (cls text : String) (names : List String) (ik is ic : Nat) (H : Heap) (locs : List Loc) (cells slots pc : Nat) (ls : Array Slot), PE cls → Bundle.fit cls = true → (∀ n ∈ names, Bundle.fit n = true) → (Cond.classLink y.cls ik cls).before args s = true → (Cond.initialized cls).before args s = true → (∃ a : Nat, vk_R y.cls is text a s) → (∀ w ∈ vx_atS y.cls ic cls names, w.before args s = true) → (∀ w ∈ Cond.classLink y.cls ik cls :: Cond.initialized cls :: vx_atS y.cls ic cls names, vx_ot w = true) → va_S A s.heap H locs → ls.size = maxL → names.length + 3 < rm.frames → 13 * (names.length + 1) + 43 ≤ rm.locals → cells + 1 ≤ rm.cells → slots + 6 ≤ rm.slots →
      decode cc pc = .ok (.new ik, 3) → decode cc (pc + 3) = .ok (.dup, 1) → (decode cc (pc + 4) = .ok (.ldc is, 2) ∧ decode cc (pc + 6) = .ok (.invokespecial ic, 3) ∧ decode cc (pc + 9) = .ok (.athrow, 1) ∨ decode cc (pc + 4) = .ok (.ldc_w is, 3) ∧ decode cc (pc + 7) = .ok (.invokespecial ic, 3) ∧ decode cc (pc + 10) = .ok (.athrow, 1)) → W p l e rm s m args below meth c H locs cells slots Q (F0 m pc ls [])) →
    W p l e rm s m args below meth c s.heap [] 0 0 Q (F0 m 0 ls [])) : fXl l y ws rm dC dI av Wl T sz PE post W' T' := by
  refine vx_ofW (cc := cc) (maxL := maxL) (ret := (some .long)) hy hw ?_
  intro p e s m args below meth c s₁ B hml ht hv
  obtain ⟨rfl, hsz, hP, hK, hD0, hN, hZ⟩ := hv
  subst hsz
  have hx := B.exec
  have hb := B.bytes
  have hr := B.returns
  have hlocks := B.notSynchronized
  have hl := lv_entry av (n := maxL) hlen
  rw [lg_entry_eq]
  refine body p e s m _ below meth c _ (va_A Wl s.heap.size) _ hx hb hr hml (findClass_of_methodNamed B.named) (atoms_spec (ws := ws) B.pre) hN hZ (fun q h => Or.inr h) (name_of_methodNamed B.named B.method).1 hlocks hP hK hD0.self hl ?_ ?_ ?_
  · intro r u H locs cells slots pc ls hp hP1 hK1 hD1 hS hc hs d
    refine W.widen hc hs ?_
    refine vx_ret ?_
    exact W.lret (v := r) hx hb hr (fun t ht hW => ⟨⟨r, u, rfl, hp, by rw [ht]; exact hP1, va_K.moved hW.alike hK1, hD1⟩, hS.F ht⟩) hS.2.2 d
  · intro E ce q H locs cells slots pc ls rest hE h1 h2 h3 hS hc hs
    exact vx_out (fun x hx9 => (ht x hx9).elim) hlocks h1 h2 h3 (fun t ht9 _ => ⟨(), trivial, hE, hS.F ht9⟩) hS.2.2 hc hs
  · intro cls text names ik is ic H locs cells slots pc ls hE h1 h2 h3 h4 h5 h6 h7 hS hsz9 hf1 hf2 hc hs d0 d3 hd
    obtain ⟨sa, h5⟩ := h5
    rcases hd with ⟨d4, d6, d9⟩ | ⟨d4, d6, d9⟩
    · exact vx_throwS hx hb hfl (findClass_of_methodNamed B.named) h1 h2 h3 h4 h5 h6 h7 hZ.1 hZ.2 hS (hsz9.trans hml.symm) d0 d3 d4 d6 d9 (fun x hx9 => (ht x hx9).elim) hf1 (by simpa using hf2) hc hs hlocks (fun t hA hz9 hk9 => ⟨(), trivial, hE, Nat.le_trans hS.1 hz9, fun q hq1 hq2 => by rw [hk9 q (Nat.lt_of_lt_of_le hq1 hS.1)]; exact hS.2.1 q hq1 hq2⟩) hS.2.2 hc hs
    · exact vx_throwSW hx hb hfl (findClass_of_methodNamed B.named) h1 h2 h3 h4 h5 h6 h7 hZ.1 hZ.2 hS (hsz9.trans hml.symm) d0 d3 d4 d6 d9 (fun x hx9 => (ht x hx9).elim) hf1 (by simpa using hf2) hc hs hlocks (fun t hA hz9 hk9 => ⟨(), trivial, hE, Nat.le_trans hS.1 hz9, fun q hq1 hq2 => by rw [hk9 q (Nat.lt_of_lt_of_le hq1 hS.1)]; exact hS.2.1 q hq1 hq2⟩) hS.2.2 hc hs
set_option maxHeartbeats 1000000 in
theorem oX_q {l : Launch} (hfl : l.stackTraces = false) {y : MethodName} {ws ws' : List Cond} {rm : Room} {cc : ByteArray} {maxL : Nat} {rt : FieldType} {dC : Nat → ClassId} {dI : Nat → Nat → Nat} {av : List Value} {Wl : va_W} {T : fT} {sz : Nat} {PE : String → Prop} {S : Type} {post : Option Nat → S → Prop} {W' : S → va_W} {T' : S → fT} (hrt : (∃ n, rt = .object n) ∨ ∃ t, rt = .array t) (hy : plainName y.cls = true) (hw : ws = Cond.code y cc maxL (some rt) :: ws') (hlen : (lg_sl av).length ≤ maxL)
    (body : ∀ (p : Program) (e : Env) (s : State) (m : MethodId) (args : Array Value) (below : List Frame) (meth : Method) (c : Code) (ls : Array Slot) (A : Nat → Prop) (Q : State → Prop), p.tables.exec = Jvm.exec → c.code = cc → meth.sig.returnType = some rt → c.maxLocals = maxL → s.vm.findClass y.cls = some m.cls → (∀ w ∈ ws, w.before args s = true) → fN s → fZ A s s.heap → (∀ q : Nat, s.heap.size ≤ q → A q) → meth.name = y.name → meth.locks = false → va_P (dC, dI) vwCl Wl s.heap → va_K (dC, dI) vwCl T s → va_D A Wl → lv_has ls maxL (lv_args 0 av) →
    (∀ (r : Option Nat) (u : S) (H : Heap) (locs : List Loc) (cells slots pc : Nat) (ls : Array Slot), post r u → va_P (dC, dI) vwCl (W' u) H → va_K (dC, dI) vwCl (T' u) s → va_D A (W' u) → va_S A s.heap H locs → cells ≤ rm.cells → slots ≤ rm.slots → decode cc pc = .ok (.areturn, 1) → W p l e rm s m args below meth c H locs cells slots Q (F0 m pc ls [va_rf r])) →
    (∀ (E : String) (ce : Cell) (q : Nat) (H : Heap) (locs : List Loc) (cells slots pc : Nat) (ls : Array Slot) (rest : List Value), PE E → H[q]? = some ce → ce.vm = .none → s.vm.findClass E = some ce.cls → va_S A s.heap H locs → cells ≤ rm.cells → slots ≤ rm.slots → vx_W p l e rm s m args below meth c H locs cells slots Q (F0 m pc ls rest) q) →
    (∀ (cls text : String) (names : List String) (ik is ic : Nat) (H : Heap) (locs : List Loc) (cells slots pc : Nat) (ls : Array Slot), PE cls → Bundle.fit cls = true → (∀ n ∈ names, Bundle.fit n = true) → (Cond.classLink y.cls ik cls).before args s = true → (Cond.initialized cls).before args s = true → (∃ a : Nat, vk_R y.cls is text a s) → (∀ w ∈ vx_atS y.cls ic cls names, w.before args s = true) → (∀ w ∈ Cond.classLink y.cls ik cls :: Cond.initialized cls :: vx_atS y.cls ic cls names, vx_ot w = true) → va_S A s.heap H locs → ls.size = maxL → names.length + 3 < rm.frames → 13 * (names.length + 1) + 43 ≤ rm.locals → cells + 1 ≤ rm.cells → slots + 6 ≤ rm.slots →
      decode cc pc = .ok (.new ik, 3) → decode cc (pc + 3) = .ok (.dup, 1) → (decode cc (pc + 4) = .ok (.ldc is, 2) ∧ decode cc (pc + 6) = .ok (.invokespecial ic, 3) ∧ decode cc (pc + 9) = .ok (.athrow, 1) ∨ decode cc (pc + 4) = .ok (.ldc_w is, 3) ∧ decode cc (pc + 7) = .ok (.invokespecial ic, 3) ∧ decode cc (pc + 10) = .ok (.athrow, 1)) → W p l e rm s m args below meth c H locs cells slots Q (F0 m pc ls [])) →
    W p l e rm s m args below meth c s.heap [] 0 0 Q (F0 m 0 ls [])) : fXq l y ws rm dC dI av Wl T sz PE post W' T' := by
  refine vx_ofW (cc := cc) (maxL := maxL) (ret := (some rt)) hy hw ?_
  intro p e s m args below meth c s₁ B hml ht hv
  obtain ⟨rfl, hsz, hP, hK, hD0, hN, hZ⟩ := hv
  subst hsz
  have hx := B.exec
  have hb := B.bytes
  have hr := B.returns
  have hlocks := B.notSynchronized
  have hl := lv_entry av (n := maxL) hlen
  rw [lg_entry_eq]
  refine body p e s m _ below meth c _ (va_A Wl s.heap.size) _ hx hb hr hml (findClass_of_methodNamed B.named) (atoms_spec (ws := ws) B.pre) hN hZ (fun q h => Or.inr h) (name_of_methodNamed B.named B.method).1 hlocks hP hK hD0.self hl ?_ ?_ ?_
  · intro r u H locs cells slots pc ls hp hP1 hK1 hD1 hS hc hs d
    refine W.widen hc hs ?_
    refine vx_ret ?_
    exact W.aret (v := va_rf r) hx hb hr hrt (va_rf_or r) (fun t ht hW => ⟨⟨r, u, rfl, hp, by rw [ht]; exact hP1, va_K.moved hW.alike hK1, hD1⟩, hS.F ht⟩) hS.2.2 d
  · intro E ce q H locs cells slots pc ls rest hE h1 h2 h3 hS hc hs
    exact vx_out (fun x hx9 => (ht x hx9).elim) hlocks h1 h2 h3 (fun t ht9 _ => ⟨(), trivial, hE, hS.F ht9⟩) hS.2.2 hc hs
  · intro cls text names ik is ic H locs cells slots pc ls hE h1 h2 h3 h4 h5 h6 h7 hS hsz9 hf1 hf2 hc hs d0 d3 hd
    obtain ⟨sa, h5⟩ := h5
    rcases hd with ⟨d4, d6, d9⟩ | ⟨d4, d6, d9⟩
    · exact vx_throwS hx hb hfl (findClass_of_methodNamed B.named) h1 h2 h3 h4 h5 h6 h7 hZ.1 hZ.2 hS (hsz9.trans hml.symm) d0 d3 d4 d6 d9 (fun x hx9 => (ht x hx9).elim) hf1 (by simpa using hf2) hc hs hlocks (fun t hA hz9 hk9 => ⟨(), trivial, hE, Nat.le_trans hS.1 hz9, fun q hq1 hq2 => by rw [hk9 q (Nat.lt_of_lt_of_le hq1 hS.1)]; exact hS.2.1 q hq1 hq2⟩) hS.2.2 hc hs
    · exact vx_throwSW hx hb hfl (findClass_of_methodNamed B.named) h1 h2 h3 h4 h5 h6 h7 hZ.1 hZ.2 hS (hsz9.trans hml.symm) d0 d3 d4 d6 d9 (fun x hx9 => (ht x hx9).elim) hf1 (by simpa using hf2) hc hs hlocks (fun t hA hz9 hk9 => ⟨(), trivial, hE, Nat.le_trans hS.1 hz9, fun q hq1 hq2 => by rw [hk9 q (Nat.lt_of_lt_of_le hq1 hS.1)]; exact hS.2.1 q hq1 hq2⟩) hS.2.2 hc hs

theorem ns_fit : Bundle.fit "java/util/NoSuchElementException" = true := by decide +kernel
theorem ns_chain {args : Array Value} {s : State} {pl : Platform} (hpl : pl.magicAccessors = ({} : Platform).magicAccessors) {top : MethodId} (htop : s.methodNamed? (Bundle.initS Bundle.tN) = some top) (h : ∀ c ∈ nsC, c.before args s = true) :
    ∃ (P1 : PassC) (Ps : List PassC), Ps.length = 2 ∧ P1.LinksS pl s ∧ (∀ P, P ∈ Ps → P.LinksS pl s) ∧ s.methodNamed? (Bundle.initS "java/util/NoSuchElementException") = some P1.m ∧
      P1.sup = firstOf top (Ps.map (·.toPassT)) ∧ PassesOn top (Ps.map (·.toPassT)) := by
  obtain ⟨P, L, hm, hs⟩ := PassC.ofS_atoms (args := args) (s := s) hpl (X := "java/util/NoSuchElementException") (Y := "java/lang/RuntimeException") (Bundle.fit_spec ns_fit).1 (by decide) nsB_0 nsB_1 nsB_2 nsB_5 (fun c hc => h c (List.mem_append_left _ hc))
  obtain ⟨P', Ps, hlen, L', hL, hm', hsup, hpass⟩ := Bundle.chainS (args := args) (s := s) hpl htop ["java/lang/Exception"] "java/lang/RuntimeException" (by decide +kernel) (by decide +kernel) (fun c hc => h c (List.mem_append_right _ hc))
  refine ⟨P, P' :: Ps, by simp [hlen], L, ?_, hm, Option.some.inj (hs.symm.trans hm'), hsup, hpass⟩
  intro Q hQ
  rcases List.mem_cons.mp hQ with rfl | hQ
  · exact L'
  · exact hL Q hQ
section
variable {p : Program} {l : Launch} {e : Env} {R : Room} {s : State} {m₀ : MethodId} {args : Array Value} {below : List Frame} {meth : Method} {c : Code} {W : State} {locs : List Loc} {cells slots : Nat}
set_option maxHeartbeats 1000000 in
theorem ns_made (X : Stand p l e R s m₀ args below meth c W locs cells slots) (hexec : p.tables.exec = Jvm.exec) (htr : e.platform.stackTraces = false) {own : String} {ic : Nat}
    (hown : s.vm.findClass own = some m₀.cls)
    (h : ∀ a ∈ nsL own ic, a.before args s = true)
    (hlocs : ∀ x ∈ locs, ∀ cell, s.heap[x.base]? = some cell → cell.vm.isStatics = false)
    {a : Addr} {cX : ClassId} {kX : Class} (hfoundX : s.vm.findClass "java/util/NoSuchElementException" = some cX) (hkX : s.vm.classes[cX]? = some kX) (hcell : W.heap[a]? = some (freshCell cX kX)) (hnew : s.heap.size ≤ a)
    {msg : Value} (hmsg : msg.isRef = true)
    {g : JFrame} (hg : g.method = m₀) (hsize : g.locals.size = c.maxLocals) {rest : List Value} (hstack : g.stack = msg :: .ref a :: .ref a :: rest)
    (hd6 : decode c.code g.pc = .ok (.invokespecial ic, 3))
    (hRframes : 5 < R.frames) (hRlocals : 2 * g.monitorRoom + ((Value.ref a :: rest).map fun v => v.category).sum + (81) ≤ R.locals) :
    ∃ (V : State) (ce : Cell) (L : List Loc), Stand p l e R s m₀ args below meth c (V.setCell a ce) (locs ++ L) cells slots ∧ (∀ y ∈ L, y.base = a) ∧ a < V.heap.size ∧ ce.cls = cX ∧ ce.vm = .none ∧
      ∀ target, Steps p.tables e below ((V.setCell a ce).setTop { g with stack := .ref a :: rest, pc := g.pc + 3 }) target → Steps p.tables e below (W.setTop g) target := by
  have howns : e.platform.frameOwnsMonitors = true := by rw [X.admits.platform]
  have hfin : e.platform.finalization = false := by rw [X.admits.platform]
  have hpl : e.platform.magicAccessors = ({} : Platform).magicAccessors := by rw [X.admits.platform]
  have a' : ∀ x, x ∈ nsL own ic → x.holds args s none s [] = true := fun x hx => h x hx
  obtain ⟨T, Z0, L, -, Y⟩ := ThrowableC.of_atoms (args := args) howns hfin hpl (fun x hx => h x (by simp [nsL, hx]))
  obtain ⟨Z, M, LZ, LM, hnZ⟩ := Init0T.ofS_atoms (args := args) hpl L Y (fun x hx => h x (by simp [nsL, hx]))
  obtain ⟨P1, Ps, hlen, L1, hL, hP1m, hlink1, hlink⟩ := ns_chain (args := args) hpl hnZ (fun x hx => h x (by simp [nsL, hx]))
  have hfound : s.vm.findClass "java/util/NoSuchElementException" = some P1.m.cls := findClass_of_methodNamed hP1m
  cases Option.some.inj (hfoundX.symm.trans hfound)
  obtain ⟨c1, kX', hc1, hk, hord, -, -, hn6⟩ := Cond.instantiable_spec (a' (.instantiable "java/util/NoSuchElementException" 6) (by simp [nsL]))
  cases Option.some.inj (hc1.symm.trans hfound)
  cases Option.some.inj (hkX.symm.trans hk)
  have hsel0 : selectMethod e.platform s.vm P1.m.cls T.fill0 = .method T.fill0 := by
    obtain ⟨c2, r2, m2, q1, q2, q3, q4, -⟩ := Cond.selects_spec (a' (.selects "java/util/NoSuchElementException" Bundle.tFill0 Bundle.tFill0) (by simp [nsL]))
    cases Option.some.inj (q1.symm.trans hfound)
    cases Option.some.inj (q2.symm.trans (State.methodFound?_of_named Y.fill0 (by decide)))
    cases Option.some.inj (q3.symm.trans Y.fill0)
    rw [Launch.admits_selectMethod X.admits]; exact q4
  have hselF : selectMethod e.platform s.vm P1.m.cls T.fill = .method T.fill := by
    obtain ⟨c2, r2, m2, q1, q2, q3, q4, -⟩ := Cond.selects_spec (a' (.selects "java/util/NoSuchElementException" Bundle.tFill Bundle.tFill) (by simp [nsL]))
    cases Option.some.inj (q1.symm.trans hfound)
    cases Option.some.inj (q2.symm.trans (State.methodFound?_of_named Y.fill (by decide)))
    cases Option.some.inj (q3.symm.trans Y.fill)
    rw [Launch.admits_selectMethod X.admits]; exact q4
  obtain ⟨cellS0, hcS0, hiss⟩ := Y.statics
  obtain ⟨u0, hu0⟩ := Cond.staticRefV Y.unassigned L.unassignedStatic L.statics hcS0 hiss (a' (.isRef (.static Bundle.tN "UNASSIGNED_STACK" Bundle.steD)) (by simp [nsL]))
  obtain ⟨sen, hsen⟩ := Cond.staticRefV Y.sentinel L.sentinelStatic L.statics hcS0 hiss (a' (.isRef (.static Bundle.tN "SUPPRESSED_SENTINEL" Bundle.listD)) (by simp [nsL]))
  obtain ⟨ci198, i198, fB, hk198, hg198, ha198, hsB, -, hnB, htB, hffB⟩ := Cond.ownField (t := .object "java/lang/Object") Y.found L.cls (by decide +kernel) (a' (.fieldLink Bundle.tN 198 Bundle.tN "backtrace" "Ljava/lang/Object;") (by simp [nsL])) (a' (.lays Bundle.tN Bundle.tN "backtrace" "Ljava/lang/Object;") (by simp [nsL])) e.platform hpl
  obtain ⟨cellS, hcS', heS, -, hkeep⟩ := X.same.2.2.2.2.2 T.aS cellS0 hcS0
  have hcellS : W.heap[T.aS]? = some cellS := hcS'
  have hout' : ∀ i, (⟨T.aS, i⟩ : Loc) ∉ locs := fun i hmem => by
    have := hlocs _ hmem cellS0 hcS0
    rw [hiss] at this; cases this
  have hknownS : cellS.vm ≠ .unknown := by
    rw [heS]; intro hu
    rw [show cellS0.vm = .unknown from hu] at hiss
    cases hiss
  have hneS : T.aS ≠ a := Nat.ne_of_lt (Nat.lt_of_lt_of_le (Array.getElem?_eq_some_iff.mp hcS0).1 hnew)
  obtain ⟨iM, hffM⟩ := Y.msg
  obtain ⟨tyC, dC, hdC, hdnC⟩ := Cond.laysAt hfound hk Y.cause (a' (.lays "java/util/NoSuchElementException" Bundle.tN "cause" "Ljava/lang/Throwable;") (by simp [nsL]))
  obtain ⟨tyS, dS, hdS, hdnS⟩ := Cond.laysAt hfound hk Y.stack (a' (.lays "java/util/NoSuchElementException" Bundle.tN "stackTrace" Bundle.steD) (by simp [nsL]))
  obtain ⟨tyP, dP, hdP, hdnP⟩ := Cond.laysAt hfound hk Y.supp (a' (.lays "java/util/NoSuchElementException" Bundle.tN "suppressedExceptions" Bundle.listD) (by simp [nsL]))
  obtain ⟨tyM, dM, hdM, hdnM⟩ := Cond.laysAt hfound hk hffM (a' (.lays "java/util/NoSuchElementException" Bundle.tN "detailMessage" "Ljava/lang/String;") (by simp [nsL]))
  obtain ⟨tyB, dB, hdB, hdnB⟩ := Cond.laysAt hfound hk hffB (a' (.lays "java/util/NoSuchElementException" Bundle.tN "backtrace" "Ljava/lang/Object;") (by simp [nsL]))
  have bC := Cond.laysApart hdB hdC hdnB hdnC (by rw [hnB, Y.causeName]; decide)
  have bS := Cond.laysApart hdB hdS hdnB hdnS (by rw [hnB, Y.stackName]; decide)
  have bP := Cond.laysApart hdB hdP hdnB hdnP (by rw [hnB, Y.suppName]; decide)
  have hskip : SkipFacts T e.platform s (fun u => u) u0 ((preparedCellV T.toThrowableT (freshCell P1.m.cls kX) a u0 sen).withEntry W.cur) :=
    ⟨{ ci198 := ci198, i198 := i198, fBack := fB }, ⟨hk198, hg198, ha198, hsB⟩, by
      have := fresh_default (c := P1.m.cls) tyB
      rw [htB] at this
      simpa [preparedCellV, Cell.setSlot, Cell.withEntry, Array.getElem?_setIfInBounds, bC, bS, bP, bC.symm, bS.symm, bP.symm, defaultValue] using this, fun _ _ => rfl⟩
  obtain ⟨tm, methC, cdC, kC, vm₁, hnC, -, -, -, -, -, -, -, hW₁, st1⟩ := Steps.initColdS (tb := p.tables) (e := e) (below := below) (s := s) (U := W) X.here hexec X.warmed hpl hown (t := Bundle.initS "java/util/NoSuchElementException") rfl rfl (Bundle.fit_spec ns_fit).2
    (a' (.methodLink own ic (Bundle.initS "java/util/NoSuchElementException")) (by simp [nsL])) (h (.instanceMethod (Bundle.initS "java/util/NoSuchElementException")) (by simp [nsL, nsC, Bundle.passSAtoms])) (bytes := nsB) (maxL := 2) (h (.code (Bundle.initS "java/util/NoSuchElementException") nsB 2 none) (by simp [nsL, nsC, Bundle.passSAtoms]))
    (f := g) hg (a := a) (msg := msg) (rest := .ref a :: rest) hstack hd6
  cases Option.some.inj (hnC.symm.trans hP1m)
  have X₁ := X.noted hW₁
  obtain ⟨vm₂, X₂, st2⟩ := X₁.ctorMessageOffV hexec (g := { g with stack := .ref a :: rest }) hg hsize T L Z LZ M LM (P1 :: Ps)
    (fun P hP => by rcases List.mem_cons.mp hP with rfl | hP; exact L1; exact hL P hP) ⟨hlink1, hlink⟩ (u0 := u0) (sen := sen) (self := a) hmsg (cell := freshCell P1.m.cls kX) (cellS := cellS)
    hcell (fun _ => by simp) (by simp) rfl rfl hsel0 hselF hcellS hneS hknownS (by rw [hkeep _ (hout' _)]; exact hu0) (by rw [hkeep _ (hout' _)]; exact hsen)
    (Takes.of_laid hk hord tyC (by rw [Y.causeType]; rfl)) (Takes.of_laid hk hord tyS (by rw [Y.stackType]; exact fits_refV_array _ u0)) (Takes.of_laid hk hord tyP (by rw [Y.suppType]; exact fits_refV_object _ sen))
    (Takes.of_laid hk hord tyM (by rw [Y.msgType]; exact fits_refV_object _ ⟨msg, hmsg⟩)) Y.objLocals hskip htr [] hd6
    (by simp only [List.length_cons, hlen]; omega) (by simp only [List.length_cons, hlen]; exact hRlocals)
  have hlt : a < ((W.setVm vm₁).setVm vm₂).heap.size := (Array.getElem?_eq_some_iff.mp hcell).1
  refine ⟨(W.setVm vm₁).setVm vm₂, _, _, X₂, fun y hy => ?_, hlt, rfl, rfl, fun target hwalk => st1 _ (fun acts => ?_)⟩
  · simp only [List.mem_cons, List.not_mem_nil, or_false] at hy
    rcases hy with rfl | rfl | rfl | rfl | rfl <;> rfl
  · rw [doInvoke_state]
    exact st2 _ hwalk
end
section
variable {p : Program} {l : Launch} {e : Env} {R : Room} {s : State} {m : MethodId} {args : Array Value} {below : List Frame} {meth : Method} {c : Code} {H : Heap} {locs : List Loc} {cells slots : Nat} {Q : State → Prop}
variable {mc ms : Nat} {free : Addr → Prop} {A0 A1 : Nat → Prop} {H0 : Heap} {a : Array Value} {ls : Array Slot} {st0 rest : List Value}
variable {Qc : Array Value → State → Outcome → State → Prop} {XC : String → State → State → Prop}
theorem ns_throwS {cc : ByteArray} {pc : Nat} (hexec : p.tables.exec = Jvm.exec) (hb : c.code = cc) (hl : l.stackTraces = false) {own text : String} {ik is ic mc ms sa : Nat} {A : Nat → Prop}
    (hown : s.vm.findClass own = some m.cls)
    (hk : (Cond.classLink own ik "java/util/NoSuchElementException").before args s = true) (hini : (Cond.initialized "java/util/NoSuchElementException").before args s = true) (hstr : vk_R own is text sa s) (hat : ∀ w ∈ nsAt own ic, w.before args s = true)
    (hgood : ∀ w ∈ Cond.classLink own ik "java/util/NoSuchElementException" :: Cond.initialized "java/util/NoSuchElementException" :: nsAt own ic, vx_ot w = true)
    (hU : vx_Zq Bundle.tN "UNASSIGNED_STACK" Bundle.steD A s s.heap) (hN : vx_Zq Bundle.tN "SUPPRESSED_SENTINEL" Bundle.listD A s s.heap) (hS : va_S A s.heap H locs) (hsize : ls.size = c.maxLocals)
    (d0 : decode cc pc = .ok (.new ik, 3)) (d3 : decode cc (pc + 3) = .ok (.dup, 1)) (d4 : decode cc (pc + 4) = .ok (.ldc is, 2)) (d6 : decode cc (pc + 6) = .ok (.invokespecial ic, 3)) (d9 : decode cc (pc + 9) = .ok (.athrow, 1))
    (hout : ∀ x ∈ c.exceptionTable.toList, covers x (pc + 9) = false)
    (hRframes : 5 < R.frames) (hRlocals : (rest.map fun v => v.category).sum + (82) ≤ R.locals) (hRcells : cells + 1 ≤ R.cells) (hRslots : slots + 6 ≤ R.slots) (hlocks : meth.locks = false)
    (hx : ∀ t : State, s.vm.Alike t.vm → H.size ≤ t.heap.size → (∀ q : Nat, q < H.size → t.heap[q]? = H[q]?) → XC "java/util/NoSuchElementException" s t)
    (hf : ∀ z ∈ locs, free z.base) (hc : cells + 1 ≤ mc) (hs : slots + 6 ≤ ms) :
    W p l e R s m args below meth c H locs cells slots (vx_MQ below Qc XC args s mc ms free) (F0 m pc ls rest) := by
  intro T hT X
  have htr : e.platform.stackTraces = false := (show e.platform.stackTraces = l.stackTraces by rw [X.admits.platform]).trans hl
  have Y := vx_rebase X (R' := { frames := R.frames, locals := R.locals, cells := 1, slots := 6 }) (Nat.le_refl _) (Nat.le_refl _) hRcells hRslots
  obtain ⟨s', hA⟩ : ∃ z, z = (T.setVm s.vm).setFrames (.invoking m args :: below) := ⟨_, rfl⟩
  rw [← hA] at Y
  have hvm : s'.vm = s.vm := by rw [hA]; rfl
  have hhp : s'.heap = H := by rw [hA]; exact hT
  have hW0 : s.WarmedH s'.vm := by rw [hvm]; exact State.WarmedH.refl s
  have hat' : ∀ w ∈ nsAt own ic, w.before args s' = true := fun w hw => vx_ot_at hW0 hvm.symm (hgood w (List.mem_cons_of_mem _ (List.mem_cons_of_mem _ hw))) (hat w hw)
  have hk' : (Cond.classLink own ik "java/util/NoSuchElementException").before args s' = true := vx_ot_at hW0 hvm.symm (hgood _ List.mem_cons_self) hk
  have hini' : (Cond.initialized "java/util/NoSuchElementException").before args s' = true := vx_ot_at hW0 hvm.symm (hgood _ (List.mem_cons_of_mem _ List.mem_cons_self)) hini
  have hU' : vx_Zq Bundle.tN "UNASSIGNED_STACK" Bundle.steD A s' s'.heap := by rw [hhp]; exact vx_Zq.moved hW0.alike (hU.kept hS.2.1)
  have hN' : vx_Zq Bundle.tN "SUPPRESSED_SENTINEL" Bundle.listD A s' s'.heap := by rw [hhp]; exact vx_Zq.moved hW0.alike (hN.kept hS.2.1)
  have h : ∀ w ∈ nsL own ic, w.before args s' = true := vx_own hat' (vx_isRefq hU'.1) (vx_isRefq hN'.1) hU'.2.word hN'.2.word
  have hown' : s'.vm.findClass own = some m.cls := by rw [hvm]; exact hown
  have hins : (Cond.instantiable "java/util/NoSuchElementException" 6).before args s' = true := h _ (by simp [nsL])
  obtain ⟨vm₁, cX, kX, hfX, hkX, -, -, X₁, st1⟩ := Y.newCold hexec (own := own) (C := "java/util/NoSuchElementException") (index := ik) (n := 6) hown' hk' hins hini'
    (g := F0 m pc ls rest) rfl (by rw [hb]; exact d0) (Nat.le_refl _) (Nat.le_refl _)
  generalize hT1 : (T.setVm vm₁).pushCell { cls := cX, slots := kX.instanceTypes.map defaultValue, vm := .none } = T1 at X₁ st1
  have hcat : (Value.ref T.heap.size).category = 1 := rfl
  have hcellA : T1.heap[T.heap.size]? = some (freshCell cX kX) := by rw [← hT1]; exact State.heap_pushCell_size _ _
  have d3' : decode c.code (pc + 3) = .ok (.dup, 1) := by rw [hb]; exact d3
  have d4' : decode c.code (pc + 4) = .ok (.ldc is, 2) := by rw [hb]; exact d4
  have hstr' : vk_R own is text sa s' := vk_R.warm hW0 hstr
  obtain ⟨V9, ce, L9, X₂, hLb, hlt9, hcl9, hvm9, st2⟩ := ns_made X₁ hexec htr (own := own) (ic := ic) hown' h (fun x hx => nomatch hx) hfX hkX hcellA (by rw [hhp, hT]; exact Nat.le_refl _) (msg := .ref sa) rfl
    (g := { method := m, pc := pc + 6, locals := ls, stack := .ref sa :: .ref T.heap.size :: .ref T.heap.size :: rest, locked := none }) rfl hsize (rest := rest) rfl
    (by rw [hb]; exact d6) hRframes (by first | (simp only [List.map_cons, List.sum_cons, hcat]; omega) | (simp only [List.map_cons, List.sum_cons, hcat]; show 2 * 0 + _ ≤ _; omega))
  obtain ⟨hwalk, hrun, hend, hW, hsame0⟩ := X₂.athrowLeaves hexec (g := { method := m, pc := pc + 9, locals := ls, stack := .ref T.heap.size :: rest, locked := none }) rfl rfl rfl hout (a := T.heap.size) (rest := rest) rfl (by rw [hb]; exact d9) hlocks
  have hsteps := st2 _ hwalk
  have hce := heapAt_setCell_self ce hlt9
  have hsame := hsame0.weaken (l' := []) (fun y hy hlt' => by
    have hyb := hLb y (by simpa using hy)
    rw [hyb, hhp, ← hT] at hlt'
    exact absurd hlt' (Nat.lt_irrefl _)) (Nat.le_refl _) (Nat.le_refl _)
  obtain ⟨f1, f2⟩ := vx_frame hsame
  rw [hhp] at f1 f2
  have hWs : s.WarmedH ((V9.setCell T.heap.size ce).setFrames (.throwing T.heap.size :: below)).vm := State.WarmedH.trans hW0 hW
  have hcl : s.vm.findClass "java/util/NoSuchElementException" = some ce.cls := by
    rw [hcl9, ← hvm]
    exact hfX
  have hall : s.sameButNew ({ (V9.setCell T.heap.size ce).setFrames (.throwing T.heap.size :: below) with vm := s.vm } : State) locs mc ms := by
    subst hA
    obtain ⟨e1, e2⟩ := hsame
    rw [State.setFrames_setFrames] at e1
    have h2 : (T.setVm s.vm).sameButNew ({ (V9.setCell T.heap.size ce).setFrames (.throwing T.heap.size :: below) with vm := s.vm } : State) [] (0 + 1) (0 + 6) := ⟨e1, e2⟩
    have h3 := X.same.trans h2
    rw [List.append_nil] at h3
    exact h3.mono hc hs
  refine ⟨_, ?_, .threw T.heap.size, hrun, hend, Or.inr ⟨T.heap.size, rfl, "java/util/NoSuchElementException", ce, locs, hx _ hWs.alike f1 (fun q hq => f2 q hq (fun z hz => nomatch hz)), hce, hvm9, hcl, hWs, hall, hf⟩⟩
  refine st1 _ ?_
  show Steps p.tables e below (T1.setTop { method := m, pc := pc + 3, locals := ls, stack := .ref T.heap.size :: rest, locked := none }) _
  jvm_step X₁.here [X₁.here.top, hexec, d3', Value.category]
  exact X₁.ldcString hexec (own := own) (text := text) (index := is) (a := sa) hown' hstr'.1 hstr'.2
    (g := { method := m, pc := pc + 4, locals := ls, stack := .ref T.heap.size :: .ref T.heap.size :: rest, locked := none }) rfl d4' _ hsteps
theorem ns_throwSW {cc : ByteArray} {pc : Nat} (hexec : p.tables.exec = Jvm.exec) (hb : c.code = cc) (hl : l.stackTraces = false) {own text : String} {ik is ic mc ms sa : Nat} {A : Nat → Prop}
    (hown : s.vm.findClass own = some m.cls)
    (hk : (Cond.classLink own ik "java/util/NoSuchElementException").before args s = true) (hini : (Cond.initialized "java/util/NoSuchElementException").before args s = true) (hstr : vk_R own is text sa s) (hat : ∀ w ∈ nsAt own ic, w.before args s = true)
    (hgood : ∀ w ∈ Cond.classLink own ik "java/util/NoSuchElementException" :: Cond.initialized "java/util/NoSuchElementException" :: nsAt own ic, vx_ot w = true)
    (hU : vx_Zq Bundle.tN "UNASSIGNED_STACK" Bundle.steD A s s.heap) (hN : vx_Zq Bundle.tN "SUPPRESSED_SENTINEL" Bundle.listD A s s.heap) (hS : va_S A s.heap H locs) (hsize : ls.size = c.maxLocals)
    (d0 : decode cc pc = .ok (.new ik, 3)) (d3 : decode cc (pc + 3) = .ok (.dup, 1)) (d4 : decode cc (pc + 4) = .ok (.ldc_w is, 3)) (d7 : decode cc (pc + 7) = .ok (.invokespecial ic, 3)) (d10 : decode cc (pc + 10) = .ok (.athrow, 1))
    (hout : ∀ x ∈ c.exceptionTable.toList, covers x (pc + 10) = false)
    (hRframes : 5 < R.frames) (hRlocals : (rest.map fun v => v.category).sum + (82) ≤ R.locals) (hRcells : cells + 1 ≤ R.cells) (hRslots : slots + 6 ≤ R.slots) (hlocks : meth.locks = false)
    (hx : ∀ t : State, s.vm.Alike t.vm → H.size ≤ t.heap.size → (∀ q : Nat, q < H.size → t.heap[q]? = H[q]?) → XC "java/util/NoSuchElementException" s t)
    (hf : ∀ z ∈ locs, free z.base) (hc : cells + 1 ≤ mc) (hs : slots + 6 ≤ ms) :
    W p l e R s m args below meth c H locs cells slots (vx_MQ below Qc XC args s mc ms free) (F0 m pc ls rest) := by
  intro T hT X
  have htr : e.platform.stackTraces = false := (show e.platform.stackTraces = l.stackTraces by rw [X.admits.platform]).trans hl
  have Y := vx_rebase X (R' := { frames := R.frames, locals := R.locals, cells := 1, slots := 6 }) (Nat.le_refl _) (Nat.le_refl _) hRcells hRslots
  obtain ⟨s', hA⟩ : ∃ z, z = (T.setVm s.vm).setFrames (.invoking m args :: below) := ⟨_, rfl⟩
  rw [← hA] at Y
  have hvm : s'.vm = s.vm := by rw [hA]; rfl
  have hhp : s'.heap = H := by rw [hA]; exact hT
  have hW0 : s.WarmedH s'.vm := by rw [hvm]; exact State.WarmedH.refl s
  have hat' : ∀ w ∈ nsAt own ic, w.before args s' = true := fun w hw => vx_ot_at hW0 hvm.symm (hgood w (List.mem_cons_of_mem _ (List.mem_cons_of_mem _ hw))) (hat w hw)
  have hk' : (Cond.classLink own ik "java/util/NoSuchElementException").before args s' = true := vx_ot_at hW0 hvm.symm (hgood _ List.mem_cons_self) hk
  have hini' : (Cond.initialized "java/util/NoSuchElementException").before args s' = true := vx_ot_at hW0 hvm.symm (hgood _ (List.mem_cons_of_mem _ List.mem_cons_self)) hini
  have hU' : vx_Zq Bundle.tN "UNASSIGNED_STACK" Bundle.steD A s' s'.heap := by rw [hhp]; exact vx_Zq.moved hW0.alike (hU.kept hS.2.1)
  have hN' : vx_Zq Bundle.tN "SUPPRESSED_SENTINEL" Bundle.listD A s' s'.heap := by rw [hhp]; exact vx_Zq.moved hW0.alike (hN.kept hS.2.1)
  have h : ∀ w ∈ nsL own ic, w.before args s' = true := vx_own hat' (vx_isRefq hU'.1) (vx_isRefq hN'.1) hU'.2.word hN'.2.word
  have hown' : s'.vm.findClass own = some m.cls := by rw [hvm]; exact hown
  have hins : (Cond.instantiable "java/util/NoSuchElementException" 6).before args s' = true := h _ (by simp [nsL])
  obtain ⟨vm₁, cX, kX, hfX, hkX, -, -, X₁, st1⟩ := Y.newCold hexec (own := own) (C := "java/util/NoSuchElementException") (index := ik) (n := 6) hown' hk' hins hini'
    (g := F0 m pc ls rest) rfl (by rw [hb]; exact d0) (Nat.le_refl _) (Nat.le_refl _)
  generalize hT1 : (T.setVm vm₁).pushCell { cls := cX, slots := kX.instanceTypes.map defaultValue, vm := .none } = T1 at X₁ st1
  have hcat : (Value.ref T.heap.size).category = 1 := rfl
  have hcellA : T1.heap[T.heap.size]? = some (freshCell cX kX) := by rw [← hT1]; exact State.heap_pushCell_size _ _
  have d3' : decode c.code (pc + 3) = .ok (.dup, 1) := by rw [hb]; exact d3
  have d4' : decode c.code (pc + 4) = .ok (.ldc_w is, 3) := by rw [hb]; exact d4
  have hstr' : vk_R own is text sa s' := vk_R.warm hW0 hstr
  obtain ⟨V9, ce, L9, X₂, hLb, hlt9, hcl9, hvm9, st2⟩ := ns_made X₁ hexec htr (own := own) (ic := ic) hown' h (fun x hx => nomatch hx) hfX hkX hcellA (by rw [hhp, hT]; exact Nat.le_refl _) (msg := .ref sa) rfl
    (g := { method := m, pc := pc + 7, locals := ls, stack := .ref sa :: .ref T.heap.size :: .ref T.heap.size :: rest, locked := none }) rfl hsize (rest := rest) rfl
    (by rw [hb]; exact d7) hRframes (by first | (simp only [List.map_cons, List.sum_cons, hcat]; omega) | (simp only [List.map_cons, List.sum_cons, hcat]; show 2 * 0 + _ ≤ _; omega))
  obtain ⟨hwalk, hrun, hend, hW, hsame0⟩ := X₂.athrowLeaves hexec (g := { method := m, pc := pc + 10, locals := ls, stack := .ref T.heap.size :: rest, locked := none }) rfl rfl rfl hout (a := T.heap.size) (rest := rest) rfl (by rw [hb]; exact d10) hlocks
  have hsteps := st2 _ hwalk
  have hce := heapAt_setCell_self ce hlt9
  have hsame := hsame0.weaken (l' := []) (fun y hy hlt' => by
    have hyb := hLb y (by simpa using hy)
    rw [hyb, hhp, ← hT] at hlt'
    exact absurd hlt' (Nat.lt_irrefl _)) (Nat.le_refl _) (Nat.le_refl _)
  obtain ⟨f1, f2⟩ := vx_frame hsame
  rw [hhp] at f1 f2
  have hWs : s.WarmedH ((V9.setCell T.heap.size ce).setFrames (.throwing T.heap.size :: below)).vm := State.WarmedH.trans hW0 hW
  have hcl : s.vm.findClass "java/util/NoSuchElementException" = some ce.cls := by
    rw [hcl9, ← hvm]
    exact hfX
  have hall : s.sameButNew ({ (V9.setCell T.heap.size ce).setFrames (.throwing T.heap.size :: below) with vm := s.vm } : State) locs mc ms := by
    subst hA
    obtain ⟨e1, e2⟩ := hsame
    rw [State.setFrames_setFrames] at e1
    have h2 : (T.setVm s.vm).sameButNew ({ (V9.setCell T.heap.size ce).setFrames (.throwing T.heap.size :: below) with vm := s.vm } : State) [] (0 + 1) (0 + 6) := ⟨e1, e2⟩
    have h3 := X.same.trans h2
    rw [List.append_nil] at h3
    exact h3.mono hc hs
  refine ⟨_, ?_, .threw T.heap.size, hrun, hend, Or.inr ⟨T.heap.size, rfl, "java/util/NoSuchElementException", ce, locs, hx _ hWs.alike f1 (fun q hq => f2 q hq (fun z hz => nomatch hz)), hce, hvm9, hcl, hWs, hall, hf⟩⟩
  refine st1 _ ?_
  show Steps p.tables e below (T1.setTop { method := m, pc := pc + 3, locals := ls, stack := .ref T.heap.size :: rest, locked := none }) _
  jvm_step X₁.here [X₁.here.top, hexec, d3', Value.category]
  exact X₁.ldcStringW hexec (own := own) (text := text) (index := is) (a := sa) hown' hstr'.1 hstr'.2
    (g := { method := m, pc := pc + 4, locals := ls, stack := .ref T.heap.size :: .ref T.heap.size :: rest, locked := none }) rfl d4' _ hsteps
end
set_option maxHeartbeats 1000000 in
theorem oN_v {l : Launch} (hfl : l.stackTraces = false) {y : MethodName} {ws ws' : List Cond} {rm : Room} {cc : ByteArray} {maxL : Nat} {dC : Nat → ClassId} {dI : Nat → Nat → Nat} {av : List Value} {Wl : va_W} {T : fT} {sz : Nat} {PE : String → Prop} {S : Type} {post : S → Prop} {W' : S → va_W} {T' : S → fT} (hy : plainName y.cls = true) (hw : ws = Cond.code y cc maxL (none) :: ws') (hlen : (lg_sl av).length ≤ maxL)
    (body : ∀ (p : Program) (e : Env) (s : State) (m : MethodId) (args : Array Value) (below : List Frame) (meth : Method) (c : Code) (ls : Array Slot) (A : Nat → Prop) (Q : State → Prop), p.tables.exec = Jvm.exec → c.code = cc → meth.sig.returnType = none → c.maxLocals = maxL → s.vm.findClass y.cls = some m.cls → (∀ w ∈ ws, w.before args s = true) → fN s → fZ A s s.heap → (∀ q : Nat, s.heap.size ≤ q → A q) → meth.name = y.name → meth.locks = false → va_P (dC, dI) vwCl Wl s.heap → va_K (dC, dI) vwCl T s → va_D A Wl → lv_has ls maxL (lv_args 0 av) →
    (∀ (u : S) (H : Heap) (locs : List Loc) (cells slots pc : Nat) (ls : Array Slot), post u → va_P (dC, dI) vwCl (W' u) H → va_K (dC, dI) vwCl (T' u) s → va_D A (W' u) → va_S A s.heap H locs → cells ≤ rm.cells → slots ≤ rm.slots → decode cc pc = .ok (.return_, 1) → W p l e rm s m args below meth c H locs cells slots Q (F0 m pc ls [])) →
    (∀ (E : String) (ce : Cell) (q : Nat) (H : Heap) (locs : List Loc) (cells slots pc : Nat) (ls : Array Slot) (rest : List Value), PE E → H[q]? = some ce → ce.vm = .none → s.vm.findClass E = some ce.cls → va_S A s.heap H locs → cells ≤ rm.cells → slots ≤ rm.slots → vx_W p l e rm s m args below meth c H locs cells slots Q (F0 m pc ls rest) q) →
    (∀ (text : String) (ik is ic : Nat) (H : Heap) (locs : List Loc) (cells slots pc : Nat) (ls : Array Slot), PE "java/util/NoSuchElementException" → (Cond.classLink y.cls ik "java/util/NoSuchElementException").before args s = true → (Cond.initialized "java/util/NoSuchElementException").before args s = true → (∃ a : Nat, vk_R y.cls is text a s) → (∀ w ∈ nsAt y.cls ic, w.before args s = true) → (∀ w ∈ Cond.classLink y.cls ik "java/util/NoSuchElementException" :: Cond.initialized "java/util/NoSuchElementException" :: nsAt y.cls ic, vx_ot w = true) → va_S A s.heap H locs → ls.size = maxL → 5 < rm.frames → 82 ≤ rm.locals → cells + 1 ≤ rm.cells → slots + 6 ≤ rm.slots →
      decode cc pc = .ok (.new ik, 3) → decode cc (pc + 3) = .ok (.dup, 1) → (decode cc (pc + 4) = .ok (.ldc is, 2) ∧ decode cc (pc + 6) = .ok (.invokespecial ic, 3) ∧ decode cc (pc + 9) = .ok (.athrow, 1) ∨ decode cc (pc + 4) = .ok (.ldc_w is, 3) ∧ decode cc (pc + 7) = .ok (.invokespecial ic, 3) ∧ decode cc (pc + 10) = .ok (.athrow, 1)) → W p l e rm s m args below meth c H locs cells slots Q (F0 m pc ls [])) →
    W p l e rm s m args below meth c s.heap [] 0 0 Q (F0 m 0 ls [])) : fXv l y ws rm dC dI av Wl T sz PE post W' T' := by
  refine vx_ofW (cc := cc) (maxL := maxL) (ret := none) hy hw ?_
  intro p e s m args below meth c s₁ B hml ht hv
  obtain ⟨rfl, hsz, hP, hK, hD0, hN, hZ⟩ := hv
  subst hsz
  have hx := B.exec
  have hb := B.bytes
  have hr := B.returns
  have hlocks := B.notSynchronized
  have hl := lv_entry av (n := maxL) hlen
  rw [lg_entry_eq]
  refine body p e s m _ below meth c _ (va_A Wl s.heap.size) _ hx hb hr hml (findClass_of_methodNamed B.named) (atoms_spec (ws := ws) B.pre) hN hZ (fun q h => Or.inr h) (name_of_methodNamed B.named B.method).1 hlocks hP hK hD0.self hl ?_ ?_ ?_
  · intro u H locs cells slots pc ls hp hP1 hK1 hD1 hS hc hs d
    refine W.widen hc hs ?_
    refine vx_ret ?_
    exact W.vret hx hb hr (fun t ht hW => ⟨⟨u, rfl, hp, by rw [ht]; exact hP1, va_K.moved hW.alike hK1, hD1⟩, hS.F ht⟩) hS.2.2 d
  · intro E ce q H locs cells slots pc ls rest hE h1 h2 h3 hS hc hs
    exact vx_out (fun x hx9 => (ht x hx9).elim) hlocks h1 h2 h3 (fun t ht9 _ => ⟨(), trivial, hE, hS.F ht9⟩) hS.2.2 hc hs
  · intro text ik is ic H locs cells slots pc ls hE h3 h4 h5 h6 h7 hS hsz9 hf1 hf2 hc hs d0 d3 hd
    obtain ⟨sa, h5⟩ := h5
    rcases hd with ⟨d4, d6, d9⟩ | ⟨d4, d6, d9⟩
    · exact ns_throwS hx hb hfl (findClass_of_methodNamed B.named) h3 h4 h5 h6 h7 hZ.1 hZ.2 hS (hsz9.trans hml.symm) d0 d3 d4 d6 d9 (fun x hx9 => (ht x hx9).elim) hf1 (by simpa using hf2) hc hs hlocks (fun t hA hz9 hk9 => ⟨(), trivial, hE, Nat.le_trans hS.1 hz9, fun q hq1 hq2 => by rw [hk9 q (Nat.lt_of_lt_of_le hq1 hS.1)]; exact hS.2.1 q hq1 hq2⟩) hS.2.2 hc hs
    · exact ns_throwSW hx hb hfl (findClass_of_methodNamed B.named) h3 h4 h5 h6 h7 hZ.1 hZ.2 hS (hsz9.trans hml.symm) d0 d3 d4 d6 d9 (fun x hx9 => (ht x hx9).elim) hf1 (by simpa using hf2) hc hs hlocks (fun t hA hz9 hk9 => ⟨(), trivial, hE, Nat.le_trans hS.1 hz9, fun q hq1 hq2 => by rw [hk9 q (Nat.lt_of_lt_of_le hq1 hS.1)]; exact hS.2.1 q hq1 hq2⟩) hS.2.2 hc hs
