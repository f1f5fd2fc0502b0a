/-! ===== BEGIN .. of methods that hand back an object of the pool ===== -/
section
variable {p : Program} {l : Launch} {e : Env} {R : Room} {s : State} {m : MethodId} {args : Array Value} {below : List Frame} {meth : Method} {c : Code} {H : Heap} {locs : List Loc} {cells slots : Nat} {Q : State → Prop}
variable {mc ms : Nat} {free : Addr → Prop} {A0 A1 : Nat → Prop} {H0 : Heap} {a : Array Value} {pc : Nat} {ls : Array Slot} {st0 rest : List Value}
theorem vx_callq {S SX : Type} {post : Option Nat → S → Prop} {px : SX → Prop} {B : S → State → Prop} {BX : String → SX → State → Prop} {AX : Nat → Prop} (hr : vx_Run p l e R s m args below meth c H locs cells slots mc ms (F0 m pc ls st0) rest (va_Qq post B A1 a) (vx_X px BX AX) free) (hS : va_S A0 H0 H locs) (hA : ∀ q, q < H.size → A1 q → A0 q) (hf : ∀ q, free q → A0 q) (hAX : ∀ q, q < H.size → AX q → A0 q)
    (kx : ∀ (E : String) (ce : Cell) (q9 : Addr) (u : SX) (t : State) (H1 : Heap) (locs1 : List Loc), t.heap = H1 → s.vm.Alike t.vm → px u → BX E u t → H.size ≤ H1.size → (∀ q : Nat, q < H.size → ¬ AX q → H1[q]? = H[q]?) → va_S A0 H0 H1 locs1 → H1[q9]? = some ce → ce.vm = .none → s.vm.findClass E = some ce.cls → vx_W p l e R s m args below meth c H1 locs1 (cells + mc) (slots + ms) Q (F0 m pc ls rest) q9)
    (kk : ∀ (r : Option Nat) (u : S) (t : State) (H1 : Heap) (locs1 : List Loc), t.heap = H1 → s.vm.Alike t.vm → post r u → B u t → H.size ≤ H1.size → (∀ q : Nat, q < H.size → ¬ A1 q → H1[q]? = H[q]?) → va_S A0 H0 H1 locs1 → W p l e R s m args below meth c H1 locs1 (cells + mc) (slots + ms) Q (F0 m (pc + 3) ls (va_rf r :: rest))) : W p l e R s m args below meth c H locs cells slots Q (F0 m pc ls st0) := by
  intro T hT X
  rcases hr T hT X with ⟨v, st₀, t, T', L, h0, X', hL, e1, e2, ⟨⟨r, u, hv, hp, hb⟩, hF⟩, st⟩ | ⟨q, st₀, t, T', L, E, ce, h0, X', hL, e1, e2, ⟨u, hp, hb, hF⟩, hce, hcv, hcl, st⟩
  · cases hv
    obtain ⟨k1, k2, k3⟩ := vx_keep h0 e1 hS hA hf hL hF
    obtain ⟨t2, a1, b1⟩ := kk r u t T'.heap (locs ++ L) e1.symm (by rw [← e2]; exact X'.warmed.alike) hp hb k1 k2 k3 T' rfl X'
    exact ⟨t2, st t2 a1, b1⟩
  · obtain ⟨k1, k2, k3⟩ := vx_keep h0 e1 hS hAX hf hL hF
    obtain ⟨t2, a1, b1⟩ := kx E ce q u t T'.heap (locs ++ L) e1.symm (by rw [← e2]; exact X'.warmed.alike) hp hb k1 k2 k3 (by rw [e1]; exact hce) hcv hcl T' rfl X'
    exact ⟨t2, st.trans a1, b1⟩
end
/-! ===== END ===== -/

/-! What all contracts carry: words of nest mates, constants, the two statics that a throw reads; the uniform contract over a list of cells. -/
def fNl : List Cond := [.fieldLinkNest "Netcompare$Pair" 38 "Netcompare$Circuit" "netCount" "I" "Netcompare", .fieldLinkNest "Netcompare$Match" 59 "Netcompare$Circuit" "netCount" "I" "Netcompare", .fieldLinkNest "Netcompare" 145 "Netcompare$Circuit" "netCount" "I" "Netcompare", .fieldLinkNest "Netcompare$Pair" 42 "Netcompare$Members" "classCount" "I" "Netcompare", .fieldLinkNest "Netcompare" 192 "Netcompare$Members" "classCount" "I" "Netcompare", .fieldLinkNest "Netcompare$Match" 42 "Netcompare$Differences" "count" "I" "Netcompare", .fieldLinkNest "Netcompare" 246 "Netcompare$Differences" "count" "I" "Netcompare", .fieldLinkNest "Netcompare$Match" 55 "Netcompare$Pair" "wished" "LNetcompare$Circuit;" "Netcompare", .fieldLinkNest "Netcompare" 126 "Netcompare$Pair" "wished" "LNetcompare$Circuit;" "Netcompare", .fieldLinkNest "Netcompare$Match" 64 "Netcompare$Pair" "drawn" "LNetcompare$Circuit;" "Netcompare", .fieldLinkNest "Netcompare" 122 "Netcompare$Pair" "drawn" "LNetcompare$Circuit;" "Netcompare", .fieldLinkNest "Netcompare$Match" 85 "Netcompare$Pair" "ofNets" "LNetcompare$Members;" "Netcompare", .fieldLinkNest "Netcompare" 188 "Netcompare$Pair" "ofNets" "LNetcompare$Members;" "Netcompare", .fieldLinkNest "Netcompare" 197 "Netcompare$Pair" "ofParts" "LNetcompare$Members;" "Netcompare", .fieldLinkNest "Netcompare$Match" 38 "Netcompare$Pair" "unequal" "LNetcompare$Differences;" "Netcompare", .fieldLinkNest "Netcompare" 242 "Netcompare$Pair" "unequal" "LNetcompare$Differences;" "Netcompare", .fieldLinkNest "Netcompare" 185 "Netcompare$Pair" "roundCount" "I" "Netcompare", .fieldLinkNest "Netcompare" 305 "Netcompare$Pair" "isColoured" "Z" "Netcompare", .fieldLinkNest "Netcompare" 219 "Netcompare$Match" "isFound" "Z" "Netcompare", .fieldLinkNest "Netcompare" 308 "Netcompare$Match" "isSearched" "Z" "Netcompare", .methodLinkNest "Netcompare$Pair" 83 ⟨"Netcompare", "slot", "(II)I"⟩ "Netcompare", .methodLinkNest "Netcompare$Members" 41 ⟨"Netcompare", "slot", "(II)I"⟩ "Netcompare", .castable "java/lang/IllegalArgumentException" "java/lang/IllegalArgumentException", .declares ⟨"java/lang/RuntimeException", "<init>", "(Ljava/lang/String;)V"⟩, .declares ⟨"java/lang/Exception", "<init>", "(Ljava/lang/String;)V"⟩, .declares ⟨"java/lang/Throwable", "<init>", "(Ljava/lang/String;)V"⟩, .castable "java/lang/IllegalStateException" "java/lang/IllegalStateException", .castable "java/util/NoSuchElementException" "java/util/NoSuchElementException", .castable "java/lang/ArrayIndexOutOfBoundsException" "java/lang/ArrayIndexOutOfBoundsException", .declares ⟨"java/lang/IndexOutOfBoundsException", "<init>", "(Ljava/lang/String;)V"⟩, .castable "java/lang/IndexOutOfBoundsException" "java/lang/IndexOutOfBoundsException", .castable "java/lang/UnsupportedOperationException" "java/lang/UnsupportedOperationException", .methodLinkNest "Netcompare$Differences" 26 ⟨"Netcompare", "slot", "(II)I"⟩ "Netcompare", .castable "java/lang/ArithmeticException" "java/lang/ArithmeticException", .castable "[I" "java/lang/Cloneable"]
def fSl : List (Nat × String) := [(279, "no such circuit"), (40, "the circuit has all its nets"), (50, "no such letter"), (106, "no such net"), (61, "another net has the letter"), (281, "no such kind"), (283, "no such value"), (75, "a third net without a third pin"), (81, "all parts of the circuit have been added"), (291, "no such part"), (293, "no such pin"), (117, "the pins of a diode stay"), (140, "neither in series nor in parallel"), (176, "no such index"), (299, "too many nets to try all ways"), (301, "no match"), (303, "no such difference"), (271, "no classes"), (274, "no net reaches a port")]
def fNk : Cond → Bool
  | .fieldLinkNest .. => true
  | .methodLinkNest .. => true
  | .castable .. => true
  | .declares _ => true
  | _ => false
theorem fNl_k : fNl.all fNk = true := by decide +kernel
def fN (U : State) : Prop := (∀ w ∈ fNl, va_Nw w U) ∧ ∀ q ∈ fSl, ∃ a : Nat, vk_R "Netcompare" q.1 q.2 a U
def fZ (A : Nat → Prop) (U : State) (H : Heap) : Prop := vx_Zq Bundle.tN "UNASSIGNED_STACK" Bundle.steD A U H ∧ vx_Zq Bundle.tN "SUPPRESSED_SENTINEL" Bundle.listD A U H
theorem fN.same {u U : State} (hv : U.vm = u.vm) (h : fN u) : fN U := by
  refine ⟨fun w hw => ?_, fun q hq => ?_⟩
  · have hk := List.all_eq_true.mp fNl_k w hw
    have h1 := h.1 w hw
    cases w <;> first | exact va_tabs rfl hv.symm h1 | (simp [fNk] at hk)
  · obtain ⟨a, ha⟩ := h.2 q hq
    exact ⟨a, vk_R.same hv ha⟩
theorem fN.warm {s U : State} (hW : s.WarmedH U.vm) (h : fN s) : fN U := by
  refine ⟨fun w hw => ?_, fun q hq => ?_⟩
  · have hk := List.all_eq_true.mp fNl_k w hw
    have h1 := h.1 w hw
    cases w <;> first | exact va_Nw.warmF hW h1 | exact va_Nw.warmM hW h1 | exact va_Nw.warmC hW h1 | exact va_Nw.warmD hW h1 | (simp [fNk] at hk)
  · obtain ⟨a, ha⟩ := h.2 q hq
    exact ⟨a, vk_R.warm hW ha⟩
theorem fZ.moved {A : Nat → Prop} {u U : State} {H : Heap} (hvm : u.vm.Alike U.vm) (h : fZ A u H) : fZ A U H := ⟨vx_Zq.moved hvm h.1, vx_Zq.moved hvm h.2⟩
theorem fZ.kept {A : Nat → Prop} {U : State} {H H1 : Heap} (h : fZ A U H) (hq : ∀ a : Nat, a < H.size → ¬ A a → H1[a]? = H[a]?) : fZ A U H1 := ⟨h.1.kept hq, h.2.kept hq⟩
theorem fZ.narrow {A B : Nat → Prop} {U : State} {H : Heap} (h : fZ A U H) (hAB : ∀ q, B q → A q) : fZ B U H := ⟨h.1.narrow hAB, h.2.narrow hAB⟩
theorem fU_c (x : Int32) (i : Nat) : upd (fun _ => x) i x = fun _ => x := funext fun j => by unfold upd; split <;> rfl
theorem fCp0 (a b n : Nat) : va_cpy (fun _ => (0 : Int32)) (fun _ => 0) a b n = fun _ => 0 := funext fun j => by unfold va_cpy; split <;> rfl
abbrev fch (a0 a1 a2 a3 a4 a5 a6 a7 a8 a9 : Nat) : Nat → Option Nat := va_up (va_up (va_up (va_up (va_up (va_up (va_up (va_up (va_up (va_up (fun _ => none) 0 (some a0)) 1 (some a1)) 2 (some a2)) 3 (some a3)) 4 (some a4)) 5 (some a5)) 6 (some a6)) 7 (some a7)) 8 (some a8)) 9 (some a9)
abbrev fT : Type := List (ClassId × FieldType)
def fPre (dC : Nat → ClassId) (dI : Nat → Nat → Nat) (av : List Value) (W : va_W) (T : fT) (sz : Nat) : Array Value → State → Prop := va_Pc av (fun U => U.heap.size = sz ∧ va_P (dC, dI) vwCl W U.heap ∧ va_K (dC, dI) vwCl T U ∧ va_D (fun _ => True) W ∧ fN U ∧ fZ (va_A W sz) U U.heap)
theorem fBlind {dC : Nat → ClassId} {dI : Nat → Nat → Nat} {av : List Value} {W : va_W} {T : fT} {sz : Nat} : FrameBlind (fPre dC dI av W T sz) := by
  intro a U g mk h
  obtain ⟨h0, h1, hP, hK, hD, hN, hZ⟩ := h
  exact ⟨h0, h1, hP, va_K.moved (u := U) (U := U.calling g mk a) (Vm.Alike.refl U.vm) hK, hD, fN.same (u := U) (U := U.calling g mk a) rfl hN, fZ.moved (u := U) (U := U.calling g mk a) (Vm.Alike.refl U.vm) hZ⟩
theorem fPreS {dC : Nat → ClassId} {dI : Nat → Nat → Nat} {av : List Value} {W : va_W} {T : fT} {s : State} {H : Heap} {A A0 : Nat → Prop} {locs : List Loc} (hN : fN s) (hZ : fZ A s s.heap) (hS : va_S A s.heap H locs) (hF : ∀ q, va_A W H.size q → A q) (hP : va_P (dC, dI) vwCl W H) (hK : va_K (dC, dI) vwCl T s) (hD : va_D A0 W) : PreS s H (fPre dC dI av W T H.size) av :=
  ⟨fBlind, fun U hU hW => ⟨rfl, by rw [hU], by rw [hU]; exact hP, va_K.moved hW.alike hK, hD.weaken (fun _ _ _ _ => trivial), fN.warm hW hN, by rw [hU]; exact fZ.moved hW.alike ((hZ.kept hS.2.1).narrow hF)⟩⟩
theorem fPreV {dC : Nat → ClassId} {dI : Nat → Nat → Nat} {b : Nat} {As : List Value} {W : va_W} {T : fT} {s : State} {H : Heap} {A A0 : Nat → Prop} {locs : List Loc} (hN : fN s) (hZ : fZ A s s.heap) (hS : va_S A s.heap H locs) (hF : ∀ q, va_A W H.size q → A q) (hP : va_P (dC, dI) vwCl W H) (hK : va_K (dC, dI) vwCl T s) (hD : va_D A0 W) {q0 ci : Nat} {q : vw_C} {fs : List Value} (hc : vwCl[ci]? = some q) (he : W[q0]? = some (b, .inr (ci, fs))) : PreV s H q.1 b (fPre dC dI (.ref b :: As) W T H.size) As :=
  ⟨fBlind, va_recv hK hP hc he, (fPreS (av := .ref b :: As) hN hZ hS hF hP hK hD).2⟩
def fB (dC : Nat → ClassId) (dI : Nat → Nat → Nat) (A : Nat → Prop) (W : va_W) (T : fT) (t : State) : Prop := va_P (dC, dI) vwCl W t.heap ∧ va_K (dC, dI) vwCl T t ∧ va_D A W
abbrev fE (PE : String → Prop) (A : Nat → Prop) : String → State → State → Prop := vx_X (fun _ : Unit => True) (fun E _ _ => PE E) A
abbrev fMv (l : Launch) (y : MethodName) (ws : List Cond) (rm : Room) (dC : Nat → ClassId) (dI : Nat → Nat → Nat) (av : List Value) (W : va_W) (T : fT) (sz : Nat) {S : Type} (post : S → Prop) (W' : S → va_W) (T' : S → fT) : Prop := Met l y ws rm (fPre dC dI av W T sz) (va_Qv post (fun u t => fB dC dI (va_A W sz) (W' u) (T' u) t) (va_A W sz)) rm.cells rm.slots (va_A W sz)
abbrev fMi (l : Launch) (y : MethodName) (ws : List Cond) (rm : Room) (dC : Nat → ClassId) (dI : Nat → Nat → Nat) (av : List Value) (W : va_W) (T : fT) (sz : Nat) {S : Type} (post : Int32 → S → Prop) (W' : S → va_W) (T' : S → fT) : Prop := Met l y ws rm (fPre dC dI av W T sz) (va_Qi post (fun u t => fB dC dI (va_A W sz) (W' u) (T' u) t) (va_A W sz)) rm.cells rm.slots (va_A W sz)
abbrev fMq (l : Launch) (y : MethodName) (ws : List Cond) (rm : Room) (dC : Nat → ClassId) (dI : Nat → Nat → Nat) (av : List Value) (W : va_W) (T : fT) (sz : Nat) {S : Type} (post : Option Nat → S → Prop) (W' : S → va_W) (T' : S → fT) : Prop := Met l y ws rm (fPre dC dI av W T sz) (va_Qq post (fun u t => fB dC dI (va_A W sz) (W' u) (T' u) t) (va_A W sz)) rm.cells rm.slots (va_A W sz)
abbrev fXv (l : Launch) (y : MethodName) (ws : List Cond) (rm : Room) (dC : Nat → ClassId) (dI : Nat → Nat → Nat) (av : List Value) (W : va_W) (T : fT) (sz : Nat) (PE : String → Prop) {S : Type} (post : S → Prop) (W' : S → va_W) (T' : S → fT) : Prop := vx_Met l y ws rm (fPre dC dI av W T sz) (va_Qv post (fun u t => fB dC dI (va_A W sz) (W' u) (T' u) t) (va_A W sz)) (fE PE (va_A W sz)) rm.cells rm.slots (va_A W sz)
abbrev fXi (l : Launch) (y : MethodName) (ws : List Cond) (rm : Room) (dC : Nat → ClassId) (dI : Nat → Nat → Nat) (av : List Value) (W : va_W) (T : fT) (sz : Nat) (PE : String → Prop) {S : Type} (post : Int32 → S → Prop) (W' : S → va_W) (T' : S → fT) : Prop := vx_Met l y ws rm (fPre dC dI av W T sz) (va_Qi post (fun u t => fB dC dI (va_A W sz) (W' u) (T' u) t) (va_A W sz)) (fE PE (va_A W sz)) rm.cells rm.slots (va_A W sz)
abbrev fXl (l : Launch) (y : MethodName) (ws : List Cond) (rm : Room) (dC : Nat → ClassId) (dI : Nat → Nat → Nat) (av : List Value) (W : va_W) (T : fT) (sz : Nat) (PE : String → Prop) {S : Type} (post : Int64 → S → Prop) (W' : S → va_W) (T' : S → fT) : Prop := vx_Met l y ws rm (fPre dC dI av W T sz) (va_Ql post (fun u t => fB dC dI (va_A W sz) (W' u) (T' u) t) (va_A W sz)) (fE PE (va_A W sz)) rm.cells rm.slots (va_A W sz)
abbrev fXq (l : Launch) (y : MethodName) (ws : List Cond) (rm : Room) (dC : Nat → ClassId) (dI : Nat → Nat → Nat) (av : List Value) (W : va_W) (T : fT) (sz : Nat) (PE : String → Prop) {S : Type} (post : Option Nat → S → Prop) (W' : S → va_W) (T' : S → fT) : Prop := vx_Met l y ws rm (fPre dC dI av W T sz) (va_Qq post (fun u t => fB dC dI (va_A W sz) (W' u) (T' u) t) (va_A W sz)) (fE PE (va_A W sz)) rm.cells rm.slots (va_A W sz)
set_option maxHeartbeats 1000000 in
theorem oP_v {l : Launch} {y : MethodName} {ws ws' : List Cond} {rm : Room} {cc : ByteArray} {maxL : Nat} {dC : Nat → ClassId} {dI : Nat → Nat → Nat} {av : List Value} {Wl : va_W} {T : fT} {sz : Nat} {S : Type} {post : S → Prop} {W' : S → va_W} {T' : S → fT} (hy : plainName y.cls = true) (hw : ws = Cond.code y cc maxL (none) :: ws') (hlen : (lg_sl av).length ≤ maxL)
    (body : ∀ (p : Program) (e : Env) (s : State) (m : MethodId) (args : Array Value) (below : List Frame) (meth : Method) (c : Code) (ls : Array Slot) (A : Nat → Prop) (Q : State → Prop), p.tables.exec = Jvm.exec → c.code = cc → meth.sig.returnType = none → c.maxLocals = maxL → s.vm.findClass y.cls = some m.cls → (∀ w ∈ ws, w.before args s = true) → fN s → fZ A s s.heap → (∀ q : Nat, s.heap.size ≤ q → A q) → meth.name = y.name → meth.locks = false → va_P (dC, dI) vwCl Wl s.heap → va_K (dC, dI) vwCl T s → va_D A Wl → lv_has ls maxL (lv_args 0 av) →
    (∀ (u : S) (H : Heap) (locs : List Loc) (cells slots pc : Nat) (ls : Array Slot), post u → va_P (dC, dI) vwCl (W' u) H → va_K (dC, dI) vwCl (T' u) s → va_D A (W' u) → va_S A s.heap H locs → cells ≤ rm.cells → slots ≤ rm.slots → decode cc pc = .ok (.return_, 1) → W p l e rm s m args below meth c H locs cells slots Q (F0 m pc ls [])) →
    
    W p l e rm s m args below meth c s.heap [] 0 0 Q (F0 m 0 ls [])) : fMv l y ws rm dC dI av Wl T sz post W' T' := by
  refine Met.ofW (cc := cc) (maxL := maxL) (ret := none) hy hw ?_
  intro p e s m args below meth c s₁ B hml hv
  obtain ⟨rfl, hsz, hP, hK, hD0, hN, hZ⟩ := hv
  subst hsz
  have hx := B.exec
  have hb := B.bytes
  have hr := B.returns
  have hlocks := B.notSynchronized
  have hl := lv_entry av (n := maxL) hlen
  rw [lg_entry_eq]
  refine body p e s m _ below meth c _ (va_A Wl s.heap.size) _ hx hb hr hml (findClass_of_methodNamed B.named) (atoms_spec (ws := ws) B.pre) hN hZ (fun q h => Or.inr h) (name_of_methodNamed B.named B.method).1 hlocks hP hK hD0.self hl ?_
  · intro u H locs cells slots pc ls hp hP1 hK1 hD1 hS hc hs d
    refine W.widen hc hs ?_
    exact W.vret hx hb hr (fun t ht hW => ⟨⟨u, rfl, hp, by rw [ht]; exact hP1, va_K.moved hW.alike hK1, hD1⟩, hS.F ht⟩) hS.2.2 d
set_option maxHeartbeats 1000000 in
theorem oP_i {l : Launch} {y : MethodName} {ws ws' : List Cond} {rm : Room} {cc : ByteArray} {maxL : Nat} {dC : Nat → ClassId} {dI : Nat → Nat → Nat} {av : List Value} {Wl : va_W} {T : fT} {sz : Nat} {S : Type} {post : Int32 → S → Prop} {W' : S → va_W} {T' : S → fT} (hy : plainName y.cls = true) (hw : ws = Cond.code y cc maxL (some .int) :: ws') (hlen : (lg_sl av).length ≤ maxL)
    (body : ∀ (p : Program) (e : Env) (s : State) (m : MethodId) (args : Array Value) (below : List Frame) (meth : Method) (c : Code) (ls : Array Slot) (A : Nat → Prop) (Q : State → Prop), p.tables.exec = Jvm.exec → c.code = cc → meth.sig.returnType = some .int → c.maxLocals = maxL → s.vm.findClass y.cls = some m.cls → (∀ w ∈ ws, w.before args s = true) → fN s → fZ A s s.heap → (∀ q : Nat, s.heap.size ≤ q → A q) → meth.name = y.name → meth.locks = false → va_P (dC, dI) vwCl Wl s.heap → va_K (dC, dI) vwCl T s → va_D A Wl → lv_has ls maxL (lv_args 0 av) →
    (∀ (r : Int32) (u : S) (H : Heap) (locs : List Loc) (cells slots pc : Nat) (ls : Array Slot), post r u → va_P (dC, dI) vwCl (W' u) H → va_K (dC, dI) vwCl (T' u) s → va_D A (W' u) → va_S A s.heap H locs → cells ≤ rm.cells → slots ≤ rm.slots → decode cc pc = .ok (.ireturn, 1) → W p l e rm s m args below meth c H locs cells slots Q (F0 m pc ls [.int r])) →
    
    W p l e rm s m args below meth c s.heap [] 0 0 Q (F0 m 0 ls [])) : fMi l y ws rm dC dI av Wl T sz post W' T' := by
  refine Met.ofW (cc := cc) (maxL := maxL) (ret := (some .int)) hy hw ?_
  intro p e s m args below meth c s₁ B hml hv
  obtain ⟨rfl, hsz, hP, hK, hD0, hN, hZ⟩ := hv
  subst hsz
  have hx := B.exec
  have hb := B.bytes
  have hr := B.returns
  have hlocks := B.notSynchronized
  have hl := lv_entry av (n := maxL) hlen
  rw [lg_entry_eq]
  refine body p e s m _ below meth c _ (va_A Wl s.heap.size) _ hx hb hr hml (findClass_of_methodNamed B.named) (atoms_spec (ws := ws) B.pre) hN hZ (fun q h => Or.inr h) (name_of_methodNamed B.named B.method).1 hlocks hP hK hD0.self hl ?_
  · intro r u H locs cells slots pc ls hp hP1 hK1 hD1 hS hc hs d
    refine W.widen hc hs ?_
    exact W.iret (v := r) hx hb hr (fun t ht hW => ⟨⟨r, u, rfl, hp, by rw [ht]; exact hP1, va_K.moved hW.alike hK1, hD1⟩, hS.F ht⟩) hS.2.2 d
set_option maxHeartbeats 1000000 in
theorem oP_z {l : Launch} {y : MethodName} {ws ws' : List Cond} {rm : Room} {cc : ByteArray} {maxL : Nat} {rt : FieldType} {dC : Nat → ClassId} {dI : Nat → Nat → Nat} {av : List Value} {Wl : va_W} {T : fT} {sz : Nat} {S : Type} {post : Int32 → S → Prop} {W' : S → va_W} {T' : S → fT} (hy : plainName y.cls = true) (hw : ws = Cond.code y cc maxL (some rt) :: ws') (hlen : (lg_sl av).length ≤ maxL)
    (body : ∀ (p : Program) (e : Env) (s : State) (m : MethodId) (args : Array Value) (below : List Frame) (meth : Method) (c : Code) (ls : Array Slot) (A : Nat → Prop) (Q : State → Prop), p.tables.exec = Jvm.exec → c.code = cc → meth.sig.returnType = some rt → c.maxLocals = maxL → s.vm.findClass y.cls = some m.cls → (∀ w ∈ ws, w.before args s = true) → fN s → fZ A s s.heap → (∀ q : Nat, s.heap.size ≤ q → A q) → meth.name = y.name → meth.locks = false → va_P (dC, dI) vwCl Wl s.heap → va_K (dC, dI) vwCl T s → va_D A Wl → lv_has ls maxL (lv_args 0 av) →
    (∀ (r : Int32) (u : S) (H : Heap) (locs : List Loc) (cells slots pc : Nat) (ls : Array Slot), narrow rt (.int r) = .int r → post r u → va_P (dC, dI) vwCl (W' u) H → va_K (dC, dI) vwCl (T' u) s → va_D A (W' u) → va_S A s.heap H locs → cells ≤ rm.cells → slots ≤ rm.slots → decode cc pc = .ok (.ireturn, 1) → W p l e rm s m args below meth c H locs cells slots Q (F0 m pc ls [.int r])) →
    
    W p l e rm s m args below meth c s.heap [] 0 0 Q (F0 m 0 ls [])) : fMi l y ws rm dC dI av Wl T sz post W' T' := by
  refine Met.ofW (cc := cc) (maxL := maxL) (ret := (some rt)) hy hw ?_
  intro p e s m args below meth c s₁ B hml hv
  obtain ⟨rfl, hsz, hP, hK, hD0, hN, hZ⟩ := hv
  subst hsz
  have hx := B.exec
  have hb := B.bytes
  have hr := B.returns
  have hlocks := B.notSynchronized
  have hl := lv_entry av (n := maxL) hlen
  rw [lg_entry_eq]
  refine body p e s m _ below meth c _ (va_A Wl s.heap.size) _ hx hb hr hml (findClass_of_methodNamed B.named) (atoms_spec (ws := ws) B.pre) hN hZ (fun q h => Or.inr h) (name_of_methodNamed B.named B.method).1 hlocks hP hK hD0.self hl ?_
  · intro r u H locs cells slots pc ls hnr hp hP1 hK1 hD1 hS hc hs d
    refine W.widen hc hs ?_
    exact W.zret (v := r) hx hb hr hnr (fun t ht hW => ⟨⟨r, u, rfl, hp, by rw [ht]; exact hP1, va_K.moved hW.alike hK1, hD1⟩, hS.F ht⟩) hS.2.2 d
set_option maxHeartbeats 1000000 in
theorem oP_q {l : Launch} {y : MethodName} {ws ws' : List Cond} {rm : Room} {cc : ByteArray} {maxL : Nat} {rt : FieldType} {dC : Nat → ClassId} {dI : Nat → Nat → Nat} {av : List Value} {Wl : va_W} {T : fT} {sz : Nat} {S : Type} {post : Option Nat → S → Prop} {W' : S → va_W} {T' : S → fT} (hrt : (∃ n, rt = .object n) ∨ ∃ t, rt = .array t) (hy : plainName y.cls = true) (hw : ws = Cond.code y cc maxL (some rt) :: ws') (hlen : (lg_sl av).length ≤ maxL)
    (body : ∀ (p : Program) (e : Env) (s : State) (m : MethodId) (args : Array Value) (below : List Frame) (meth : Method) (c : Code) (ls : Array Slot) (A : Nat → Prop) (Q : State → Prop), p.tables.exec = Jvm.exec → c.code = cc → meth.sig.returnType = some rt → c.maxLocals = maxL → s.vm.findClass y.cls = some m.cls → (∀ w ∈ ws, w.before args s = true) → fN s → fZ A s s.heap → (∀ q : Nat, s.heap.size ≤ q → A q) → meth.name = y.name → meth.locks = false → va_P (dC, dI) vwCl Wl s.heap → va_K (dC, dI) vwCl T s → va_D A Wl → lv_has ls maxL (lv_args 0 av) →
    (∀ (r : Option Nat) (u : S) (H : Heap) (locs : List Loc) (cells slots pc : Nat) (ls : Array Slot), post r u → va_P (dC, dI) vwCl (W' u) H → va_K (dC, dI) vwCl (T' u) s → va_D A (W' u) → va_S A s.heap H locs → cells ≤ rm.cells → slots ≤ rm.slots → decode cc pc = .ok (.areturn, 1) → W p l e rm s m args below meth c H locs cells slots Q (F0 m pc ls [va_rf r])) →
    
    W p l e rm s m args below meth c s.heap [] 0 0 Q (F0 m 0 ls [])) : fMq l y ws rm dC dI av Wl T sz post W' T' := by
  refine Met.ofW (cc := cc) (maxL := maxL) (ret := (some rt)) hy hw ?_
  intro p e s m args below meth c s₁ B hml hv
  obtain ⟨rfl, hsz, hP, hK, hD0, hN, hZ⟩ := hv
  subst hsz
  have hx := B.exec
  have hb := B.bytes
  have hr := B.returns
  have hlocks := B.notSynchronized
  have hl := lv_entry av (n := maxL) hlen
  rw [lg_entry_eq]
  refine body p e s m _ below meth c _ (va_A Wl s.heap.size) _ hx hb hr hml (findClass_of_methodNamed B.named) (atoms_spec (ws := ws) B.pre) hN hZ (fun q h => Or.inr h) (name_of_methodNamed B.named B.method).1 hlocks hP hK hD0.self hl ?_
  · intro r u H locs cells slots pc ls hp hP1 hK1 hD1 hS hc hs d
    refine W.widen hc hs ?_
    exact W.aret (v := va_rf r) hx hb hr hrt (va_rf_or r) (fun t ht hW => ⟨⟨r, u, rfl, hp, by rw [ht]; exact hP1, va_K.moved hW.alike hK1, hD1⟩, hS.F ht⟩) hS.2.2 d
set_option maxHeartbeats 1000000 in
theorem oX_v {l : Launch} (hfl : l.stackTraces = false) {y : MethodName} {ws ws' : List Cond} {rm : Room} {cc : ByteArray} {maxL : Nat} {dC : Nat → ClassId} {dI : Nat → Nat → Nat} {av : List Value} {Wl : va_W} {T : fT} {sz : Nat} {PE : String → Prop} {S : Type} {post : S → Prop} {W' : S → va_W} {T' : S → fT} (hy : plainName y.cls = true) (hw : ws = Cond.code y cc maxL (none) :: ws') (hlen : (lg_sl av).length ≤ maxL)
    (body : ∀ (p : Program) (e : Env) (s : State) (m : MethodId) (args : Array Value) (below : List Frame) (meth : Method) (c : Code) (ls : Array Slot) (A : Nat → Prop) (Q : State → Prop), p.tables.exec = Jvm.exec → c.code = cc → meth.sig.returnType = none → c.maxLocals = maxL → s.vm.findClass y.cls = some m.cls → (∀ w ∈ ws, w.before args s = true) → fN s → fZ A s s.heap → (∀ q : Nat, s.heap.size ≤ q → A q) → meth.name = y.name → meth.locks = false → va_P (dC, dI) vwCl Wl s.heap → va_K (dC, dI) vwCl T s → va_D A Wl → lv_has ls maxL (lv_args 0 av) →
    (∀ (u : S) (H : Heap) (locs : List Loc) (cells slots pc : Nat) (ls : Array Slot), post u → va_P (dC, dI) vwCl (W' u) H → va_K (dC, dI) vwCl (T' u) s → va_D A (W' u) → va_S A s.heap H locs → cells ≤ rm.cells → slots ≤ rm.slots → decode cc pc = .ok (.return_, 1) → W p l e rm s m args below meth c H locs cells slots Q (F0 m pc ls [])) →
    (∀ (E : String) (ce : Cell) (q : Nat) (H : Heap) (locs : List Loc) (cells slots pc : Nat) (ls : Array Slot) (rest : List Value), PE E → H[q]? = some ce → ce.vm = .none → s.vm.findClass E = some ce.cls → va_S A s.heap H locs → cells ≤ rm.cells → slots ≤ rm.slots → vx_W p l e rm s m args below meth c H locs cells slots Q (F0 m pc ls rest) q) →
    (∀ (cls text : String) (names : List String) (ik is ic : Nat) (H : Heap) (locs : List Loc) (cells slots pc : Nat) (ls : Array Slot), PE cls → Bundle.fit cls = true → (∀ n ∈ names, Bundle.fit n = true) → (Cond.classLink y.cls ik cls).before args s = true → (Cond.initialized cls).before args s = true → (∃ a : Nat, vk_R y.cls is text a s) → (∀ w ∈ vx_atS y.cls ic cls names, w.before args s = true) → (∀ w ∈ Cond.classLink y.cls ik cls :: Cond.initialized cls :: vx_atS y.cls ic cls names, vx_ot w = true) → va_S A s.heap H locs → ls.size = maxL → names.length + 3 < rm.frames → 13 * (names.length + 1) + 43 ≤ rm.locals → cells + 1 ≤ rm.cells → slots + 6 ≤ rm.slots →
      decode cc pc = .ok (.new ik, 3) → decode cc (pc + 3) = .ok (.dup, 1) → (decode cc (pc + 4) = .ok (.ldc is, 2) ∧ decode cc (pc + 6) = .ok (.invokespecial ic, 3) ∧ decode cc (pc + 9) = .ok (.athrow, 1) ∨ decode cc (pc + 4) = .ok (.ldc_w is, 3) ∧ decode cc (pc + 7) = .ok (.invokespecial ic, 3) ∧ decode cc (pc + 10) = .ok (.athrow, 1)) → W p l e rm s m args below meth c H locs cells slots Q (F0 m pc ls [])) →
    W p l e rm s m args below meth c s.heap [] 0 0 Q (F0 m 0 ls [])) : fXv l y ws rm dC dI av Wl T sz PE post W' T' := by
  refine vx_ofW (cc := cc) (maxL := maxL) (ret := none) hy hw ?_
  intro p e s m args below meth c s₁ B hml ht hv
  obtain ⟨rfl, hsz, hP, hK, hD0, hN, hZ⟩ := hv
  subst hsz
  have hx := B.exec
  have hb := B.bytes
  have hr := B.returns
  have hlocks := B.notSynchronized
  have hl := lv_entry av (n := maxL) hlen
  rw [lg_entry_eq]
  refine body p e s m _ below meth c _ (va_A Wl s.heap.size) _ hx hb hr hml (findClass_of_methodNamed B.named) (atoms_spec (ws := ws) B.pre) hN hZ (fun q h => Or.inr h) (name_of_methodNamed B.named B.method).1 hlocks hP hK hD0.self hl ?_ ?_ ?_
  · intro u H locs cells slots pc ls hp hP1 hK1 hD1 hS hc hs d
    refine W.widen hc hs ?_
    refine vx_ret ?_
    exact W.vret hx hb hr (fun t ht hW => ⟨⟨u, rfl, hp, by rw [ht]; exact hP1, va_K.moved hW.alike hK1, hD1⟩, hS.F ht⟩) hS.2.2 d
  · intro E ce q H locs cells slots pc ls rest hE h1 h2 h3 hS hc hs
    exact vx_out (fun x hx9 => (ht x hx9).elim) hlocks h1 h2 h3 (fun t ht9 _ => ⟨(), trivial, hE, hS.F ht9⟩) hS.2.2 hc hs
  · intro cls text names ik is ic H locs cells slots pc ls hE h1 h2 h3 h4 h5 h6 h7 hS hsz9 hf1 hf2 hc hs d0 d3 hd
    obtain ⟨sa, h5⟩ := h5
    rcases hd with ⟨d4, d6, d9⟩ | ⟨d4, d6, d9⟩
    · exact vx_throwS hx hb hfl (findClass_of_methodNamed B.named) h1 h2 h3 h4 h5 h6 h7 hZ.1 hZ.2 hS (hsz9.trans hml.symm) d0 d3 d4 d6 d9 (fun x hx9 => (ht x hx9).elim) hf1 (by simpa using hf2) hc hs hlocks (fun t hA hz9 hk9 => ⟨(), trivial, hE, Nat.le_trans hS.1 hz9, fun q hq1 hq2 => by rw [hk9 q (Nat.lt_of_lt_of_le hq1 hS.1)]; exact hS.2.1 q hq1 hq2⟩) hS.2.2 hc hs
    · exact vx_throwSW hx hb hfl (findClass_of_methodNamed B.named) h1 h2 h3 h4 h5 h6 h7 hZ.1 hZ.2 hS (hsz9.trans hml.symm) d0 d3 d4 d6 d9 (fun x hx9 => (ht x hx9).elim) hf1 (by simpa using hf2) hc hs hlocks (fun t hA hz9 hk9 => ⟨(), trivial, hE, Nat.le_trans hS.1 hz9, fun q hq1 hq2 => by rw [hk9 q (Nat.lt_of_lt_of_le hq1 hS.1)]; exact hS.2.1 q hq1 hq2⟩) hS.2.2 hc hs
set_option maxHeartbeats 1000000 in
theorem oX_i {l : Launch} (hfl : l.stackTraces = false) {y : MethodName} {ws ws' : List Cond} {rm : Room} {cc : ByteArray} {maxL : Nat} {dC : Nat → ClassId} {dI : Nat → Nat → Nat} {av : List Value} {Wl : va_W} {T : fT} {sz : Nat} {PE : String → Prop} {S : Type} {post : Int32 → S → Prop} {W' : S → va_W} {T' : S → fT} (hy : plainName y.cls = true) (hw : ws = Cond.code y cc maxL (some .int) :: ws') (hlen : (lg_sl av).length ≤ maxL)
    (body : ∀ (p : Program) (e : Env) (s : State) (m : MethodId) (args : Array Value) (below : List Frame) (meth : Method) (c : Code) (ls : Array Slot) (A : Nat → Prop) (Q : State → Prop), p.tables.exec = Jvm.exec → c.code = cc → meth.sig.returnType = some .int → c.maxLocals = maxL → s.vm.findClass y.cls = some m.cls → (∀ w ∈ ws, w.before args s = true) → fN s → fZ A s s.heap → (∀ q : Nat, s.heap.size ≤ q → A q) → meth.name = y.name → meth.locks = false → va_P (dC, dI) vwCl Wl s.heap → va_K (dC, dI) vwCl T s → va_D A Wl → lv_has ls maxL (lv_args 0 av) →
    (∀ (r : Int32) (u : S) (H : Heap) (locs : List Loc) (cells slots pc : Nat) (ls : Array Slot), post r u → va_P (dC, dI) vwCl (W' u) H → va_K (dC, dI) vwCl (T' u) s → va_D A (W' u) → va_S A s.heap H locs → cells ≤ rm.cells → slots ≤ rm.slots → decode cc pc = .ok (.ireturn, 1) → W p l e rm s m args below meth c H locs cells slots Q (F0 m pc ls [.int r])) →
    (∀ (E : String) (ce : Cell) (q : Nat) (H : Heap) (locs : List Loc) (cells slots pc : Nat) (ls : Array Slot) (rest : List Value), PE E → H[q]? = some ce → ce.vm = .none → s.vm.findClass E = some ce.cls → va_S A s.heap H locs → cells ≤ rm.cells → slots ≤ rm.slots → vx_W p l e rm s m args below meth c H locs cells slots Q (F0 m pc ls rest) q) →
    (∀ (cls text : String) (names : List String) (ik is ic : Nat) (H : Heap) (locs : List Loc) (cells slots pc : Nat) (ls : Array Slot), PE cls → Bundle.fit cls = true → (∀ n ∈ names, Bundle.fit n = true) → (Cond.classLink y.cls ik cls).before args s = true → (Cond.initialized cls).before args s = true → (∃ a : Nat, vk_R y.cls is text a s) → (∀ w ∈ vx_atS y.cls ic cls names, w.before args s = true) → (∀ w ∈ Cond.classLink y.cls ik cls :: Cond.initialized cls :: vx_atS y.cls ic cls names, vx_ot w = true) → va_S A s.heap H locs → ls.size = maxL → names.length + 3 < rm.frames → 13 * (names.length + 1) + 43 ≤ rm.locals → cells + 1 ≤ rm.cells → slots + 6 ≤ rm.slots →
      decode cc pc = .ok (.new ik, 3) → decode cc (pc + 3) = .ok (.dup, 1) → (decode cc (pc + 4) = .ok (.ldc is, 2) ∧ decode cc (pc + 6) = .ok (.invokespecial ic, 3) ∧ decode cc (pc + 9) = .ok (.athrow, 1) ∨ decode cc (pc + 4) = .ok (.ldc_w is, 3) ∧ decode cc (pc + 7) = .ok (.invokespecial ic, 3) ∧ decode cc (pc + 10) = .ok (.athrow, 1)) → W p l e rm s m args below meth c H locs cells slots Q (F0 m pc ls [])) →
    W p l e rm s m args below meth c s.heap [] 0 0 Q (F0 m 0 ls [])) : fXi l y ws rm dC dI av Wl T sz PE post W' T' := by
  refine vx_ofW (cc := cc) (maxL := maxL) (ret := (some .int)) hy hw ?_
  intro p e s m args below meth c s₁ B hml ht hv
  obtain ⟨rfl, hsz, hP, hK, hD0, hN, hZ⟩ := hv
  subst hsz
  have hx := B.exec
  have hb := B.bytes
  have hr := B.returns
  have hlocks := B.notSynchronized
  have hl := lv_entry av (n := maxL) hlen
  rw [lg_entry_eq]
  refine body p e s m _ below meth c _ (va_A Wl s.heap.size) _ hx hb hr hml (findClass_of_methodNamed B.named) (atoms_spec (ws := ws) B.pre) hN hZ (fun q h => Or.inr h) (name_of_methodNamed B.named B.method).1 hlocks hP hK hD0.self hl ?_ ?_ ?_
  · intro r u H locs cells slots pc ls hp hP1 hK1 hD1 hS hc hs d
    refine W.widen hc hs ?_
    refine vx_ret ?_
    exact W.iret (v := r) hx hb hr (fun t ht hW => ⟨⟨r, u, rfl, hp, by rw [ht]; exact hP1, va_K.moved hW.alike hK1, hD1⟩, hS.F ht⟩) hS.2.2 d
  · intro E ce q H locs cells slots pc ls rest hE h1 h2 h3 hS hc hs
    exact vx_out (fun x hx9 => (ht x hx9).elim) hlocks h1 h2 h3 (fun t ht9 _ => ⟨(), trivial, hE, hS.F ht9⟩) hS.2.2 hc hs
  · intro cls text names ik is ic H locs cells slots pc ls hE h1 h2 h3 h4 h5 h6 h7 hS hsz9 hf1 hf2 hc hs d0 d3 hd
    obtain ⟨sa, h5⟩ := h5
    rcases hd with ⟨d4, d6, d9⟩ | ⟨d4, d6, d9⟩
    · exact vx_throwS hx hb hfl (findClass_of_methodNamed B.named) h1 h2 h3 h4 h5 h6 h7 hZ.1 hZ.2 hS (hsz9.trans hml.symm) d0 d3 d4 d6 d9 (fun x hx9 => (ht x hx9).elim) hf1 (by simpa using hf2) hc hs hlocks (fun t hA hz9 hk9 => ⟨(), trivial, hE, Nat.le_trans hS.1 hz9, fun q hq1 hq2 => by rw [hk9 q (Nat.lt_of_lt_of_le hq1 hS.1)]; exact hS.2.1 q hq1 hq2⟩) hS.2.2 hc hs
    · exact vx_throwSW hx hb hfl (findClass_of_methodNamed B.named) h1 h2 h3 h4 h5 h6 h7 hZ.1 hZ.2 hS (hsz9.trans hml.symm) d0 d3 d4 d6 d9 (fun x hx9 => (ht x hx9).elim) hf1 (by simpa using hf2) hc hs hlocks (fun t hA hz9 hk9 => ⟨(), trivial, hE, Nat.le_trans hS.1 hz9, fun q hq1 hq2 => by rw [hk9 q (Nat.lt_of_lt_of_le hq1 hS.1)]; exact hS.2.1 q hq1 hq2⟩) hS.2.2 hc hs
set_option maxHeartbeats 1000000 in
theorem oX_z {l : Launch} (hfl : l.stackTraces = false) {y : MethodName} {ws ws' : List Cond} {rm : Room} {cc : ByteArray} {maxL : Nat} {rt : FieldType} {dC : Nat → ClassId} {dI : Nat → Nat → Nat} {av : List Value} {Wl : va_W} {T : fT} {sz : Nat} {PE : String → Prop} {S : Type} {post : Int32 → S → Prop} {W' : S → va_W} {T' : S → fT} (hy : plainName y.cls = true) (hw : ws = Cond.code y cc maxL (some rt) :: ws') (hlen : (lg_sl av).length ≤ maxL)
    (body : ∀ (p : Program) (e : Env) (s : State) (m : MethodId) (args : Array Value) (below : List Frame) (meth : Method) (c : Code) (ls : Array Slot) (A : Nat → Prop) (Q : State → Prop), p.tables.exec = Jvm.exec → c.code = cc → meth.sig.returnType = some rt → c.maxLocals = maxL → s.vm.findClass y.cls = some m.cls → (∀ w ∈ ws, w.before args s = true) → fN s → fZ A s s.heap → (∀ q : Nat, s.heap.size ≤ q → A q) → meth.name = y.name → meth.locks = false → va_P (dC, dI) vwCl Wl s.heap → va_K (dC, dI) vwCl T s → va_D A Wl → lv_has ls maxL (lv_args 0 av) →
    (∀ (r : Int32) (u : S) (H : Heap) (locs : List Loc) (cells slots pc : Nat) (ls : Array Slot), narrow rt (.int r) = .int r → post r u → va_P (dC, dI) vwCl (W' u) H → va_K (dC, dI) vwCl (T' u) s → va_D A (W' u) → va_S A s.heap H locs → cells ≤ rm.cells → slots ≤ rm.slots → decode cc pc = .ok (.ireturn, 1) → W p l e rm s m args below meth c H locs cells slots Q (F0 m pc ls [.int r])) →
    (∀ (E : String) (ce : Cell) (q : Nat) (H : Heap) (locs : List Loc) (cells slots pc : Nat) (ls : Array Slot) (rest : List Value), PE E → H[q]? = some ce → ce.vm = .none → s.vm.findClass E = some ce.cls → va_S A s.heap H locs → cells ≤ rm.cells → slots ≤ rm.slots → vx_W p l e rm s m args below meth c H locs cells slots Q (F0 m pc ls rest) q) →
    (∀ (cls text : String) (names : List String) (ik is ic : Nat) (H : Heap) (locs : List Loc) (cells slots pc : Nat) (ls : Array Slot), PE cls → Bundle.fit cls = true → (∀ n ∈ names, Bundle.fit n = true) → (Cond.classLink y.cls ik cls).before args s = true → (Cond.initialized cls).before args s = true → (∃ a : Nat, vk_R y.cls is text a s) → (∀ w ∈ vx_atS y.cls ic cls names, w.before args s = true) → (∀ w ∈ Cond.classLink y.cls ik cls :: Cond.initialized cls :: vx_atS y.cls ic cls names, vx_ot w = true) → va_S A s.heap H locs → ls.size = maxL → names.length + 3 < rm.frames → 13 * (names.length + 1) + 43 ≤ rm.locals → cells + 1 ≤ rm.cells → slots + 6 ≤ rm.slots →
      decode cc pc = .ok (.new ik, 3) → decode cc (pc + 3) = .ok (.dup, 1) → (decode cc (pc + 4) = .ok (.ldc is, 2) ∧ decode cc (pc + 6) = .ok (.invokespecial ic, 3) ∧ decode cc (pc + 9) = .ok (.athrow, 1) ∨ decode cc (pc + 4) = .ok (.ldc_w is, 3) ∧ decode cc (pc + 7) = .ok (.invokespecial ic, 3) ∧ decode cc (pc + 10) = .ok (.athrow, 1)) → W p l e rm s m args below meth c H locs cells slots Q (F0 m pc ls [])) →
    W p l e rm s m args below meth c s.heap [] 0 0 Q (F0 m 0 ls [])) : fXi l y ws rm dC dI av Wl T sz PE post W' T' := by
  refine vx_ofW (cc := cc) (maxL := maxL) (ret := (some rt)) hy hw ?_
  intro p e s m args below meth c s₁ B hml ht hv
  obtain ⟨rfl, hsz, hP, hK, hD0, hN, hZ⟩ := hv
  subst hsz
  have hx := B.exec
  have hb := B.bytes
  have hr := B.returns
  have hlocks := B.notSynchronized
  have hl := lv_entry av (n := maxL) hlen
  rw [lg_entry_eq]
  refine body p e s m _ below meth c _ (va_A Wl s.heap.size) _ hx hb hr hml (findClass_of_methodNamed B.named) (atoms_spec (ws := ws) B.pre) hN hZ (fun q h => Or.inr h) (name_of_methodNamed B.named B.method).1 hlocks hP hK hD0.self hl ?_ ?_ ?_
  · intro r u H locs cells slots pc ls hnr hp hP1 hK1 hD1 hS hc hs d
    refine W.widen hc hs ?_
    refine vx_ret ?_
    exact W.zret (v := r) hx hb hr hnr (fun t ht hW => ⟨⟨r, u, rfl, hp, by rw [ht]; exact hP1, va_K.moved hW.alike hK1, hD1⟩, hS.F ht⟩) hS.2.2 d
  · intro E ce q H locs cells slots pc ls rest hE h1 h2 h3 hS hc hs
    exact vx_out (fun x hx9 => (ht x hx9).elim) hlocks h1 h2 h3 (fun t ht9 _ => ⟨(), trivial, hE, hS.F ht9⟩) hS.2.2 hc hs
  · intro cls text names ik is ic H locs cells slots pc ls hE h1 h2 h3 h4 h5 h6 h7 hS hsz9 hf1 hf2 hc hs d0 d3 hd
    obtain ⟨sa, h5⟩ := h5
    rcases hd with ⟨d4, d6, d9⟩ | ⟨d4, d6, d9⟩
    · exact vx_throwS hx hb hfl (findClass_of_methodNamed B.named) h1 h2 h3 h4 h5 h6 h7 hZ.1 hZ.2 hS (hsz9.trans hml.symm) d0 d3 d4 d6 d9 (fun x hx9 => (ht x hx9).elim) hf1 (by simpa using hf2) hc hs hlocks (fun t hA hz9 hk9 => ⟨(), trivial, hE, Nat.le_trans hS.1 hz9, fun q hq1 hq2 => by rw [hk9 q (Nat.lt_of_lt_of_le hq1 hS.1)]; exact hS.2.1 q hq1 hq2⟩) hS.2.2 hc hs
    · exact vx_throwSW hx hb hfl (findClass_of_methodNamed B.named) h1 h2 h3 h4 h5 h6 h7 hZ.1 hZ.2 hS (hsz9.trans hml.symm) d0 d3 d4 d6 d9 (fun x hx9 => (ht x hx9).elim) hf1 (by simpa using hf2) hc hs hlocks (fun t hA hz9 hk9 => ⟨(), trivial, hE, Nat.le_trans hS.1 hz9, fun q hq1 hq2 => by rw [hk9 q (Nat.lt_of_lt_of_le hq1 hS.1)]; exact hS.2.1 q hq1 hq2⟩) hS.2.2 hc hs
set_option maxHeartbeats 1000000 in
theorem oX_l {l : Launch} (hfl : l.stackTraces = false) {y : MethodName} {ws ws' : List Cond} {rm : Room} {cc : ByteArray} {maxL : Nat} {dC : Nat → ClassId} {dI : Nat → Nat → Nat} {av : List Value} {Wl : va_W} {T : fT} {sz : Nat} {PE : String → Prop} {S : Type} {post : Int64 → S → Prop} {W' : S → va_W} {T' : S → fT} (hy : plainName y.cls = true) (hw : ws = Cond.code y cc maxL (some .long) :: ws') (hlen : (lg_sl av).length ≤ maxL)
    (body : ∀ (p : Program) (e : Env) (s : State) (m : MethodId) (args : Array Value) (below : List Frame) (meth : Method) (c : Code) (ls : Array Slot) (A : Nat → Prop) (Q : State → Prop), p.tables.exec = Jvm.exec → c.code = cc → meth.sig.returnType = some .long → c.maxLocals = maxL → s.vm.findClass y.cls = some m.cls → (∀ w ∈ ws, w.before args s = true) → fN s → fZ A s s.heap → (∀ q : Nat, s.heap.size ≤ q → A q) → meth.name = y.name → meth.locks = false → va_P (dC, dI) vwCl Wl s.heap → va_K (dC, dI) vwCl T s → va_D A Wl → lv_has ls maxL (lv_args 0 av) →
    (∀ (r : Int64) (u : S) (H : Heap) (locs : List Loc) (cells slots pc : Nat) (ls : Array Slot), post r u → va_P (dC, dI) vwCl (W' u) H → va_K (dC, dI) vwCl (T' u) s → va_D A (W' u) → va_S A s.heap H locs → cells ≤ rm.cells → slots ≤ rm.slots → decode cc pc = .ok (.lreturn, 1) → W p l e rm s m args below meth c H locs cells slots Q (F0 m pc ls [.long r])) →
    (∀ (E : String) (ce : Cell) (q : Nat) (H : Heap) (locs : List Loc) (cells slots pc : Nat) (ls : Array Slot) (rest : List Value), PE E → H[q]? = some ce → ce.vm = .none → s.vm.findClass E = some ce.cls → va_S A s.heap H locs → cells ≤ rm.cells → slots ≤ rm.slots → vx_W p l e rm s m args below meth c H locs cells slots Q (F0 m pc ls rest) q) →
    (∀ (cls text : String) (names : List String) (ik is ic : Nat) (H : Heap) (locs : List Loc) (cells slots pc : Nat) (ls : Array Slot), PE cls → Bundle.fit cls = true → (∀ n ∈ names, Bundle.fit n = true) → (Cond.classLink y.cls ik cls).before args s = true → (Cond.initialized cls).before args s = true → (∃ a : Nat, vk_R y.cls is text a s) → (∀ w ∈ vx_atS y.cls ic cls names, w.before args s = true) → (∀ w ∈ Cond.classLink y.cls ik cls :: Cond.initialized cls :: vx_atS y.cls ic cls names, vx_ot w = true) → va_S A s.heap H locs → ls.size = maxL → names.length + 3 < rm.frames → 13 * (names.length + 1) + 43 ≤ rm.locals → cells + 1 ≤ rm.cells → slots + 6 ≤ rm.slots →
      decode cc pc = .ok (.new ik, 3) → decode cc (pc + 3) = .ok (.dup, 1) → (decode cc (pc + 4) = .ok (.ldc is, 2) ∧ decode cc (pc + 6) = .ok (.invokespecial ic, 3) ∧ decode cc (pc + 9) = .ok (.athrow, 1) ∨ decode cc (pc + 4) = .ok (.ldc_w is, 3) ∧ decode cc (pc + 7) = .ok (.invokespecial ic, 3) ∧ decode cc (pc + 10) = .ok (.athrow, 1)) → W p l e rm s m args below meth c H locs cells slots Q (F0 m pc ls [])) →
    W p l e rm s m args below meth c s.heap [] 0 0 Q (F0 m 0 ls [])) : fXl l y ws rm dC dI av Wl T sz PE post W' T' := by
  refine vx_ofW (cc := cc) (maxL := maxL) (ret := (some .long)) hy hw ?_
  intro p e s m args below meth c s₁ B hml ht hv
  obtain ⟨rfl, hsz, hP, hK, hD0, hN, hZ⟩ := hv
  subst hsz
  have hx := B.exec
  have hb := B.bytes
  have hr := B.returns
  have hlocks := B.notSynchronized
  have hl := lv_entry av (n := maxL) hlen
  rw [lg_entry_eq]
  refine body p e s m _ below meth c _ (va_A Wl s.heap.size) _ hx hb hr hml (findClass_of_methodNamed B.named) (atoms_spec (ws := ws) B.pre) hN hZ (fun q h => Or.inr h) (name_of_methodNamed B.named B.method).1 hlocks hP hK hD0.self hl ?_ ?_ ?_
  · intro r u H locs cells slots pc ls hp hP1 hK1 hD1 hS hc hs d
    refine W.widen hc hs ?_
    refine vx_ret ?_
    exact W.lret (v := r) hx hb hr (fun t ht hW => ⟨⟨r, u, rfl, hp, by rw [ht]; exact hP1, va_K.moved hW.alike hK1, hD1⟩, hS.F ht⟩) hS.2.2 d
  · intro E ce q H locs cells slots pc ls rest hE h1 h2 h3 hS hc hs
    exact vx_out (fun x hx9 => (ht x hx9).elim) hlocks h1 h2 h3 (fun t ht9 _ => ⟨(), trivial, hE, hS.F ht9⟩) hS.2.2 hc hs
  · intro cls text names ik is ic H locs cells slots pc ls hE h1 h2 h3 h4 h5 h6 h7 hS hsz9 hf1 hf2 hc hs d0 d3 hd
    obtain ⟨sa, h5⟩ := h5
    rcases hd with ⟨d4, d6, d9⟩ | ⟨d4, d6, d9⟩
    · exact vx_throwS hx hb hfl (findClass_of_methodNamed B.named) h1 h2 h3 h4 h5 h6 h7 hZ.1 hZ.2 hS (hsz9.trans hml.symm) d0 d3 d4 d6 d9 (fun x hx9 => (ht x hx9).elim) hf1 (by simpa using hf2) hc hs hlocks (fun t hA hz9 hk9 => ⟨(), trivial, hE, Nat.le_trans hS.1 hz9, fun q hq1 hq2 => by rw [hk9 q (Nat.lt_of_lt_of_le hq1 hS.1)]; exact hS.2.1 q hq1 hq2⟩) hS.2.2 hc hs
    · exact vx_throwSW hx hb hfl (findClass_of_methodNamed B.named) h1 h2 h3 h4 h5 h6 h7 hZ.1 hZ.2 hS (hsz9.trans hml.symm) d0 d3 d4 d6 d9 (fun x hx9 => (ht x hx9).elim) hf1 (by simpa using hf2) hc hs hlocks (fun t hA hz9 hk9 => ⟨(), trivial, hE, Nat.le_trans hS.1 hz9, fun q hq1 hq2 => by rw [hk9 q (Nat.lt_of_lt_of_le hq1 hS.1)]; exact hS.2.1 q hq1 hq2⟩) hS.2.2 hc hs
set_option maxHeartbeats 1000000 in
theorem oX_q {l : Launch} (hfl : l.stackTraces = false) {y : MethodName} {ws ws' : List Cond} {rm : Room} {cc : ByteArray} {maxL : Nat} {rt : FieldType} {dC : Nat → ClassId} {dI : Nat → Nat → Nat} {av : List Value} {Wl : va_W} {T : fT} {sz : Nat} {PE : String → Prop} {S : Type} {post : Option Nat → S → Prop} {W' : S → va_W} {T' : S → fT} (hrt : (∃ n, rt = .object n) ∨ ∃ t, rt = .array t) (hy : plainName y.cls = true) (hw : ws = Cond.code y cc maxL (some rt) :: ws') (hlen : (lg_sl av).length ≤ maxL)
    (body : ∀ (p : Program) (e : Env) (s : State) (m : MethodId) (args : Array Value) (below : List Frame) (meth : Method) (c : Code) (ls : Array Slot) (A : Nat → Prop) (Q : State → Prop), p.tables.exec = Jvm.exec → c.code = cc → meth.sig.returnType = some rt → c.maxLocals = maxL → s.vm.findClass y.cls = some m.cls → (∀ w ∈ ws, w.before args s = true) → fN s → fZ A s s.heap → (∀ q : Nat, s.heap.size ≤ q → A q) → meth.name = y.name → meth.locks = false → va_P (dC, dI) vwCl Wl s.heap → va_K (dC, dI) vwCl T s → va_D A Wl → lv_has ls maxL (lv_args 0 av) →
    (∀ (r : Option Nat) (u : S) (H : Heap) (locs : List Loc) (cells slots pc : Nat) (ls : Array Slot), post r u → va_P (dC, dI) vwCl (W' u) H → va_K (dC, dI) vwCl (T' u) s → va_D A (W' u) → va_S A s.heap H locs → cells ≤ rm.cells → slots ≤ rm.slots → decode cc pc = .ok (.areturn, 1) → W p l e rm s m args below meth c H locs cells slots Q (F0 m pc ls [va_rf r])) →
    (∀ (E : String) (ce : Cell) (q : Nat) (H : Heap) (locs : List Loc) (cells slots pc : Nat) (ls : Array Slot) (rest : List Value), PE E → H[q]? = some ce → ce.vm = .none → s.vm.findClass E = some ce.cls → va_S A s.heap H locs → cells ≤ rm.cells → slots ≤ rm.slots → vx_W p l e rm s m args below meth c H locs cells slots Q (F0 m pc ls rest) q) →
    (∀ (cls text : String) (names : List String) (ik is ic : Nat) (H : Heap) (locs : List Loc) (cells slots pc : Nat) (ls : Array Slot), PE cls → Bundle.fit cls = true → (∀ n ∈ names, Bundle.fit n = true) → (Cond.classLink y.cls ik cls).before args s = true → (Cond.initialized cls).before args s = true → (∃ a : Nat, vk_R y.cls is text a s) → (∀ w ∈ vx_atS y.cls ic cls names, w.before args s = true) → (∀ w ∈ Cond.classLink y.cls ik cls :: Cond.initialized cls :: vx_atS y.cls ic cls names, vx_ot w = true) → va_S A s.heap H locs → ls.size = maxL → names.length + 3 < rm.frames → 13 * (names.length + 1) + 43 ≤ rm.locals → cells + 1 ≤ rm.cells → slots + 6 ≤ rm.slots →
      decode cc pc = .ok (.new ik, 3) → decode cc (pc + 3) = .ok (.dup, 1) → (decode cc (pc + 4) = .ok (.ldc is, 2) ∧ decode cc (pc + 6) = .ok (.invokespecial ic, 3) ∧ decode cc (pc + 9) = .ok (.athrow, 1) ∨ decode cc (pc + 4) = .ok (.ldc_w is, 3) ∧ decode cc (pc + 7) = .ok (.invokespecial ic, 3) ∧ decode cc (pc + 10) = .ok (.athrow, 1)) → W p l e rm s m args below meth c H locs cells slots Q (F0 m pc ls [])) →
    W p l e rm s m args below meth c s.heap [] 0 0 Q (F0 m 0 ls [])) : fXq l y ws rm dC dI av Wl T sz PE post W' T' := by
  refine vx_ofW (cc := cc) (maxL := maxL) (ret := (some rt)) hy hw ?_
  intro p e s m args below meth c s₁ B hml ht hv
  obtain ⟨rfl, hsz, hP, hK, hD0, hN, hZ⟩ := hv
  subst hsz
  have hx := B.exec
  have hb := B.bytes
  have hr := B.returns
  have hlocks := B.notSynchronized
  have hl := lv_entry av (n := maxL) hlen
  rw [lg_entry_eq]
  refine body p e s m _ below meth c _ (va_A Wl s.heap.size) _ hx hb hr hml (findClass_of_methodNamed B.named) (atoms_spec (ws := ws) B.pre) hN hZ (fun q h => Or.inr h) (name_of_methodNamed B.named B.method).1 hlocks hP hK hD0.self hl ?_ ?_ ?_
  · intro r u H locs cells slots pc ls hp hP1 hK1 hD1 hS hc hs d
    refine W.widen hc hs ?_
    refine vx_ret ?_
    exact W.aret (v := va_rf r) hx hb hr hrt (va_rf_or r) (fun t ht hW => ⟨⟨r, u, rfl, hp, by rw [ht]; exact hP1, va_K.moved hW.alike hK1, hD1⟩, hS.F ht⟩) hS.2.2 d
  · intro E ce q H locs cells slots pc ls rest hE h1 h2 h3 hS hc hs
    exact vx_out (fun x hx9 => (ht x hx9).elim) hlocks h1 h2 h3 (fun t ht9 _ => ⟨(), trivial, hE, hS.F ht9⟩) hS.2.2 hc hs
  · intro cls text names ik is ic H locs cells slots pc ls hE h1 h2 h3 h4 h5 h6 h7 hS hsz9 hf1 hf2 hc hs d0 d3 hd
    obtain ⟨sa, h5⟩ := h5
    rcases hd with ⟨d4, d6, d9⟩ | ⟨d4, d6, d9⟩
    · exact vx_throwS hx hb hfl (findClass_of_methodNamed B.named) h1 h2 h3 h4 h5 h6 h7 hZ.1 hZ.2 hS (hsz9.trans hml.symm) d0 d3 d4 d6 d9 (fun x hx9 => (ht x hx9).elim) hf1 (by simpa using hf2) hc hs hlocks (fun t hA hz9 hk9 => ⟨(), trivial, hE, Nat.le_trans hS.1 hz9, fun q hq1 hq2 => by rw [hk9 q (Nat.lt_of_lt_of_le hq1 hS.1)]; exact hS.2.1 q hq1 hq2⟩) hS.2.2 hc hs
    · exact vx_throwSW hx hb hfl (findClass_of_methodNamed B.named) h1 h2 h3 h4 h5 h6 h7 hZ.1 hZ.2 hS (hsz9.trans hml.symm) d0 d3 d4 d6 d9 (fun x hx9 => (ht x hx9).elim) hf1 (by simpa using hf2) hc hs hlocks (fun t hA hz9 hk9 => ⟨(), trivial, hE, Nat.le_trans hS.1 hz9, fun q hq1 hq2 => by rw [hk9 q (Nat.lt_of_lt_of_le hq1 hS.1)]; exact hS.2.1 q hq1 hq2⟩) hS.2.2 hc hs
