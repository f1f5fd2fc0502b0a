theorem dX0_hasNet_0 : decode cX0_hasNet 0 = .ok (.iload_n 1, 1) := by decide +kernel
theorem dX0_hasNet_1 : decode cX0_hasNet 1 = .ok (.ifCond .lt 15, 3) := by decide +kernel
theorem dX0_hasNet_4 : decode cX0_hasNet 4 = .ok (.iload_n 1, 1) := by decide +kernel
theorem dX0_hasNet_5 : decode cX0_hasNet 5 = .ok (.aload_n 0, 1) := by decide +kernel
theorem dX0_hasNet_6 : decode cX0_hasNet 6 = .ok (.getfield 26, 3) := by decide +kernel
theorem dX0_hasNet_9 : decode cX0_hasNet 9 = .ok (.if_icmp .ge 7, 3) := by decide +kernel
theorem dX0_hasNet_16 : decode cX0_hasNet 16 = .ok (.iconst 0, 1) := by decide +kernel
theorem dX0_hasNet_17 : decode cX0_hasNet 17 = .ok (.ireturn, 1) := by decide +kernel
theorem dX0_hasPart_0 : decode cX0_hasPart 0 = .ok (.iload_n 1, 1) := by decide +kernel
theorem dX0_hasPart_1 : decode cX0_hasPart 1 = .ok (.ifCond .lt 27, 3) := by decide +kernel
theorem dX0_hasPart_4 : decode cX0_hasPart 4 = .ok (.iload_n 1, 1) := by decide +kernel
theorem dX0_hasPart_5 : decode cX0_hasPart 5 = .ok (.aload_n 0, 1) := by decide +kernel
theorem dX0_hasPart_6 : decode cX0_hasPart 6 = .ok (.getfield 30, 3) := by decide +kernel
theorem dX0_hasPart_9 : decode cX0_hasPart 9 = .ok (.if_icmp .ge 19, 3) := by decide +kernel
theorem dX0_hasPart_28 : decode cX0_hasPart 28 = .ok (.iconst 0, 1) := by decide +kernel
theorem dX0_hasPart_29 : decode cX0_hasPart 29 = .ok (.ireturn, 1) := by decide +kernel
set_option maxRecDepth 20000 in
theorem ggX6_circuitAt_X6_requireCircuit : GoodIn wsX6_circuitAt wsX6_requireCircuit := goodIn_ca (goodIn_r _ [6, 7, 8] (by decide +kernel) (by decide +kernel)) (goodIn_sub (fun _ h => List.mem_cons_of_mem _ (List.mem_append_right _ h)) (by decide +kernel))
set_option maxRecDepth 20000 in
theorem gX6_circuitAt_X6_requireCircuit : GoodIn wsX6_circuitAt (va_wsS RX6 214 yX6_requireCircuit wsX6_requireCircuit) := goodIn_app (goodIn_of _ (by decide +kernel)) ggX6_circuitAt_X6_requireCircuit
theorem dX6_circuitAt_0 : decode cX6_circuitAt 0 = .ok (.iload_n 1, 1) := by decide +kernel
theorem dX6_circuitAt_1 : decode cX6_circuitAt 1 = .ok (.invokestatic 214, 3) := by decide +kernel
theorem dX6_circuitAt_4 : decode cX6_circuitAt 4 = .ok (.iload_n 1, 1) := by decide +kernel
theorem dX6_circuitAt_5 : decode cX6_circuitAt 5 = .ok (.ifCond .ne 10, 3) := by decide +kernel
theorem dX6_circuitAt_8 : decode cX6_circuitAt 8 = .ok (.aload_n 0, 1) := by decide +kernel
theorem dX6_circuitAt_9 : decode cX6_circuitAt 9 = .ok (.getfield 10, 3) := by decide +kernel
theorem dX6_circuitAt_12 : decode cX6_circuitAt 12 = .ok (.goto 7, 3) := by decide +kernel
theorem dX6_circuitAt_15 : decode cX6_circuitAt 15 = .ok (.aload_n 0, 1) := by decide +kernel
theorem dX6_circuitAt_16 : decode cX6_circuitAt 16 = .ok (.getfield 16, 3) := by decide +kernel
theorem dX6_circuitAt_19 : decode cX6_circuitAt 19 = .ok (.areturn, 1) := by decide +kernel
theorem dX6_requireCircuit_0 : decode cX6_requireCircuit 0 = .ok (.iload_n 0, 1) := by decide +kernel
theorem dX6_requireCircuit_1 : decode cX6_requireCircuit 1 = .ok (.ifCond .eq 19, 3) := by decide +kernel
theorem dX6_requireCircuit_4 : decode cX6_requireCircuit 4 = .ok (.iload_n 0, 1) := by decide +kernel
theorem dX6_requireCircuit_5 : decode cX6_requireCircuit 5 = .ok (.iconst 1, 1) := by decide +kernel
theorem dX6_requireCircuit_6 : decode cX6_requireCircuit 6 = .ok (.if_icmp .eq 14, 3) := by decide +kernel
theorem dX6_requireCircuit_9 : decode cX6_requireCircuit 9 = .ok (.new 67, 3) := by decide +kernel
theorem dX6_requireCircuit_12 : decode cX6_requireCircuit 12 = .ok (.dup, 1) := by decide +kernel
theorem dX6_requireCircuit_13 : decode cX6_requireCircuit 13 = .ok (.ldc_w 283, 3) := by decide +kernel
theorem dX6_requireCircuit_16 : decode cX6_requireCircuit 16 = .ok (.invokespecial 71, 3) := by decide +kernel
theorem dX6_requireCircuit_19 : decode cX6_requireCircuit 19 = .ok (.athrow, 1) := by decide +kernel
theorem dX6_requireCircuit_20 : decode cX6_requireCircuit 20 = .ok (.return_, 1) := by decide +kernel
set_option maxRecDepth 20000 in
theorem ggX6_requireNet_X0_hasNet : GoodIn wsX6_requireNet wsX0_hasNet := goodIn_r _ [7, 8, 9, 10, 11, 12, 13] (by decide +kernel) (by decide +kernel)
set_option maxRecDepth 20000 in
theorem gX6_requireNet_X0_hasNet : GoodIn wsX6_requireNet (wsV RX6 128 RX0 yX0_hasNet wsX0_hasNet) := goodIn_app (goodIn_of _ (by decide +kernel)) ggX6_requireNet_X0_hasNet
theorem dX6_requireNet_0 : decode cX6_requireNet 0 = .ok (.aload_n 0, 1) := by decide +kernel
theorem dX6_requireNet_1 : decode cX6_requireNet 1 = .ok (.iload_n 1, 1) := by decide +kernel
theorem dX6_requireNet_2 : decode cX6_requireNet 2 = .ok (.invokevirtual 128, 3) := by decide +kernel
theorem dX6_requireNet_5 : decode cX6_requireNet 5 = .ok (.ifCond .ne 13, 3) := by decide +kernel
theorem dX6_requireNet_8 : decode cX6_requireNet 8 = .ok (.new 289, 3) := by decide +kernel
theorem dX6_requireNet_11 : decode cX6_requireNet 11 = .ok (.dup, 1) := by decide +kernel
theorem dX6_requireNet_12 : decode cX6_requireNet 12 = .ok (.ldc 134, 2) := by decide +kernel
theorem dX6_requireNet_14 : decode cX6_requireNet 14 = .ok (.invokespecial 291, 3) := by decide +kernel
theorem dX6_requireNet_17 : decode cX6_requireNet 17 = .ok (.athrow, 1) := by decide +kernel
set_option maxRecDepth 20000 in
theorem ggX6_requirePart_X0_hasPart : GoodIn wsX6_requirePart wsX0_hasPart := goodIn_r _ [7, 8, 9, 10, 11, 12, 13, 14, 15, 16, 17, 18, 19, 20, 21, 22, 23, 24, 25, 26] (by decide +kernel) (by decide +kernel)
set_option maxRecDepth 20000 in
theorem gX6_requirePart_X0_hasPart : GoodIn wsX6_requirePart (wsV RX6 292 RX0 yX0_hasPart wsX0_hasPart) := goodIn_app (goodIn_of _ (by decide +kernel)) ggX6_requirePart_X0_hasPart
theorem dX6_requirePart_0 : decode cX6_requirePart 0 = .ok (.aload_n 0, 1) := by decide +kernel
theorem dX6_requirePart_1 : decode cX6_requirePart 1 = .ok (.iload_n 1, 1) := by decide +kernel
theorem dX6_requirePart_2 : decode cX6_requirePart 2 = .ok (.invokevirtual 292, 3) := by decide +kernel
theorem dX6_requirePart_5 : decode cX6_requirePart 5 = .ok (.ifCond .ne 14, 3) := by decide +kernel
theorem dX6_requirePart_8 : decode cX6_requirePart 8 = .ok (.new 289, 3) := by decide +kernel
theorem dX6_requirePart_11 : decode cX6_requirePart 11 = .ok (.dup, 1) := by decide +kernel
theorem dX6_requirePart_12 : decode cX6_requirePart 12 = .ok (.ldc_w 295, 3) := by decide +kernel
theorem dX6_requirePart_15 : decode cX6_requirePart 15 = .ok (.invokespecial 291, 3) := by decide +kernel
theorem dX6_requirePart_18 : decode cX6_requirePart 18 = .ok (.athrow, 1) := by decide +kernel
theorem dX6_forget_0 : decode cX6_forget 0 = .ok (.aload_n 0, 1) := by decide +kernel
theorem dX6_forget_1 : decode cX6_forget 1 = .ok (.iconst 0, 1) := by decide +kernel
theorem dX6_forget_2 : decode cX6_forget 2 = .ok (.putfield 308, 3) := by decide +kernel
theorem dX6_forget_5 : decode cX6_forget 5 = .ok (.aload_n 0, 1) := by decide +kernel
theorem dX6_forget_6 : decode cX6_forget 6 = .ok (.iconst 0, 1) := by decide +kernel
theorem dX6_forget_7 : decode cX6_forget 7 = .ok (.putfield 311, 3) := by decide +kernel
theorem dX6_forget_10 : decode cX6_forget 10 = .ok (.aload_n 0, 1) := by decide +kernel
theorem dX6_forget_11 : decode cX6_forget 11 = .ok (.iconst 0, 1) := by decide +kernel
theorem dX6_forget_12 : decode cX6_forget 12 = .ok (.putfield 314, 3) := by decide +kernel
theorem dX6_forget_15 : decode cX6_forget 15 = .ok (.return_, 1) := by decide +kernel
set_option maxHeartbeats 4000000 in
set_option maxRecDepth 100000 in
/-- requireCircuit: 0 or 1, or it throws -/
theorem kX6_requireCircuit (l : Launch) (hfl : l.stackTraces = false) (dC : Nat → ClassId) (dI : Nat → Nat → Nat) (p0 : Int32) (sz : Nat) : fXv l yX6_requireCircuit wsX6_requireCircuit ({ frames := 6, cells := 1, slots := 6, locals := 82 } : Room) dC dI [.int p0] [] [] sz (fun E : String => E = "java/lang/IllegalArgumentException" ∧ ¬ (p0 = 0 ∨ p0 = 1)) (fun (u : Unit) => p0 = 0 ∨ p0 = 1) (fun u => []) (fun u => []) := by
  refine oX_v hfl (y := yX6_requireCircuit) (cc := cX6_requireCircuit) (maxL := 1) (by decide) rfl (Nat.le_of_ble_eq_true rfl) ?_
  intro p e s m args below meth c ls A Q hx hb hr hml hown hts hN hZ hA hin hlk hP hK hD hl ret thr thn
  have hS : va_S A s.heap s.heap [] := va_S.rf
  have hl : lv_has ls 1 [(0, .int p0)] := hl
  have hP : va_P (dC, dI) vwCl [] _ := hP
  have hD : va_D A [] := hD
  refine lv_iload_n hx hb dX6_requireCircuit_0 rfl (lv_at hl 0 rfl) ?_
  refine lv_if_eq (tgt := 20) hx hb dX6_requireCircuit_1 (by decide) (fun h1 => ?_) (fun h1 => ?_)
  · skip
    exact ret () _ _ _ _ _ _ (by first | exact Or.inl (by assumption) | exact Or.inr (by assumption)) (hP.sub [] rfl) (hK.sub [] rfl) (hD.sub [] (by decide) rfl) hS (Nat.le_of_ble_eq_true rfl) (Nat.le_of_ble_eq_true rfl) dX6_requireCircuit_20
  · skip
    refine lv_iload_n hx hb dX6_requireCircuit_4 rfl (lv_at hl 0 rfl) ?_
    refine lv_iconst (v := 1) hx hb dX6_requireCircuit_5 (by decide) ?_
    refine lv_icmp_eq (tgt := 20) hx hb dX6_requireCircuit_6 (by decide) (fun h2 => ?_) (fun h2 => ?_)
    · skip
      exact ret () _ _ _ _ _ _ (by first | exact Or.inl (by assumption) | exact Or.inr (by assumption)) (hP.sub [] rfl) (hK.sub [] rfl) (hD.sub [] (by decide) rfl) hS (Nat.le_of_ble_eq_true rfl) (Nat.le_of_ble_eq_true rfl) dX6_requireCircuit_20
    · skip
      exact thn "java/lang/IllegalArgumentException" _ ["java/lang/RuntimeException", "java/lang/Exception"] 67 283 71 _ _ _ _ 9 _ (⟨rfl, fun h9 => by rcases h9 with h9 | h9 <;> contradiction⟩) (by decide +kernel) (by decide +kernel) (hts (.classLink RX6 67 "java/lang/IllegalArgumentException") (List.mem_cons_of_mem _ (List.mem_append_left _ (List.mem_of_getElem? (i := 0) rfl)))) (hts (.initialized "java/lang/IllegalArgumentException") (List.mem_cons_of_mem _ (List.mem_append_left _ (List.mem_of_getElem? (i := 1) rfl)))) (hN.2 _ (List.mem_of_getElem? (i := 0) rfl)) (vx_hat (fun w h => hts w ((fun w h => List.mem_cons_of_mem _ (List.mem_append_right _ (h))) w h)) (B := [.castable "java/lang/IllegalArgumentException" "java/lang/IllegalArgumentException", .declares ⟨"java/lang/RuntimeException", "<init>", "(Ljava/lang/String;)V"⟩, .declares ⟨"java/lang/Exception", "<init>", "(Ljava/lang/String;)V"⟩, .declares ⟨"java/lang/Throwable", "<init>", "(Ljava/lang/String;)V"⟩]) (by decide +kernel) (vx_c (va_Nw.use rfl (hN.1 _ (List.mem_of_getElem? (i := 50) rfl))) (vx_c (va_Nw.use rfl (hN.1 _ (List.mem_of_getElem? (i := 51) rfl))) (vx_c (va_Nw.use rfl (hN.1 _ (List.mem_of_getElem? (i := 52) rfl))) (vx_c (va_Nw.use rfl (hN.1 _ (List.mem_of_getElem? (i := 53) rfl))) vx_n))))) (by decide +kernel) hS hl.1 (Nat.le_of_ble_eq_true rfl) (Nat.le_of_ble_eq_true rfl) (Nat.le_of_ble_eq_true rfl) (Nat.le_of_ble_eq_true rfl) dX6_requireCircuit_9 dX6_requireCircuit_12 (Or.inr ⟨dX6_requireCircuit_13, dX6_requireCircuit_16, dX6_requireCircuit_19⟩)

set_option maxHeartbeats 4000000 in
set_option maxRecDepth 100000 in
/-- circuitAt: one of the two circuits, or it throws -/
theorem kX6_circuitAt (l : Launch) (hfl : l.stackTraces = false) (dC : Nat → ClassId) (dI : Nat → Nat → Nat) (h0 w d co un ma tm : Nat) (p0 : Int32) (sz : Nat) : fXq l yX6_circuitAt wsX6_circuitAt ({ frames := 7, cells := 1, slots := 6, locals := 102 } : Room) dC dI [.ref h0, .int p0] [(h0, .inr (9, [.ref w, .ref d, .ref co, .ref un, .ref ma, .ref tm, .int 0, .int 0, .int 0]))] [] sz (fun E : String => E = "java/lang/IllegalArgumentException" ∧ ¬ (p0 = 0 ∨ p0 = 1)) (fun (r : Option Nat) (u : Unit) => (p0 = 0 ∧ r = some w) ∨ (p0 = 1 ∧ r = some d)) (fun u => [(h0, .inr (9, [.ref w, .ref d, .ref co, .ref un, .ref ma, .ref tm, .int 0, .int 0, .int 0]))]) (fun u => []) := by
  refine oX_q hfl (Or.inl ⟨_, rfl⟩) (y := yX6_circuitAt) (cc := cX6_circuitAt) (maxL := 2) (by decide) rfl (Nat.le_of_ble_eq_true rfl) ?_
  intro p e s m args below meth c ls A Q hx hb hr hml hown hts hN hZ hA hin hlk hP hK hD hl ret thr thn
  have hS : va_S A s.heap s.heap [] := va_S.rf
  have hl : lv_has ls 2 [(0, .ref h0), (1, .int p0)] := hl
  have hP : va_P (dC, dI) vwCl [(h0, .inr (9, [.ref w, .ref d, .ref co, .ref un, .ref ma, .ref tm, .int 0, .int 0, .int 0]))] _ := hP
  have hD : va_D A [(h0, .inr (9, [.ref w, .ref d, .ref co, .ref un, .ref ma, .ref tm, .int 0, .int 0, .int 0]))] := hD
  refine lv_iload_n hx hb dX6_circuitAt_0 rfl (lv_at hl 1 rfl) ?_
  have hPc := hP.sub (ws' := []) [] rfl
  have hDc := hD.sub (ws' := []) [] (by decide) rfl
  have hKc := hK.sub (tys' := []) [] rfl
  have hFc := va_free (wc := []) hD hS hA [] rfl
  refine vx_callv (vx_runS (As := [.int p0]) (rest := []) ⟨hx, hb, hml, hown, hts⟩ (kX6_requireCircuit l hfl dC dI p0 s.heap.size) (va_cwS 1 hts gX6_circuitAt_X6_requireCircuit rfl rfl rfl (by decide +kernel) ⟨Nat.le_of_ble_eq_true rfl, Nat.le_of_ble_eq_true rfl⟩) (fPreS hN hZ hS (fun q h => hFc q h) hPc hKc hDc) rfl rfl hl.1 rfl (lv_room (Nat.le_of_ble_eq_true rfl)) dX6_circuitAt_1 ⟨Nat.le_of_ble_eq_true rfl, Nat.le_of_ble_eq_true rfl⟩) hS (fun q _ h => hFc q h) hFc (fun q _ h => hFc q h) (fun E ce q9 u t H locs ht hvm hpx hE hz1 hk1 hS hq9 hv9 hc9 => ?_) (fun u t H1 locs ht hvm hw hB hz1 hk1 hS => ?_)
  · skip
    exact thr E ce q9 _ _ _ _ _ _ _ (hE) hq9 hv9 hc9 hS (Nat.le_of_ble_eq_true rfl) (Nat.le_of_ble_eq_true rfl)
  · skip
    obtain ⟨hP1, hK1, hD1⟩ := hB
    rw [ht] at hP1
    have hK1 := va_K.moved hvm.symm hK1
    obtain ⟨hP, hD⟩ := va_join (wr := [(h0, .inr (9, [.ref w, .ref d, .ref co, .ref un, .ref ma, .ref tm, .int 0, .int 0, .int 0]))]) (w1 := []) hP hD [] [0] rfl rfl (by decide) (by decide) hk1 hFc hP1 hD1
    generalize H1 = H at hP hS ⊢
    have hP : va_P (dC, dI) vwCl [(h0, .inr (9, [.ref w, .ref d, .ref co, .ref un, .ref ma, .ref tm, .int 0, .int 0, .int 0]))] _ := hP
    have hD : va_D A [(h0, .inr (9, [.ref w, .ref d, .ref co, .ref un, .ref ma, .ref tm, .int 0, .int 0, .int 0]))] := hD
    refine W.widen (k := 1) (n := 6) (Nat.le_of_ble_eq_true rfl) (Nat.le_of_ble_eq_true rfl) ?_
    refine lv_iload_n hx hb dX6_circuitAt_4 rfl (lv_at hl 1 rfl) ?_
    refine lv_if_ne (tgt := 15) hx hb dX6_circuitAt_5 (by decide) (fun h1 => ?_) (fun h1 => ?_)
    · skip
      refine lv_aload_n hx hb dX6_circuitAt_15 rfl (lv_at hl 0 rfl) ?_
      refine va_get (D := (dC, dI)) (ci := 9) (v := .ref d) (C := RX6) (T := TX6) (N := 9) hx hb hts (fun w h => List.mem_cons_of_mem _ (List.mem_append_left _ (List.mem_append_right _ (h)))) hown hK hP 0 rfl rfl 1 (by decide) (hts (.fieldLink RX6 16 "Netcompare" "drawn" "LNetcompare$Circuit;") (List.mem_cons_of_mem _ (List.mem_append_left _ (List.mem_append_left _ (List.mem_of_getElem? (i := 1) rfl))))) (fun _ h9 => h9) rfl dX6_circuitAt_16 ?_
      exact ret (some d) () _ _ _ _ _ _ (by first | exact Or.inl ⟨by assumption, rfl⟩ | exact Or.inr ⟨hw.resolve_left (by assumption), rfl⟩) (hP.sub [0] rfl) (hK.sub [] rfl) (hD.sub [0] (by decide) rfl) hS (Nat.le_of_ble_eq_true rfl) (Nat.le_of_ble_eq_true rfl) dX6_circuitAt_19
    · skip
      refine lv_aload_n hx hb dX6_circuitAt_8 rfl (lv_at hl 0 rfl) ?_
      refine va_get (D := (dC, dI)) (ci := 9) (v := .ref w) (C := RX6) (T := TX6) (N := 9) hx hb hts (fun w h => List.mem_cons_of_mem _ (List.mem_append_left _ (List.mem_append_right _ (h)))) hown hK hP 0 rfl rfl 0 (by decide) (hts (.fieldLink RX6 10 "Netcompare" "wished" "LNetcompare$Circuit;") (List.mem_cons_of_mem _ (List.mem_append_left _ (List.mem_append_left _ (List.mem_of_getElem? (i := 0) rfl))))) (fun _ h9 => h9) rfl dX6_circuitAt_9 ?_
      refine lv_goto (tgt := 19) hx hb dX6_circuitAt_12 (by decide) ?_
      exact ret (some w) () _ _ _ _ _ _ (by first | exact Or.inl ⟨by assumption, rfl⟩ | exact Or.inr ⟨hw.resolve_left (by assumption), rfl⟩) (hP.sub [0] rfl) (hK.sub [] rfl) (hD.sub [0] (by decide) rfl) hS (Nat.le_of_ble_eq_true rfl) (Nat.le_of_ble_eq_true rfl) dX6_circuitAt_19

set_option maxHeartbeats 4000000 in
set_option maxRecDepth 100000 in
/-- forget: on a fresh object nothing changes -/
theorem kX6_forget (l : Launch) (dC : Nat → ClassId) (dI : Nat → Nat → Nat) (h0 w d co un ma tm : Nat) (sz : Nat) : fMv l yX6_forget wsX6_forget ({ frames := 0, cells := 0, slots := 0, locals := 0 } : Room) dC dI [.ref h0] [(h0, .inr (9, [.ref w, .ref d, .ref co, .ref un, .ref ma, .ref tm, .int 0, .int 0, .int 0]))] [] sz (fun (u : Unit) => True) (fun u => [(h0, .inr (9, [.ref w, .ref d, .ref co, .ref un, .ref ma, .ref tm, .int 0, .int 0, .int 0]))]) (fun u => []) := by
  refine oP_v (y := yX6_forget) (cc := cX6_forget) (maxL := 1) (by decide) rfl (Nat.le_of_ble_eq_true rfl) ?_
  intro p e s m args below meth c ls A Q hx hb hr hml hown hts hN hZ hA hin hlk hP hK hD hl ret
  have hS : va_S A s.heap s.heap [] := va_S.rf
  have hl : lv_has ls 1 [(0, .ref h0)] := hl
  have hP : va_P (dC, dI) vwCl [(h0, .inr (9, [.ref w, .ref d, .ref co, .ref un, .ref ma, .ref tm, .int 0, .int 0, .int 0]))] _ := hP
  have hD : va_D A [(h0, .inr (9, [.ref w, .ref d, .ref co, .ref un, .ref ma, .ref tm, .int 0, .int 0, .int 0]))] := hD
  refine lv_aload_n hx hb dX6_forget_0 rfl (lv_at hl 0 rfl) ?_
  refine lv_iconst (v := 0) hx hb dX6_forget_1 (by decide) ?_
  refine va_put (D := (dC, dI)) (ci := 9) (v := .int 0) (ty := .boolean) (C := RX6) (T := TX6) (N := 9) hx hb hts (fun w h => List.mem_cons_of_mem _ (List.mem_append_right _ (h))) tyX6 tyX6_ok nmX6 hown hK hP hD hS 0 rfl rfl 6 (by decide) (hts (.fieldLink RX6 308 "Netcompare" "isColoured" "Z") (List.mem_cons_of_mem _ (List.mem_append_left _ (List.mem_of_getElem? (i := 0) rfl)))) (fun _ h9 => h9) rfl (by decide +kernel) rfl rfl (Nat.le_of_ble_eq_true rfl) dX6_forget_2 (fun H locs hP hD hS => ?_)
  have hP : va_P (dC, dI) vwCl [(h0, .inr (9, [.ref w, .ref d, .ref co, .ref un, .ref ma, .ref tm, .int 0, .int 0, .int 0]))] _ := hP
  have hD : va_D A [(h0, .inr (9, [.ref w, .ref d, .ref co, .ref un, .ref ma, .ref tm, .int 0, .int 0, .int 0]))] := hD
  refine lv_aload_n hx hb dX6_forget_5 rfl (lv_at hl 0 rfl) ?_
  refine lv_iconst (v := 0) hx hb dX6_forget_6 (by decide) ?_
  refine va_put (D := (dC, dI)) (ci := 9) (v := .int 0) (ty := .boolean) (C := RX6) (T := TX6) (N := 9) hx hb hts (fun w h => List.mem_cons_of_mem _ (List.mem_append_right _ (h))) tyX6 tyX6_ok nmX6 hown hK hP hD hS 0 rfl rfl 7 (by decide) (hts (.fieldLink RX6 311 "Netcompare" "isSearched" "Z") (List.mem_cons_of_mem _ (List.mem_append_left _ (List.mem_of_getElem? (i := 1) rfl)))) (fun _ h9 => h9) rfl (by decide +kernel) rfl rfl (Nat.le_of_ble_eq_true rfl) dX6_forget_7 (fun H locs hP hD hS => ?_)
  have hP : va_P (dC, dI) vwCl [(h0, .inr (9, [.ref w, .ref d, .ref co, .ref un, .ref ma, .ref tm, .int 0, .int 0, .int 0]))] _ := hP
  have hD : va_D A [(h0, .inr (9, [.ref w, .ref d, .ref co, .ref un, .ref ma, .ref tm, .int 0, .int 0, .int 0]))] := hD
  refine lv_aload_n hx hb dX6_forget_10 rfl (lv_at hl 0 rfl) ?_
  refine lv_iconst (v := 0) hx hb dX6_forget_11 (by decide) ?_
  refine va_put (D := (dC, dI)) (ci := 9) (v := .int 0) (ty := .boolean) (C := RX6) (T := TX6) (N := 9) hx hb hts (fun w h => List.mem_cons_of_mem _ (List.mem_append_right _ (h))) tyX6 tyX6_ok nmX6 hown hK hP hD hS 0 rfl rfl 8 (by decide) (hts (.fieldLink RX6 314 "Netcompare" "isTried" "Z") (List.mem_cons_of_mem _ (List.mem_append_left _ (List.mem_of_getElem? (i := 2) rfl)))) (fun _ h9 => h9) rfl (by decide +kernel) rfl rfl (Nat.le_of_ble_eq_true rfl) dX6_forget_12 (fun H locs hP hD hS => ?_)
  have hP : va_P (dC, dI) vwCl [(h0, .inr (9, [.ref w, .ref d, .ref co, .ref un, .ref ma, .ref tm, .int 0, .int 0, .int 0]))] _ := hP
  have hD : va_D A [(h0, .inr (9, [.ref w, .ref d, .ref co, .ref un, .ref ma, .ref tm, .int 0, .int 0, .int 0]))] := hD
  exact ret () _ _ _ _ _ _ (trivial) (hP.sub [0] rfl) (hK.sub [] rfl) (hD.sub [0] (by decide) rfl) hS (Nat.le_of_ble_eq_true rfl) (Nat.le_of_ble_eq_true rfl) dX6_forget_15

set_option maxHeartbeats 4000000 in
set_option maxRecDepth 100000 in
/-- hasNet: an empty circuit has none -/
theorem kX0_hasNet (l : Launch) (dC : Nat → ClassId) (dI : Nat → Nat → Nat) (a aL aP aS : Nat) (p0 : Int32) (sz : Nat) : fMi l yX0_hasNet wsX0_hasNet ({ frames := 0, cells := 0, slots := 0, locals := 0 } : Room) dC dI [.ref a, .int p0] [(a, .inr (3, [.int 0, .int 0, .ref aL, .ref aP, .ref aS]))] [] sz (fun (r : Int32) (u : Unit) => r = 0) (fun u => [(a, .inr (3, [.int 0, .int 0, .ref aL, .ref aP, .ref aS]))]) (fun u => []) := by
  refine oP_z (y := yX0_hasNet) (cc := cX0_hasNet) (maxL := 2) (by decide) rfl (Nat.le_of_ble_eq_true rfl) ?_
  intro p e s m args below meth c ls A Q hx hb hr hml hown hts hN hZ hA hin hlk hP hK hD hl ret
  have hS : va_S A s.heap s.heap [] := va_S.rf
  have hl : lv_has ls 2 [(0, .ref a), (1, .int p0)] := hl
  have hP : va_P (dC, dI) vwCl [(a, .inr (3, [.int 0, .int 0, .ref aL, .ref aP, .ref aS]))] _ := hP
  have hD : va_D A [(a, .inr (3, [.int 0, .int 0, .ref aL, .ref aP, .ref aS]))] := hD
  refine lv_iload_n hx hb dX0_hasNet_0 rfl (lv_at hl 1 rfl) ?_
  refine lv_if_lt (tgt := 16) hx hb dX0_hasNet_1 (by decide) (fun h1 => ?_) (fun h1 => ?_)
  · skip
    refine lv_iconst (v := 0) hx hb dX0_hasNet_16 (by decide) ?_
    exact ret _ () _ _ _ _ _ _ (rfl) (rfl) (hP.sub [0] rfl) (hK.sub [] rfl) (hD.sub [0] (by decide) rfl) hS (Nat.le_of_ble_eq_true rfl) (Nat.le_of_ble_eq_true rfl) dX0_hasNet_17
  · skip
    refine lv_iload_n hx hb dX0_hasNet_4 rfl (lv_at hl 1 rfl) ?_
    refine lv_aload_n hx hb dX0_hasNet_5 rfl (lv_at hl 0 rfl) ?_
    refine va_get (D := (dC, dI)) (ci := 3) (v := .int 0) (C := RX0) (T := TX0) (N := 5) hx hb hts (fun w h => List.mem_cons_of_mem _ (List.mem_append_right _ (h))) hown hK hP 0 rfl rfl 0 (by decide) (hts (.fieldLink RX0 26 "Netcompare$Circuit" "netCount" "I") (List.mem_cons_of_mem _ (List.mem_append_left _ (List.mem_of_getElem? (i := 0) rfl)))) (fun _ h9 => h9) rfl dX0_hasNet_6 ?_
    refine lv_icmp_ge (tgt := 16) hx hb dX0_hasNet_9 (by decide) (fun _ => ?_) (fun h9 => absurd (Int32.not_lt.mp h1) h9)
    refine lv_iconst (v := 0) hx hb dX0_hasNet_16 (by decide) ?_
    exact ret _ () _ _ _ _ _ _ (rfl) (rfl) (hP.sub [0] rfl) (hK.sub [] rfl) (hD.sub [0] (by decide) rfl) hS (Nat.le_of_ble_eq_true rfl) (Nat.le_of_ble_eq_true rfl) dX0_hasNet_17

set_option maxHeartbeats 4000000 in
set_option maxRecDepth 100000 in
/-- hasPart: an empty circuit has none -/
theorem kX0_hasPart (l : Launch) (dC : Nat → ClassId) (dI : Nat → Nat → Nat) (a aL aP aS : Nat) (p0 : Int32) (sz : Nat) : fMi l yX0_hasPart wsX0_hasPart ({ frames := 0, cells := 0, slots := 0, locals := 0 } : Room) dC dI [.ref a, .int p0] [(a, .inr (3, [.int 0, .int 0, .ref aL, .ref aP, .ref aS]))] [] sz (fun (r : Int32) (u : Unit) => r = 0) (fun u => [(a, .inr (3, [.int 0, .int 0, .ref aL, .ref aP, .ref aS]))]) (fun u => []) := by
  refine oP_z (y := yX0_hasPart) (cc := cX0_hasPart) (maxL := 2) (by decide) rfl (Nat.le_of_ble_eq_true rfl) ?_
  intro p e s m args below meth c ls A Q hx hb hr hml hown hts hN hZ hA hin hlk hP hK hD hl ret
  have hS : va_S A s.heap s.heap [] := va_S.rf
  have hl : lv_has ls 2 [(0, .ref a), (1, .int p0)] := hl
  have hP : va_P (dC, dI) vwCl [(a, .inr (3, [.int 0, .int 0, .ref aL, .ref aP, .ref aS]))] _ := hP
  have hD : va_D A [(a, .inr (3, [.int 0, .int 0, .ref aL, .ref aP, .ref aS]))] := hD
  refine lv_iload_n hx hb dX0_hasPart_0 rfl (lv_at hl 1 rfl) ?_
  refine lv_if_lt (tgt := 28) hx hb dX0_hasPart_1 (by decide) (fun h1 => ?_) (fun h1 => ?_)
  · skip
    refine lv_iconst (v := 0) hx hb dX0_hasPart_28 (by decide) ?_
    exact ret _ () _ _ _ _ _ _ (rfl) (rfl) (hP.sub [0] rfl) (hK.sub [] rfl) (hD.sub [0] (by decide) rfl) hS (Nat.le_of_ble_eq_true rfl) (Nat.le_of_ble_eq_true rfl) dX0_hasPart_29
  · skip
    refine lv_iload_n hx hb dX0_hasPart_4 rfl (lv_at hl 1 rfl) ?_
    refine lv_aload_n hx hb dX0_hasPart_5 rfl (lv_at hl 0 rfl) ?_
    refine va_get (D := (dC, dI)) (ci := 3) (v := .int 0) (C := RX0) (T := TX0) (N := 5) hx hb hts (fun w h => List.mem_cons_of_mem _ (List.mem_append_left _ (List.mem_append_right _ (h)))) hown hK hP 0 rfl rfl 1 (by decide) (hts (.fieldLink RX0 30 "Netcompare$Circuit" "addedParts" "I") (List.mem_cons_of_mem _ (List.mem_append_left _ (List.mem_append_left _ (List.mem_of_getElem? (i := 0) rfl))))) (fun _ h9 => h9) rfl dX0_hasPart_6 ?_
    refine lv_icmp_ge (tgt := 28) hx hb dX0_hasPart_9 (by decide) (fun _ => ?_) (fun h9 => absurd (Int32.not_lt.mp h1) h9)
    refine lv_iconst (v := 0) hx hb dX0_hasPart_28 (by decide) ?_
    exact ret _ () _ _ _ _ _ _ (rfl) (rfl) (hP.sub [0] rfl) (hK.sub [] rfl) (hD.sub [0] (by decide) rfl) hS (Nat.le_of_ble_eq_true rfl) (Nat.le_of_ble_eq_true rfl) dX0_hasPart_29

set_option maxHeartbeats 4000000 in
set_option maxRecDepth 100000 in
/-- requireNet: throws on an empty circuit -/
theorem kX6_requireNet (l : Launch) (hfl : l.stackTraces = false) (dC : Nat → ClassId) (dI : Nat → Nat → Nat) (a aL aP aS : Nat) (p0 : Int32) (sz : Nat) : fXv l yX6_requireNet wsX6_requireNet ({ frames := 6, cells := 1, slots := 6, locals := 82 } : Room) dC dI [.ref a, .int p0] [(a, .inr (3, [.int 0, .int 0, .ref aL, .ref aP, .ref aS]))] [] sz (fun E : String => E = "java/util/NoSuchElementException") (fun (u : Unit) => False) (fun u => [(a, .inr (3, [.int 0, .int 0, .ref aL, .ref aP, .ref aS]))]) (fun u => []) := by
  refine oX_v hfl (y := yX6_requireNet) (cc := cX6_requireNet) (maxL := 2) (by decide) rfl (Nat.le_of_ble_eq_true rfl) ?_
  intro p e s m args below meth c ls A Q hx hb hr hml hown hts hN hZ hA hin hlk hP hK hD hl ret thr thn
  have hS : va_S A s.heap s.heap [] := va_S.rf
  have hl : lv_has ls 2 [(0, .ref a), (1, .int p0)] := hl
  have hP : va_P (dC, dI) vwCl [(a, .inr (3, [.int 0, .int 0, .ref aL, .ref aP, .ref aS]))] _ := hP
  have hD : va_D A [(a, .inr (3, [.int 0, .int 0, .ref aL, .ref aP, .ref aS]))] := hD
  refine lv_aload_n hx hb dX6_requireNet_0 rfl (lv_at hl 0 rfl) ?_
  refine lv_iload_n hx hb dX6_requireNet_1 rfl (lv_at hl 1 rfl) ?_
  have hPc := hP.sub (ws' := [(a, .inr (3, [.int 0, .int 0, .ref aL, .ref aP, .ref aS]))]) [0] rfl
  have hDc := hD.sub (ws' := [(a, .inr (3, [.int 0, .int 0, .ref aL, .ref aP, .ref aS]))]) [0] (by decide) rfl
  have hKc := hK.sub (tys' := []) [] rfl
  have hFc := va_free (wc := [(a, .inr (3, [.int 0, .int 0, .ref aL, .ref aP, .ref aS]))]) hD hS hA [0] rfl
  refine va_calli (va_runV (As := [.int p0]) (rest := []) ⟨hx, hb, hml, hown, hts⟩ (kX0_hasNet l dC dI a aL aP aS p0 s.heap.size) (cwV 1 hts gX6_requireNet_X0_hasNet rfl rfl rfl (by decide +kernel) ⟨Nat.le_of_ble_eq_true rfl, Nat.le_of_ble_eq_true rfl⟩) (fPreV hN hZ hS (fun q h => hFc q h) hPc hKc hDc (ci := 3) (q0 := 0) rfl rfl) rfl rfl hl.1 rfl (lv_room (Nat.le_of_ble_eq_true rfl)) dX6_requireNet_2 ⟨Nat.le_of_ble_eq_true rfl, Nat.le_of_ble_eq_true rfl⟩) hS (fun q _ h => hFc q h) hFc (fun r u t H1 locs ht hvm hw hB hz1 hk1 hS => ?_)
  obtain ⟨hP1, hK1, hD1⟩ := hB
  rw [ht] at hP1
  have hK1 := va_K.moved hvm.symm hK1
  obtain ⟨hP, hD⟩ := va_join (wr := []) (w1 := [(a, .inr (3, [.int 0, .int 0, .ref aL, .ref aP, .ref aS]))]) hP hD [0] [] rfl rfl (by decide) (by decide) hk1 hFc hP1 hD1
  generalize H1 = H at hP hS ⊢
  have hP : va_P (dC, dI) vwCl [(a, .inr (3, [.int 0, .int 0, .ref aL, .ref aP, .ref aS]))] _ := hP
  have hD : va_D A [(a, .inr (3, [.int 0, .int 0, .ref aL, .ref aP, .ref aS]))] := hD
  subst hw
  refine lv_if_ne (tgt := 18) hx hb dX6_requireNet_5 (by decide) (fun h9 => absurd (by decide) h9) (fun _ => ?_)
  exact thn "java/util/NoSuchElementException" _ ["java/lang/RuntimeException", "java/lang/Exception"] 289 134 291 _ _ _ _ 8 _ (rfl) (by decide +kernel) (by decide +kernel) (hts (.classLink RX6 289 "java/util/NoSuchElementException") (List.mem_cons_of_mem _ (List.mem_append_left _ (List.mem_append_left _ (List.mem_of_getElem? (i := 0) rfl))))) (hts (.initialized "java/util/NoSuchElementException") (List.mem_cons_of_mem _ (List.mem_append_left _ (List.mem_append_left _ (List.mem_of_getElem? (i := 1) rfl))))) (hN.2 _ (List.mem_of_getElem? (i := 3) rfl)) (vx_hat (fun w h => hts w ((fun w h => List.mem_cons_of_mem _ (List.mem_append_right _ (h))) w h)) (B := [.castable "java/util/NoSuchElementException" "java/util/NoSuchElementException", .declares ⟨"java/lang/RuntimeException", "<init>", "(Ljava/lang/String;)V"⟩, .declares ⟨"java/lang/Exception", "<init>", "(Ljava/lang/String;)V"⟩, .declares ⟨"java/lang/Throwable", "<init>", "(Ljava/lang/String;)V"⟩]) (by decide +kernel) (vx_c (va_Nw.use rfl (hN.1 _ (List.mem_of_getElem? (i := 55) rfl))) (vx_c (va_Nw.use rfl (hN.1 _ (List.mem_of_getElem? (i := 51) rfl))) (vx_c (va_Nw.use rfl (hN.1 _ (List.mem_of_getElem? (i := 52) rfl))) (vx_c (va_Nw.use rfl (hN.1 _ (List.mem_of_getElem? (i := 53) rfl))) vx_n))))) (by decide +kernel) hS hl.1 (Nat.le_of_ble_eq_true rfl) (Nat.le_of_ble_eq_true rfl) (Nat.le_of_ble_eq_true rfl) (Nat.le_of_ble_eq_true rfl) dX6_requireNet_8 dX6_requireNet_11 (Or.inl ⟨dX6_requireNet_12, dX6_requireNet_14, dX6_requireNet_17⟩)

set_option maxHeartbeats 4000000 in
set_option maxRecDepth 100000 in
/-- requirePart: throws on an empty circuit -/
theorem kX6_requirePart (l : Launch) (hfl : l.stackTraces = false) (dC : Nat → ClassId) (dI : Nat → Nat → Nat) (a aL aP aS : Nat) (p0 : Int32) (sz : Nat) : fXv l yX6_requirePart wsX6_requirePart ({ frames := 6, cells := 1, slots := 6, locals := 82 } : Room) dC dI [.ref a, .int p0] [(a, .inr (3, [.int 0, .int 0, .ref aL, .ref aP, .ref aS]))] [] sz (fun E : String => E = "java/util/NoSuchElementException") (fun (u : Unit) => False) (fun u => [(a, .inr (3, [.int 0, .int 0, .ref aL, .ref aP, .ref aS]))]) (fun u => []) := by
  refine oX_v hfl (y := yX6_requirePart) (cc := cX6_requirePart) (maxL := 2) (by decide) rfl (Nat.le_of_ble_eq_true rfl) ?_
  intro p e s m args below meth c ls A Q hx hb hr hml hown hts hN hZ hA hin hlk hP hK hD hl ret thr thn
  have hS : va_S A s.heap s.heap [] := va_S.rf
  have hl : lv_has ls 2 [(0, .ref a), (1, .int p0)] := hl
  have hP : va_P (dC, dI) vwCl [(a, .inr (3, [.int 0, .int 0, .ref aL, .ref aP, .ref aS]))] _ := hP
  have hD : va_D A [(a, .inr (3, [.int 0, .int 0, .ref aL, .ref aP, .ref aS]))] := hD
  refine lv_aload_n hx hb dX6_requirePart_0 rfl (lv_at hl 0 rfl) ?_
  refine lv_iload_n hx hb dX6_requirePart_1 rfl (lv_at hl 1 rfl) ?_
  have hPc := hP.sub (ws' := [(a, .inr (3, [.int 0, .int 0, .ref aL, .ref aP, .ref aS]))]) [0] rfl
  have hDc := hD.sub (ws' := [(a, .inr (3, [.int 0, .int 0, .ref aL, .ref aP, .ref aS]))]) [0] (by decide) rfl
  have hKc := hK.sub (tys' := []) [] rfl
  have hFc := va_free (wc := [(a, .inr (3, [.int 0, .int 0, .ref aL, .ref aP, .ref aS]))]) hD hS hA [0] rfl
  refine va_calli (va_runV (As := [.int p0]) (rest := []) ⟨hx, hb, hml, hown, hts⟩ (kX0_hasPart l dC dI a aL aP aS p0 s.heap.size) (cwV 1 hts gX6_requirePart_X0_hasPart rfl rfl rfl (by decide +kernel) ⟨Nat.le_of_ble_eq_true rfl, Nat.le_of_ble_eq_true rfl⟩) (fPreV hN hZ hS (fun q h => hFc q h) hPc hKc hDc (ci := 3) (q0 := 0) rfl rfl) rfl rfl hl.1 rfl (lv_room (Nat.le_of_ble_eq_true rfl)) dX6_requirePart_2 ⟨Nat.le_of_ble_eq_true rfl, Nat.le_of_ble_eq_true rfl⟩) hS (fun q _ h => hFc q h) hFc (fun r u t H1 locs ht hvm hw hB hz1 hk1 hS => ?_)
  obtain ⟨hP1, hK1, hD1⟩ := hB
  rw [ht] at hP1
  have hK1 := va_K.moved hvm.symm hK1
  obtain ⟨hP, hD⟩ := va_join (wr := []) (w1 := [(a, .inr (3, [.int 0, .int 0, .ref aL, .ref aP, .ref aS]))]) hP hD [0] [] rfl rfl (by decide) (by decide) hk1 hFc hP1 hD1
  generalize H1 = H at hP hS ⊢
  have hP : va_P (dC, dI) vwCl [(a, .inr (3, [.int 0, .int 0, .ref aL, .ref aP, .ref aS]))] _ := hP
  have hD : va_D A [(a, .inr (3, [.int 0, .int 0, .ref aL, .ref aP, .ref aS]))] := hD
  subst hw
  refine lv_if_ne (tgt := 19) hx hb dX6_requirePart_5 (by decide) (fun h9 => absurd (by decide) h9) (fun _ => ?_)
  exact thn "java/util/NoSuchElementException" _ ["java/lang/RuntimeException", "java/lang/Exception"] 289 295 291 _ _ _ _ 8 _ (rfl) (by decide +kernel) (by decide +kernel) (hts (.classLink RX6 289 "java/util/NoSuchElementException") (List.mem_cons_of_mem _ (List.mem_append_left _ (List.mem_append_left _ (List.mem_append_left _ (List.mem_of_getElem? (i := 0) rfl)))))) (hts (.initialized "java/util/NoSuchElementException") (List.mem_cons_of_mem _ (List.mem_append_left _ (List.mem_append_left _ (List.mem_append_left _ (List.mem_of_getElem? (i := 1) rfl)))))) (hN.2 _ (List.mem_of_getElem? (i := 9) rfl)) (vx_hat (fun w h => hts w ((fun w h => List.mem_cons_of_mem _ (List.mem_append_right _ (h))) w h)) (B := [.castable "java/util/NoSuchElementException" "java/util/NoSuchElementException", .declares ⟨"java/lang/RuntimeException", "<init>", "(Ljava/lang/String;)V"⟩, .declares ⟨"java/lang/Exception", "<init>", "(Ljava/lang/String;)V"⟩, .declares ⟨"java/lang/Throwable", "<init>", "(Ljava/lang/String;)V"⟩]) (by decide +kernel) (vx_c (va_Nw.use rfl (hN.1 _ (List.mem_of_getElem? (i := 55) rfl))) (vx_c (va_Nw.use rfl (hN.1 _ (List.mem_of_getElem? (i := 51) rfl))) (vx_c (va_Nw.use rfl (hN.1 _ (List.mem_of_getElem? (i := 52) rfl))) (vx_c (va_Nw.use rfl (hN.1 _ (List.mem_of_getElem? (i := 53) rfl))) vx_n))))) (by decide +kernel) hS hl.1 (Nat.le_of_ble_eq_true rfl) (Nat.le_of_ble_eq_true rfl) (Nat.le_of_ble_eq_true rfl) (Nat.le_of_ble_eq_true rfl) dX6_requirePart_8 dX6_requirePart_11 (Or.inr ⟨dX6_requirePart_12, dX6_requirePart_15, dX6_requirePart_18⟩)
