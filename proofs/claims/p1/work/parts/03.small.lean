
/-! pure facts for the class: ranges of a parameter, rows of a table of rows, copies onto the same -/
theorem f10 {x : Int32} (h1 : ¬ x < 0) (h2 : ¬ 10 ≤ x) : x = 0 ∨ x = 1 ∨ x = 2 ∨ x = 3 ∨ x = 4 ∨ x = 5 ∨ x = 6 ∨ x = 7 ∨ x = 8 ∨ x = 9 := by
  have e0 : (0 : Int32).toInt = 0 := by decide
  have e1 : (10 : Int32).toInt = 10 := by decide
  rw [Int32.lt_iff_toInt_lt, e0] at h1
  rw [Int32.le_iff_toInt_le, e1] at h2
  rcases (show x.toInt = 0 ∨ x.toInt = 1 ∨ x.toInt = 2 ∨ x.toInt = 3 ∨ x.toInt = 4 ∨ x.toInt = 5 ∨ x.toInt = 6 ∨ x.toInt = 7 ∨ x.toInt = 8 ∨ x.toInt = 9 by omega) with h | h | h | h | h | h | h | h | h | h
  · exact Or.inl (Int32.toInt_inj.mp (h.trans (by decide)))
  · exact Or.inr (Or.inl (Int32.toInt_inj.mp (h.trans (by decide))))
  · exact Or.inr (Or.inr (Or.inl (Int32.toInt_inj.mp (h.trans (by decide)))))
  · exact Or.inr (Or.inr (Or.inr (Or.inl (Int32.toInt_inj.mp (h.trans (by decide))))))
  · exact Or.inr (Or.inr (Or.inr (Or.inr (Or.inl (Int32.toInt_inj.mp (h.trans (by decide)))))))
  · exact Or.inr (Or.inr (Or.inr (Or.inr (Or.inr (Or.inl (Int32.toInt_inj.mp (h.trans (by decide))))))))
  · exact Or.inr (Or.inr (Or.inr (Or.inr (Or.inr (Or.inr (Or.inl (Int32.toInt_inj.mp (h.trans (by decide)))))))))
  · exact Or.inr (Or.inr (Or.inr (Or.inr (Or.inr (Or.inr (Or.inr (Or.inl (Int32.toInt_inj.mp (h.trans (by decide))))))))))
  · exact Or.inr (Or.inr (Or.inr (Or.inr (Or.inr (Or.inr (Or.inr (Or.inr (Or.inl (Int32.toInt_inj.mp (h.trans (by decide)))))))))))
  · exact Or.inr (Or.inr (Or.inr (Or.inr (Or.inr (Or.inr (Or.inr (Or.inr (Or.inr (Int32.toInt_inj.mp (h.trans (by decide)))))))))))
theorem f03 {x : Int32} (h1 : ¬ x < 0) (h2 : ¬ 3 ≤ x) : x = 0 ∨ x = 1 ∨ x = 2 := by
  have e0 : (0 : Int32).toInt = 0 := by decide
  have e1 : (3 : Int32).toInt = 3 := by decide
  rw [Int32.lt_iff_toInt_lt, e0] at h1
  rw [Int32.le_iff_toInt_le, e1] at h2
  rcases (show x.toInt = 0 ∨ x.toInt = 1 ∨ x.toInt = 2 by omega) with h | h | h
  · exact Or.inl (Int32.toInt_inj.mp (h.trans (by decide)))
  · exact Or.inr (Or.inl (Int32.toInt_inj.mp (h.trans (by decide))))
  · exact Or.inr (Or.inr (Int32.toInt_inj.mp (h.trans (by decide))))
theorem fIx {x : Int32} (n : Nat) (h1 : ¬ x < 0) (h2 : ¬ nI n ≤ x) (hn : n < 2 ^ 31 := by decide) : vp_in x n := by
  intro h
  rcases h with h | h
  · exact h1 h
  · have e0 : (0 : Int32).toInt = 0 := by decide
    rw [Int32.lt_iff_toInt_lt, e0] at h1
    rw [Int32.le_iff_toInt_le, nI_toInt hn] at h2
    have h' : n ≤ x.toInt.toNat := h
    omega
theorem f99 {i : Nat} (h : i < 10) : ¬ ((99 : Int32) = nI i - 1) := by
  rcases (show i = 0 ∨ i = 1 ∨ i = 2 ∨ i = 3 ∨ i = 4 ∨ i = 5 ∨ i = 6 ∨ i = 7 ∨ i = 8 ∨ i = 9 by omega) with rfl | rfl | rfl | rfl | rfl | rfl | rfl | rfl | rfl | rfl <;> decide
abbrev fM3 : Nat → Int32 := upd (upd (upd (fun _ => 0) 0 (-1)) 1 (-1)) 2 (-1)
theorem fCpS (f : Nat → Int32) (n : Nat) : va_cpy f f 0 0 n = f := funext fun j => by
  unfold va_cpy
  split
  · rw [Nat.sub_zero, Nat.zero_add]
  · rfl
theorem fVr {α : Type} (v : α) (L : List Nat) : vr_up (fun _ => v) L v = fun _ => v := funext fun a => by unfold vr_up; split <;> rfl
theorem fFch (r : Nat → Nat) : (fun i => if i < 10 then some (r i) else none) = fch (r 0) (r 1) (r 2) (r 3) (r 4) (r 5) (r 6) (r 7) (r 8) (r 9) := funext fun i => by
  rcases Nat.lt_or_ge i 10 with h | h
  · rcases (show i = 0 ∨ i = 1 ∨ i = 2 ∨ i = 3 ∨ i = 4 ∨ i = 5 ∨ i = 6 ∨ i = 7 ∨ i = 8 ∨ i = 9 by omega) with rfl | rfl | rfl | rfl | rfl | rfl | rfl | rfl | rfl | rfl <;> rfl
  · rw [if_neg (by omega)]
    simp only [fch, va_up]
    rw [if_neg (by omega), if_neg (by omega), if_neg (by omega), if_neg (by omega), if_neg (by omega), if_neg (by omega), if_neg (by omega), if_neg (by omega), if_neg (by omega), if_neg (by omega)]
section
variable {p : Program} {l : Launch} {e : Env} {R : Room} {s : State} {m : MethodId} {args : Array Value} {below : List Frame} {meth : Method} {c : Code} {H : Heap} {locs : List Loc} {cells slots : Nat} {Q : State → Prop} {pc : Nat} {ls : Array Slot} {rest : List Value} {D : va_G} {cl : List vw_C} {tys : List (ClassId × FieldType)} {ws : va_W} {a : Nat} {cc : ByteArray}
theorem va_alda (hexec : p.tables.exec = Jvm.exec) (hb : c.code = cc) (hK : va_K D cl tys s) (hP : va_P D cl ws H) (q0 t0 : Nat) {cA : ClassId} {t : FieldType} {n : Nat} {f : Nat → Option Nat} (ha : ws[q0]? = some (a, .inl (cA, n, .inr (.inr (.inr (.inr f)))))) (ht : tys[t0]? = some (cA, .array t)) {i : Int32} (hin : vp_in i n) (hdg : decode cc pc = .ok (.aaload, 1))
    (kk : W p l e R s m args below meth c H locs cells slots Q (F0 m (pc + 1) ls (va_rf (f i.toNatClampNeg) :: rest))) : W p l e R s m args below meth c H locs cells slots Q (F0 m pc ls (.int i :: .ref a :: rest)) := by
  have hlt : i.toNatClampNeg < n := Nat.not_le.mp fun q => hin (Or.inr q)
  exact W.aald (v := va_rf (f i.toNatClampNeg)) (ty := .array t) hexec hb (hP q0 _ ha) ((hK.2 t0 _ ht).1 n (fun j => va_rf (f j))) rfl (fun q => by cases q) (by show ¬ (i < 0 ∨ (arrV _ _ _).slots.size ≤ _); rw [arrV_size]; exact hin) (by show (arrV _ _ _).slots[_]? = _; rw [arrV_read _ _ hlt]) rfl rfl hdg kk
end
theorem dX0_hasNet_0 : decode cX0_hasNet 0 = .ok (.iload_n 1, 1) := by decide +kernel
theorem dX0_hasNet_1 : decode cX0_hasNet 1 = .ok (.ifCond .lt 15, 3) := by decide +kernel
theorem dX0_hasNet_4 : decode cX0_hasNet 4 = .ok (.iload_n 1, 1) := by decide +kernel
theorem dX0_hasNet_5 : decode cX0_hasNet 5 = .ok (.aload_n 0, 1) := by decide +kernel
theorem dX0_hasNet_6 : decode cX0_hasNet 6 = .ok (.getfield 33, 3) := by decide +kernel
theorem dX0_hasNet_9 : decode cX0_hasNet 9 = .ok (.if_icmp .ge 7, 3) := by decide +kernel
theorem dX0_hasNet_16 : decode cX0_hasNet 16 = .ok (.iconst 0, 1) := by decide +kernel
theorem dX0_hasNet_17 : decode cX0_hasNet 17 = .ok (.ireturn, 1) := by decide +kernel
set_option maxRecDepth 20000 in
theorem ggX0_hasPart_X0_valueAt : GoodIn wsX0_hasPart wsX0_valueAt := goodIn_ca (goodIn_r _ [5, 6, 7, 8, 9, 10, 11, 12, 13, 14, 15] (by decide +kernel) (by decide +kernel)) (goodIn_sub (fun _ h => List.mem_cons_of_mem _ (List.mem_append_right _ h)) (by decide +kernel))
set_option maxRecDepth 20000 in
theorem gX0_hasPart_X0_valueAt : GoodIn wsX0_hasPart (wsV RX0 37 RX0 yX0_valueAt wsX0_valueAt) := goodIn_app (goodIn_of _ (by decide +kernel)) ggX0_hasPart_X0_valueAt
theorem dX0_hasPart_0 : decode cX0_hasPart 0 = .ok (.aload_n 0, 1) := by decide +kernel
theorem dX0_hasPart_1 : decode cX0_hasPart 1 = .ok (.iload_n 1, 1) := by decide +kernel
theorem dX0_hasPart_2 : decode cX0_hasPart 2 = .ok (.invokevirtual 37, 3) := by decide +kernel
theorem dX0_hasPart_5 : decode cX0_hasPart 5 = .ok (.ifCond .le 7, 3) := by decide +kernel
theorem dX0_hasPart_12 : decode cX0_hasPart 12 = .ok (.iconst 0, 1) := by decide +kernel
theorem dX0_hasPart_13 : decode cX0_hasPart 13 = .ok (.ireturn, 1) := by decide +kernel
theorem dX0_letterAt_0 : decode cX0_letterAt 0 = .ok (.iload_n 1, 1) := by decide +kernel
theorem dX0_letterAt_1 : decode cX0_letterAt 1 = .ok (.ifCond .lt 26, 3) := by decide +kernel
theorem dX0_letterAt_4 : decode cX0_letterAt 4 = .ok (.iload_n 1, 1) := by decide +kernel
theorem dX0_letterAt_5 : decode cX0_letterAt 5 = .ok (.bipush 10, 2) := by decide +kernel
theorem dX0_letterAt_7 : decode cX0_letterAt 7 = .ok (.if_icmp .ge 20, 3) := by decide +kernel
theorem dX0_letterAt_10 : decode cX0_letterAt 10 = .ok (.iload_n 1, 1) := by decide +kernel
theorem dX0_letterAt_11 : decode cX0_letterAt 11 = .ok (.aload_n 0, 1) := by decide +kernel
theorem dX0_letterAt_12 : decode cX0_letterAt 12 = .ok (.getfield 33, 3) := by decide +kernel
theorem dX0_letterAt_15 : decode cX0_letterAt 15 = .ok (.if_icmp .ge 12, 3) := by decide +kernel
theorem dX0_letterAt_27 : decode cX0_letterAt 27 = .ok (.bipush 45, 2) := by decide +kernel
theorem dX0_letterAt_29 : decode cX0_letterAt 29 = .ok (.ireturn, 1) := by decide +kernel
theorem dX0_kindAt_0 : decode cX0_kindAt 0 = .ok (.iload_n 1, 1) := by decide +kernel
theorem dX0_kindAt_1 : decode cX0_kindAt 1 = .ok (.ifCond .lt 27, 3) := by decide +kernel
theorem dX0_kindAt_4 : decode cX0_kindAt 4 = .ok (.iload_n 1, 1) := by decide +kernel
theorem dX0_kindAt_5 : decode cX0_kindAt 5 = .ok (.bipush 10, 2) := by decide +kernel
theorem dX0_kindAt_7 : decode cX0_kindAt 7 = .ok (.if_icmp .ge 21, 3) := by decide +kernel
theorem dX0_kindAt_10 : decode cX0_kindAt 10 = .ok (.aload_n 0, 1) := by decide +kernel
theorem dX0_kindAt_11 : decode cX0_kindAt 11 = .ok (.getfield 18, 3) := by decide +kernel
theorem dX0_kindAt_14 : decode cX0_kindAt 14 = .ok (.iload_n 1, 1) := by decide +kernel
theorem dX0_kindAt_15 : decode cX0_kindAt 15 = .ok (.iaload, 1) := by decide +kernel
theorem dX0_kindAt_16 : decode cX0_kindAt 16 = .ok (.ifCond .le 12, 3) := by decide +kernel
theorem dX0_kindAt_28 : decode cX0_kindAt 28 = .ok (.bipush 45, 2) := by decide +kernel
theorem dX0_kindAt_30 : decode cX0_kindAt 30 = .ok (.ireturn, 1) := by decide +kernel
theorem dX0_valueAt_0 : decode cX0_valueAt 0 = .ok (.iload_n 1, 1) := by decide +kernel
theorem dX0_valueAt_1 : decode cX0_valueAt 1 = .ok (.ifCond .lt 18, 3) := by decide +kernel
theorem dX0_valueAt_4 : decode cX0_valueAt 4 = .ok (.iload_n 1, 1) := by decide +kernel
theorem dX0_valueAt_5 : decode cX0_valueAt 5 = .ok (.bipush 10, 2) := by decide +kernel
theorem dX0_valueAt_7 : decode cX0_valueAt 7 = .ok (.if_icmp .ge 12, 3) := by decide +kernel
theorem dX0_valueAt_10 : decode cX0_valueAt 10 = .ok (.aload_n 0, 1) := by decide +kernel
theorem dX0_valueAt_11 : decode cX0_valueAt 11 = .ok (.getfield 18, 3) := by decide +kernel
theorem dX0_valueAt_14 : decode cX0_valueAt 14 = .ok (.iload_n 1, 1) := by decide +kernel
theorem dX0_valueAt_15 : decode cX0_valueAt 15 = .ok (.iaload, 1) := by decide +kernel
theorem dX0_valueAt_16 : decode cX0_valueAt 16 = .ok (.goto 4, 3) := by decide +kernel
theorem dX0_valueAt_19 : decode cX0_valueAt 19 = .ok (.iconst 0, 1) := by decide +kernel
theorem dX0_valueAt_20 : decode cX0_valueAt 20 = .ok (.ireturn, 1) := by decide +kernel
theorem dX0_netAt_0 : decode cX0_netAt 0 = .ok (.iload_n 1, 1) := by decide +kernel
theorem dX0_netAt_1 : decode cX0_netAt 1 = .ok (.ifCond .lt 29, 3) := by decide +kernel
theorem dX0_netAt_4 : decode cX0_netAt 4 = .ok (.iload_n 1, 1) := by decide +kernel
theorem dX0_netAt_5 : decode cX0_netAt 5 = .ok (.bipush 10, 2) := by decide +kernel
theorem dX0_netAt_7 : decode cX0_netAt 7 = .ok (.if_icmp .ge 23, 3) := by decide +kernel
theorem dX0_netAt_10 : decode cX0_netAt 10 = .ok (.iload_n 2, 1) := by decide +kernel
theorem dX0_netAt_11 : decode cX0_netAt 11 = .ok (.ifCond .lt 19, 3) := by decide +kernel
theorem dX0_netAt_14 : decode cX0_netAt 14 = .ok (.iload_n 2, 1) := by decide +kernel
theorem dX0_netAt_15 : decode cX0_netAt 15 = .ok (.iconst 3, 1) := by decide +kernel
theorem dX0_netAt_16 : decode cX0_netAt 16 = .ok (.if_icmp .ge 14, 3) := by decide +kernel
theorem dX0_netAt_19 : decode cX0_netAt 19 = .ok (.aload_n 0, 1) := by decide +kernel
theorem dX0_netAt_20 : decode cX0_netAt 20 = .ok (.getfield 24, 3) := by decide +kernel
theorem dX0_netAt_23 : decode cX0_netAt 23 = .ok (.iload_n 1, 1) := by decide +kernel
theorem dX0_netAt_24 : decode cX0_netAt 24 = .ok (.aaload, 1) := by decide +kernel
theorem dX0_netAt_25 : decode cX0_netAt 25 = .ok (.iload_n 2, 1) := by decide +kernel
theorem dX0_netAt_26 : decode cX0_netAt 26 = .ok (.iaload, 1) := by decide +kernel
theorem dX0_netAt_27 : decode cX0_netAt 27 = .ok (.goto 4, 3) := by decide +kernel
theorem dX0_netAt_30 : decode cX0_netAt 30 = .ok (.iconst (-1), 1) := by decide +kernel
theorem dX0_netAt_31 : decode cX0_netAt 31 = .ok (.ireturn, 1) := by decide +kernel
theorem dX0_stepsAt_0 : decode cX0_stepsAt 0 = .ok (.iload_n 1, 1) := by decide +kernel
theorem dX0_stepsAt_1 : decode cX0_stepsAt 1 = .ok (.ifCond .lt 18, 3) := by decide +kernel
theorem dX0_stepsAt_19 : decode cX0_stepsAt 19 = .ok (.bipush 99, 2) := by decide +kernel
theorem dX0_stepsAt_21 : decode cX0_stepsAt 21 = .ok (.ireturn, 1) := by decide +kernel
theorem dX0_countParts_0 : decode cX0_countParts 0 = .ok (.iconst 0, 1) := by decide +kernel
theorem dX0_countParts_1 : decode cX0_countParts 1 = .ok (.istore_n 1, 1) := by decide +kernel
theorem dX0_countParts_2 : decode cX0_countParts 2 = .ok (.iconst 0, 1) := by decide +kernel
theorem dX0_countParts_3 : decode cX0_countParts 3 = .ok (.istore_n 2, 1) := by decide +kernel
theorem dX0_countParts_4 : decode cX0_countParts 4 = .ok (.iload_n 2, 1) := by decide +kernel
theorem dX0_countParts_5 : decode cX0_countParts 5 = .ok (.bipush 10, 2) := by decide +kernel
theorem dX0_countParts_7 : decode cX0_countParts 7 = .ok (.if_icmp .ge 21, 3) := by decide +kernel
theorem dX0_countParts_10 : decode cX0_countParts 10 = .ok (.aload_n 0, 1) := by decide +kernel
theorem dX0_countParts_11 : decode cX0_countParts 11 = .ok (.getfield 18, 3) := by decide +kernel
theorem dX0_countParts_14 : decode cX0_countParts 14 = .ok (.iload_n 2, 1) := by decide +kernel
theorem dX0_countParts_15 : decode cX0_countParts 15 = .ok (.iaload, 1) := by decide +kernel
theorem dX0_countParts_16 : decode cX0_countParts 16 = .ok (.ifCond .le 6, 3) := by decide +kernel
theorem dX0_countParts_22 : decode cX0_countParts 22 = .ok (.iinc 2 1, 3) := by decide +kernel
theorem dX0_countParts_25 : decode cX0_countParts 25 = .ok (.goto (-21), 3) := by decide +kernel
theorem dX0_countParts_28 : decode cX0_countParts 28 = .ok (.iload_n 1, 1) := by decide +kernel
theorem dX0_countParts_29 : decode cX0_countParts 29 = .ok (.ireturn, 1) := by decide +kernel
set_option maxRecDepth 20000 in
theorem ggX0_measure_X0_letterAt : GoodIn wsX0_measure wsX0_letterAt := goodIn_ca (goodIn_r _ [6, 7, 8, 30, 31, 32, 33, 34, 35, 36, 37, 38] (by decide +kernel) (by decide +kernel)) (goodIn_sub (fun _ h => List.mem_cons_of_mem _ (List.mem_append_right _ h)) (by decide +kernel))
set_option maxRecDepth 20000 in
theorem gX0_measure_X0_letterAt : GoodIn wsX0_measure (wsV RX0 41 RX0 yX0_letterAt wsX0_letterAt) := goodIn_app (goodIn_of _ (by decide +kernel)) ggX0_measure_X0_letterAt
set_option maxRecDepth 20000 in
theorem ggX0_measure_X0_nearest : GoodIn wsX0_measure wsX0_nearest := goodIn_ca (goodIn_r _ [12, 13, 14, 15, 16, 17, 18, 19, 5, 20, 21, 22, 23, 24, 25, 1, 30, 31, 32, 33, 34, 35, 36, 37, 38] (by decide +kernel) (by decide +kernel)) (goodIn_sub (fun _ h => List.mem_cons_of_mem _ (List.mem_append_right _ h)) (by decide +kernel))
set_option maxRecDepth 20000 in
theorem gX0_measure_X0_nearest : GoodIn wsX0_measure (wsV RX0 71 RX0 yX0_nearest wsX0_nearest) := goodIn_app (goodIn_of _ (by decide +kernel)) ggX0_measure_X0_nearest
theorem dX0_measure_0 : decode cX0_measure 0 = .ok (.iconst 0, 1) := by decide +kernel
theorem dX0_measure_1 : decode cX0_measure 1 = .ok (.istore_n 1, 1) := by decide +kernel
theorem dX0_measure_2 : decode cX0_measure 2 = .ok (.iload_n 1, 1) := by decide +kernel
theorem dX0_measure_3 : decode cX0_measure 3 = .ok (.bipush 10, 2) := by decide +kernel
theorem dX0_measure_5 : decode cX0_measure 5 = .ok (.if_icmp .ge 31, 3) := by decide +kernel
theorem dX0_measure_8 : decode cX0_measure 8 = .ok (.aload_n 0, 1) := by decide +kernel
theorem dX0_measure_9 : decode cX0_measure 9 = .ok (.getfield 27, 3) := by decide +kernel
theorem dX0_measure_12 : decode cX0_measure 12 = .ok (.iload_n 1, 1) := by decide +kernel
theorem dX0_measure_13 : decode cX0_measure 13 = .ok (.aload_n 0, 1) := by decide +kernel
theorem dX0_measure_14 : decode cX0_measure 14 = .ok (.iload_n 1, 1) := by decide +kernel
theorem dX0_measure_15 : decode cX0_measure 15 = .ok (.invokevirtual 41, 3) := by decide +kernel
theorem dX0_measure_18 : decode cX0_measure 18 = .ok (.bipush 45, 2) := by decide +kernel
theorem dX0_measure_20 : decode cX0_measure 20 = .ok (.if_icmp .ne 8, 3) := by decide +kernel
theorem dX0_measure_23 : decode cX0_measure 23 = .ok (.bipush 99, 2) := by decide +kernel
theorem dX0_measure_25 : decode cX0_measure 25 = .ok (.goto 4, 3) := by decide +kernel
theorem dX0_measure_29 : decode cX0_measure 29 = .ok (.iastore, 1) := by decide +kernel
theorem dX0_measure_30 : decode cX0_measure 30 = .ok (.iinc 1 1, 3) := by decide +kernel
theorem dX0_measure_33 : decode cX0_measure 33 = .ok (.goto (-31), 3) := by decide +kernel
theorem dX0_measure_36 : decode cX0_measure 36 = .ok (.iconst 1, 1) := by decide +kernel
theorem dX0_measure_37 : decode cX0_measure 37 = .ok (.istore_n 1, 1) := by decide +kernel
theorem dX0_measure_38 : decode cX0_measure 38 = .ok (.iload_n 1, 1) := by decide +kernel
theorem dX0_measure_39 : decode cX0_measure 39 = .ok (.bipush 10, 2) := by decide +kernel
theorem dX0_measure_41 : decode cX0_measure 41 = .ok (.if_icmp .ge 40, 3) := by decide +kernel
theorem dX0_measure_44 : decode cX0_measure 44 = .ok (.iconst 0, 1) := by decide +kernel
theorem dX0_measure_45 : decode cX0_measure 45 = .ok (.istore_n 2, 1) := by decide +kernel
theorem dX0_measure_46 : decode cX0_measure 46 = .ok (.iload_n 2, 1) := by decide +kernel
theorem dX0_measure_47 : decode cX0_measure 47 = .ok (.bipush 10, 2) := by decide +kernel
theorem dX0_measure_49 : decode cX0_measure 49 = .ok (.if_icmp .ge 26, 3) := by decide +kernel
theorem dX0_measure_52 : decode cX0_measure 52 = .ok (.aload_n 0, 1) := by decide +kernel
theorem dX0_measure_53 : decode cX0_measure 53 = .ok (.iload_n 2, 1) := by decide +kernel
theorem dX0_measure_54 : decode cX0_measure 54 = .ok (.invokevirtual 71, 3) := by decide +kernel
theorem dX0_measure_57 : decode cX0_measure 57 = .ok (.iload_n 1, 1) := by decide +kernel
theorem dX0_measure_58 : decode cX0_measure 58 = .ok (.iconst 1, 1) := by decide +kernel
theorem dX0_measure_59 : decode cX0_measure 59 = .ok (.isub, 1) := by decide +kernel
theorem dX0_measure_60 : decode cX0_measure 60 = .ok (.if_icmp .ne 9, 3) := by decide +kernel
theorem dX0_measure_69 : decode cX0_measure 69 = .ok (.iinc 2 1, 3) := by decide +kernel
theorem dX0_measure_72 : decode cX0_measure 72 = .ok (.goto (-26), 3) := by decide +kernel
theorem dX0_measure_75 : decode cX0_measure 75 = .ok (.iinc 1 1, 3) := by decide +kernel
theorem dX0_measure_78 : decode cX0_measure 78 = .ok (.goto (-40), 3) := by decide +kernel
theorem dX0_measure_81 : decode cX0_measure 81 = .ok (.return_, 1) := by decide +kernel
set_option maxRecDepth 20000 in
theorem ggX0_nearest_X0_netAt : GoodIn wsX0_nearest wsX0_netAt := goodIn_ca (goodIn_r _ [9, 10, 16, 17, 18, 19, 20, 21, 22, 23, 24] (by decide +kernel) (by decide +kernel)) (goodIn_sub (fun _ h => List.mem_cons_of_mem _ (List.mem_append_right _ h)) (by decide +kernel))
set_option maxRecDepth 20000 in
theorem gX0_nearest_X0_netAt : GoodIn wsX0_nearest (wsV RX0 48 RX0 yX0_netAt wsX0_netAt) := goodIn_app (goodIn_of _ (by decide +kernel)) ggX0_nearest_X0_netAt
set_option maxRecDepth 20000 in
theorem ggX0_nearest_X0_stepsAt : GoodIn wsX0_nearest wsX0_stepsAt := goodIn_ca (goodIn_r _ [14, 15, 16, 17, 18, 19, 20, 21, 22, 23, 24] (by decide +kernel) (by decide +kernel)) (goodIn_sub (fun _ h => List.mem_cons_of_mem _ (List.mem_append_right _ h)) (by decide +kernel))
set_option maxRecDepth 20000 in
theorem gX0_nearest_X0_stepsAt : GoodIn wsX0_nearest (wsV RX0 83 RX0 yX0_stepsAt wsX0_stepsAt) := goodIn_app (goodIn_of _ (by decide +kernel)) ggX0_nearest_X0_stepsAt
theorem dX0_nearest_0 : decode cX0_nearest 0 = .ok (.bipush 99, 2) := by decide +kernel
theorem dX0_nearest_2 : decode cX0_nearest 2 = .ok (.istore_n 2, 1) := by decide +kernel
theorem dX0_nearest_3 : decode cX0_nearest 3 = .ok (.iconst 0, 1) := by decide +kernel
theorem dX0_nearest_4 : decode cX0_nearest 4 = .ok (.istore_n 3, 1) := by decide +kernel
theorem dX0_nearest_5 : decode cX0_nearest 5 = .ok (.iload_n 3, 1) := by decide +kernel
theorem dX0_nearest_6 : decode cX0_nearest 6 = .ok (.iconst 3, 1) := by decide +kernel
theorem dX0_nearest_7 : decode cX0_nearest 7 = .ok (.if_icmp .ge 24, 3) := by decide +kernel
theorem dX0_nearest_10 : decode cX0_nearest 10 = .ok (.iload_n 2, 1) := by decide +kernel
theorem dX0_nearest_11 : decode cX0_nearest 11 = .ok (.aload_n 0, 1) := by decide +kernel
theorem dX0_nearest_12 : decode cX0_nearest 12 = .ok (.aload_n 0, 1) := by decide +kernel
theorem dX0_nearest_13 : decode cX0_nearest 13 = .ok (.iload_n 1, 1) := by decide +kernel
theorem dX0_nearest_14 : decode cX0_nearest 14 = .ok (.iload_n 3, 1) := by decide +kernel
theorem dX0_nearest_15 : decode cX0_nearest 15 = .ok (.invokevirtual 48, 3) := by decide +kernel
theorem dX0_nearest_18 : decode cX0_nearest 18 = .ok (.invokevirtual 83, 3) := by decide +kernel
theorem dX0_nearest_21 : decode cX0_nearest 21 = .ok (.invokestatic 78, 3) := by decide +kernel
theorem dX0_nearest_24 : decode cX0_nearest 24 = .ok (.istore_n 2, 1) := by decide +kernel
theorem dX0_nearest_25 : decode cX0_nearest 25 = .ok (.iinc 3 1, 3) := by decide +kernel
theorem dX0_nearest_28 : decode cX0_nearest 28 = .ok (.goto (-23), 3) := by decide +kernel
theorem dX0_nearest_31 : decode cX0_nearest 31 = .ok (.iload_n 2, 1) := by decide +kernel
theorem dX0_nearest_32 : decode cX0_nearest 32 = .ok (.ireturn, 1) := by decide +kernel
set_option maxRecDepth 20000 in
theorem ggX0_wayToJoin_X0_kindAt : GoodIn wsX0_wayToJoin wsX0_kindAt := goodIn_ca (goodIn_r _ [5, 6, 7, 35, 36, 37, 38, 39, 40, 41, 42, 43] (by decide +kernel) (by decide +kernel)) (goodIn_sub (fun _ h => List.mem_cons_of_mem _ (List.mem_append_right _ h)) (by decide +kernel))
set_option maxRecDepth 20000 in
theorem gX0_wayToJoin_X0_kindAt : GoodIn wsX0_wayToJoin (wsV RX0 65 RX0 yX0_kindAt wsX0_kindAt) := goodIn_app (goodIn_of _ (by decide +kernel)) ggX0_wayToJoin_X0_kindAt
theorem dX0_wayToJoin_0 : decode cX0_wayToJoin 0 = .ok (.aload_n 0, 1) := by decide +kernel
theorem dX0_wayToJoin_1 : decode cX0_wayToJoin 1 = .ok (.iload_n 1, 1) := by decide +kernel
theorem dX0_wayToJoin_2 : decode cX0_wayToJoin 2 = .ok (.invokevirtual 65, 3) := by decide +kernel
theorem dX0_wayToJoin_5 : decode cX0_wayToJoin 5 = .ok (.istore_n 3, 1) := by decide +kernel
theorem dX0_wayToJoin_6 : decode cX0_wayToJoin 6 = .ok (.iload_n 1, 1) := by decide +kernel
theorem dX0_wayToJoin_7 : decode cX0_wayToJoin 7 = .ok (.iload_n 2, 1) := by decide +kernel
theorem dX0_wayToJoin_8 : decode cX0_wayToJoin 8 = .ok (.if_icmp .eq 24, 3) := by decide +kernel
theorem dX0_wayToJoin_11 : decode cX0_wayToJoin 11 = .ok (.iload_n 3, 1) := by decide +kernel
theorem dX0_wayToJoin_12 : decode cX0_wayToJoin 12 = .ok (.aload_n 0, 1) := by decide +kernel
theorem dX0_wayToJoin_13 : decode cX0_wayToJoin 13 = .ok (.iload_n 2, 1) := by decide +kernel
theorem dX0_wayToJoin_14 : decode cX0_wayToJoin 14 = .ok (.invokevirtual 65, 3) := by decide +kernel
theorem dX0_wayToJoin_17 : decode cX0_wayToJoin 17 = .ok (.if_icmp .ne 15, 3) := by decide +kernel
theorem dX0_wayToJoin_20 : decode cX0_wayToJoin 20 = .ok (.iload_n 3, 1) := by decide +kernel
theorem dX0_wayToJoin_21 : decode cX0_wayToJoin 21 = .ok (.bipush 114, 2) := by decide +kernel
theorem dX0_wayToJoin_23 : decode cX0_wayToJoin 23 = .ok (.if_icmp .eq 12, 3) := by decide +kernel
theorem dX0_wayToJoin_26 : decode cX0_wayToJoin 26 = .ok (.iload_n 3, 1) := by decide +kernel
theorem dX0_wayToJoin_27 : decode cX0_wayToJoin 27 = .ok (.bipush 99, 2) := by decide +kernel
theorem dX0_wayToJoin_29 : decode cX0_wayToJoin 29 = .ok (.if_icmp .eq 6, 3) := by decide +kernel
theorem dX0_wayToJoin_32 : decode cX0_wayToJoin 32 = .ok (.bipush 45, 2) := by decide +kernel
theorem dX0_wayToJoin_34 : decode cX0_wayToJoin 34 = .ok (.ireturn, 1) := by decide +kernel
set_option maxRecDepth 20000 in
theorem ggX0_joinPair_X0_wayToJoin : GoodIn wsX0_joinPair wsX0_wayToJoin := goodIn_ca (goodIn_r _ [12, 13, 14, 15, 11, 16, 17, 18, 19, 20, 21, 22, 23, 24, 25, 26, 27, 28, 29, 30, 31, 32, 33, 34, 35, 36, 37, 38, 39, 40, 41, 42, 43, 44, 45, 69, 70, 71, 72, 73, 74, 75, 76, 77] (by decide +kernel) (by decide +kernel)) (goodIn_sub (fun _ h => List.mem_cons_of_mem _ (List.mem_append_left _ (List.mem_append_right _ h))) (by decide +kernel))
set_option maxRecDepth 20000 in
theorem gX0_joinPair_X0_wayToJoin : GoodIn wsX0_joinPair (wsV RX0 99 RX0 yX0_wayToJoin wsX0_wayToJoin) := goodIn_app (goodIn_of _ (by decide +kernel)) ggX0_joinPair_X0_wayToJoin
theorem dX0_joinPair_0 : decode cX0_joinPair 0 = .ok (.aload_n 0, 1) := by decide +kernel
theorem dX0_joinPair_1 : decode cX0_joinPair 1 = .ok (.iload_n 1, 1) := by decide +kernel
theorem dX0_joinPair_2 : decode cX0_joinPair 2 = .ok (.iload_n 2, 1) := by decide +kernel
theorem dX0_joinPair_3 : decode cX0_joinPair 3 = .ok (.invokevirtual 99, 3) := by decide +kernel
theorem dX0_joinPair_6 : decode cX0_joinPair 6 = .ok (.istore_n 3, 1) := by decide +kernel
theorem dX0_joinPair_7 : decode cX0_joinPair 7 = .ok (.iload_n 3, 1) := by decide +kernel
theorem dX0_joinPair_8 : decode cX0_joinPair 8 = .ok (.bipush 45, 2) := by decide +kernel
theorem dX0_joinPair_10 : decode cX0_joinPair 10 = .ok (.if_icmp .ne 5, 3) := by decide +kernel
theorem dX0_joinPair_13 : decode cX0_joinPair 13 = .ok (.iconst 0, 1) := by decide +kernel
theorem dX0_joinPair_14 : decode cX0_joinPair 14 = .ok (.ireturn, 1) := by decide +kernel
set_option maxRecDepth 20000 in
theorem ggX0_joinWhilePossible_X0_joinFirstPair : GoodIn wsX0_joinWhilePossible wsX0_joinFirstPair := goodIn_ca (goodIn_ca (goodIn_r _ [5, 6, 7, 8, 4, 9, 10, 11, 12, 13, 14, 15, 16, 17, 18, 19, 20, 21, 22, 23, 24, 25, 26, 27, 28, 29, 30, 31, 32, 33, 34, 35, 36, 37, 38, 39, 40, 41, 42, 43, 44, 45, 46, 47, 48, 49, 50, 51, 52, 53, 54, 55, 56, 57, 58, 59, 60, 61, 62, 63, 64, 65, 66, 67, 68, 69, 70, 71, 72, 73, 74, 75, 76, 77, 78, 79, 80, 81, 82, 83, 84, 85] (by decide +kernel) (by decide +kernel)) (goodIn_sub (fun _ h => List.mem_cons_of_mem _ (List.mem_append_left _ (List.mem_append_right _ h))) (by decide +kernel))) (goodIn_sub (fun _ h => List.mem_cons_of_mem _ (List.mem_append_right _ h)) (by decide +kernel))
set_option maxRecDepth 20000 in
theorem gX0_joinWhilePossible_X0_joinFirstPair : GoodIn wsX0_joinWhilePossible (wsV RX0 117 RX0 yX0_joinFirstPair wsX0_joinFirstPair) := goodIn_app (goodIn_of _ (by decide +kernel)) ggX0_joinWhilePossible_X0_joinFirstPair
theorem dX0_joinWhilePossible_0 : decode cX0_joinWhilePossible 0 = .ok (.iconst 0, 1) := by decide +kernel
theorem dX0_joinWhilePossible_1 : decode cX0_joinWhilePossible 1 = .ok (.istore_n 1, 1) := by decide +kernel
theorem dX0_joinWhilePossible_2 : decode cX0_joinWhilePossible 2 = .ok (.iload_n 1, 1) := by decide +kernel
theorem dX0_joinWhilePossible_3 : decode cX0_joinWhilePossible 3 = .ok (.bipush 10, 2) := by decide +kernel
theorem dX0_joinWhilePossible_5 : decode cX0_joinWhilePossible 5 = .ok (.if_icmp .ge 16, 3) := by decide +kernel
theorem dX0_joinWhilePossible_8 : decode cX0_joinWhilePossible 8 = .ok (.aload_n 0, 1) := by decide +kernel
theorem dX0_joinWhilePossible_9 : decode cX0_joinWhilePossible 9 = .ok (.invokevirtual 117, 3) := by decide +kernel
theorem dX0_joinWhilePossible_12 : decode cX0_joinWhilePossible 12 = .ok (.ifCond .eq 9, 3) := by decide +kernel
theorem dX0_joinWhilePossible_21 : decode cX0_joinWhilePossible 21 = .ok (.iload_n 1, 1) := by decide +kernel
theorem dX0_joinWhilePossible_22 : decode cX0_joinWhilePossible 22 = .ok (.ireturn, 1) := by decide +kernel
set_option maxRecDepth 20000 in
theorem ggX0_joinFirstPair_X0_joinPair : GoodIn wsX0_joinFirstPair wsX0_joinPair := goodIn_ca (goodIn_ca (goodIn_r _ [5, 6, 7, 8, 9, 10, 11, 12, 13, 14, 15, 4, 16, 17, 18, 19, 20, 21, 22, 23, 24, 25, 26, 27, 28, 29, 30, 31, 32, 33, 34, 35, 36, 37, 38, 39, 40, 41, 42, 43, 44, 45, 46, 47, 48, 49, 50, 51, 52, 53, 54, 55, 56, 57, 58, 59, 60, 61, 62, 63, 64, 65, 66, 67, 68, 69, 70, 71, 72, 73, 74, 75, 76, 77, 78, 79, 80, 81] (by decide +kernel) (by decide +kernel)) (goodIn_sub (fun _ h => List.mem_cons_of_mem _ (List.mem_append_left _ (List.mem_append_right _ h))) (by decide +kernel))) (goodIn_sub (fun _ h => List.mem_cons_of_mem _ (List.mem_append_right _ h)) (by decide +kernel))
set_option maxRecDepth 20000 in
theorem gX0_joinFirstPair_X0_joinPair : GoodIn wsX0_joinFirstPair (wsV RX0 121 RX0 yX0_joinPair wsX0_joinPair) := goodIn_app (goodIn_of _ (by decide +kernel)) ggX0_joinFirstPair_X0_joinPair
theorem dX0_joinFirstPair_0 : decode cX0_joinFirstPair 0 = .ok (.iconst 0, 1) := by decide +kernel
theorem dX0_joinFirstPair_1 : decode cX0_joinFirstPair 1 = .ok (.istore_n 1, 1) := by decide +kernel
theorem dX0_joinFirstPair_2 : decode cX0_joinFirstPair 2 = .ok (.iload_n 1, 1) := by decide +kernel
theorem dX0_joinFirstPair_3 : decode cX0_joinFirstPair 3 = .ok (.bipush 10, 2) := by decide +kernel
theorem dX0_joinFirstPair_5 : decode cX0_joinFirstPair 5 = .ok (.if_icmp .ge 36, 3) := by decide +kernel
theorem dX0_joinFirstPair_8 : decode cX0_joinFirstPair 8 = .ok (.iload_n 1, 1) := by decide +kernel
theorem dX0_joinFirstPair_9 : decode cX0_joinFirstPair 9 = .ok (.iconst 1, 1) := by decide +kernel
theorem dX0_joinFirstPair_10 : decode cX0_joinFirstPair 10 = .ok (.iadd, 1) := by decide +kernel
theorem dX0_joinFirstPair_11 : decode cX0_joinFirstPair 11 = .ok (.istore_n 2, 1) := by decide +kernel
theorem dX0_joinFirstPair_12 : decode cX0_joinFirstPair 12 = .ok (.iload_n 2, 1) := by decide +kernel
theorem dX0_joinFirstPair_13 : decode cX0_joinFirstPair 13 = .ok (.bipush 10, 2) := by decide +kernel
theorem dX0_joinFirstPair_15 : decode cX0_joinFirstPair 15 = .ok (.if_icmp .ge 20, 3) := by decide +kernel
theorem dX0_joinFirstPair_18 : decode cX0_joinFirstPair 18 = .ok (.aload_n 0, 1) := by decide +kernel
theorem dX0_joinFirstPair_19 : decode cX0_joinFirstPair 19 = .ok (.iload_n 1, 1) := by decide +kernel
theorem dX0_joinFirstPair_20 : decode cX0_joinFirstPair 20 = .ok (.iload_n 2, 1) := by decide +kernel
theorem dX0_joinFirstPair_21 : decode cX0_joinFirstPair 21 = .ok (.invokevirtual 121, 3) := by decide +kernel
theorem dX0_joinFirstPair_24 : decode cX0_joinFirstPair 24 = .ok (.ifCond .eq 5, 3) := by decide +kernel
theorem dX0_joinFirstPair_29 : decode cX0_joinFirstPair 29 = .ok (.iinc 2 1, 3) := by decide +kernel
theorem dX0_joinFirstPair_32 : decode cX0_joinFirstPair 32 = .ok (.goto (-20), 3) := by decide +kernel
theorem dX0_joinFirstPair_35 : decode cX0_joinFirstPair 35 = .ok (.iinc 1 1, 3) := by decide +kernel
theorem dX0_joinFirstPair_38 : decode cX0_joinFirstPair 38 = .ok (.goto (-36), 3) := by decide +kernel
theorem dX0_joinFirstPair_41 : decode cX0_joinFirstPair 41 = .ok (.iconst 0, 1) := by decide +kernel
theorem dX0_joinFirstPair_42 : decode cX0_joinFirstPair 42 = .ok (.ireturn, 1) := by decide +kernel
theorem dX4_circuit_0 : decode cX4_circuit 0 = .ok (.iload_n 1, 1) := by decide +kernel
theorem dX4_circuit_1 : decode cX4_circuit 1 = .ok (.ifCond .ne 10, 3) := by decide +kernel
theorem dX4_circuit_4 : decode cX4_circuit 4 = .ok (.aload_n 0, 1) := by decide +kernel
theorem dX4_circuit_5 : decode cX4_circuit 5 = .ok (.getfield 12, 3) := by decide +kernel
theorem dX4_circuit_8 : decode cX4_circuit 8 = .ok (.goto 7, 3) := by decide +kernel
theorem dX4_circuit_11 : decode cX4_circuit 11 = .ok (.aload_n 0, 1) := by decide +kernel
theorem dX4_circuit_12 : decode cX4_circuit 12 = .ok (.getfield 18, 3) := by decide +kernel
theorem dX4_circuit_15 : decode cX4_circuit 15 = .ok (.areturn, 1) := by decide +kernel
set_option maxRecDepth 20000 in
theorem ggX5_circuitAt_X5_requireCircuit : GoodIn wsX5_circuitAt wsX5_requireCircuit := goodIn_ca (goodIn_r _ [5, 6, 7] (by decide +kernel) (by decide +kernel)) (goodIn_sub (fun _ h => List.mem_cons_of_mem _ (List.mem_append_right _ h)) (by decide +kernel))
set_option maxRecDepth 20000 in
theorem gX5_circuitAt_X5_requireCircuit : GoodIn wsX5_circuitAt (va_wsS RX5 200 yX5_requireCircuit wsX5_requireCircuit) := goodIn_app (goodIn_of _ (by decide +kernel)) ggX5_circuitAt_X5_requireCircuit
set_option maxRecDepth 20000 in
theorem ggX5_circuitAt_X4_circuit : GoodIn wsX5_circuitAt wsX4_circuit := goodIn_r _ [12, 13, 14, 18, 19, 20, 21, 22, 23, 24] (by decide +kernel) (by decide +kernel)
set_option maxRecDepth 20000 in
theorem gX5_circuitAt_X4_circuit : GoodIn wsX5_circuitAt (wsV RX5 276 RX4 yX4_circuit wsX4_circuit) := goodIn_app (goodIn_of _ (by decide +kernel)) ggX5_circuitAt_X4_circuit
theorem dX5_circuitAt_0 : decode cX5_circuitAt 0 = .ok (.iload_n 1, 1) := by decide +kernel
theorem dX5_circuitAt_1 : decode cX5_circuitAt 1 = .ok (.invokestatic 200, 3) := by decide +kernel
theorem dX5_circuitAt_4 : decode cX5_circuitAt 4 = .ok (.aload_n 0, 1) := by decide +kernel
theorem dX5_circuitAt_5 : decode cX5_circuitAt 5 = .ok (.getfield 10, 3) := by decide +kernel
theorem dX5_circuitAt_8 : decode cX5_circuitAt 8 = .ok (.iload_n 1, 1) := by decide +kernel
theorem dX5_circuitAt_9 : decode cX5_circuitAt 9 = .ok (.invokevirtual 276, 3) := by decide +kernel
theorem dX5_circuitAt_12 : decode cX5_circuitAt 12 = .ok (.areturn, 1) := by decide +kernel
theorem dX5_requireCircuit_0 : decode cX5_requireCircuit 0 = .ok (.iload_n 0, 1) := by decide +kernel
theorem dX5_requireCircuit_1 : decode cX5_requireCircuit 1 = .ok (.ifCond .eq 19, 3) := by decide +kernel
theorem dX5_requireCircuit_4 : decode cX5_requireCircuit 4 = .ok (.iload_n 0, 1) := by decide +kernel
theorem dX5_requireCircuit_5 : decode cX5_requireCircuit 5 = .ok (.iconst 1, 1) := by decide +kernel
theorem dX5_requireCircuit_6 : decode cX5_requireCircuit 6 = .ok (.if_icmp .eq 14, 3) := by decide +kernel
theorem dX5_requireCircuit_9 : decode cX5_requireCircuit 9 = .ok (.new 48, 3) := by decide +kernel
theorem dX5_requireCircuit_12 : decode cX5_requireCircuit 12 = .ok (.dup, 1) := by decide +kernel
theorem dX5_requireCircuit_13 : decode cX5_requireCircuit 13 = .ok (.ldc_w 279, 3) := by decide +kernel
theorem dX5_requireCircuit_16 : decode cX5_requireCircuit 16 = .ok (.invokespecial 52, 3) := by decide +kernel
theorem dX5_requireCircuit_19 : decode cX5_requireCircuit 19 = .ok (.athrow, 1) := by decide +kernel
theorem dX5_requireCircuit_20 : decode cX5_requireCircuit 20 = .ok (.return_, 1) := by decide +kernel
set_option maxRecDepth 20000 in
theorem ggX5_requireNet_X5_circuitAt : GoodIn wsX5_requireNet wsX5_circuitAt := goodIn_ca (goodIn_r _ [7, 8, 9, 10, 6, 11, 12, 13, 14, 15, 16, 17, 18, 19, 20, 27, 28, 29, 30, 31, 32, 33, 34, 35, 36] (by decide +kernel) (by decide +kernel)) (goodIn_sub (fun _ h => List.mem_cons_of_mem _ (List.mem_append_right _ h)) (by decide +kernel))
set_option maxRecDepth 20000 in
theorem gX5_requireNet_X5_circuitAt : GoodIn wsX5_requireNet (wsV RX5 28 RX5 yX5_circuitAt wsX5_circuitAt) := goodIn_app (goodIn_of _ (by decide +kernel)) ggX5_requireNet_X5_circuitAt
set_option maxRecDepth 20000 in
theorem ggX5_requireNet_X0_hasNet : GoodIn wsX5_requireNet wsX0_hasNet := goodIn_r _ [25, 26, 37, 38, 39, 40, 41, 42, 43, 44, 45] (by decide +kernel) (by decide +kernel)
set_option maxRecDepth 20000 in
theorem gX5_requireNet_X0_hasNet : GoodIn wsX5_requireNet (wsV RX5 100 RX0 yX0_hasNet wsX0_hasNet) := goodIn_app (goodIn_of _ (by decide +kernel)) ggX5_requireNet_X0_hasNet
theorem dX5_requireNet_0 : decode cX5_requireNet 0 = .ok (.aload_n 0, 1) := by decide +kernel
theorem dX5_requireNet_1 : decode cX5_requireNet 1 = .ok (.iload_n 1, 1) := by decide +kernel
theorem dX5_requireNet_2 : decode cX5_requireNet 2 = .ok (.invokevirtual 28, 3) := by decide +kernel
theorem dX5_requireNet_5 : decode cX5_requireNet 5 = .ok (.iload_n 2, 1) := by decide +kernel
theorem dX5_requireNet_6 : decode cX5_requireNet 6 = .ok (.invokevirtual 100, 3) := by decide +kernel
theorem dX5_requireNet_9 : decode cX5_requireNet 9 = .ok (.ifCond .ne 13, 3) := by decide +kernel
theorem dX5_requireNet_12 : decode cX5_requireNet 12 = .ok (.new 285, 3) := by decide +kernel
theorem dX5_requireNet_15 : decode cX5_requireNet 15 = .ok (.dup, 1) := by decide +kernel
theorem dX5_requireNet_16 : decode cX5_requireNet 16 = .ok (.ldc 106, 2) := by decide +kernel
theorem dX5_requireNet_18 : decode cX5_requireNet 18 = .ok (.invokespecial 287, 3) := by decide +kernel
theorem dX5_requireNet_21 : decode cX5_requireNet 21 = .ok (.athrow, 1) := by decide +kernel
set_option maxRecDepth 20000 in
theorem ggX5_requirePart_X5_circuitAt : GoodIn wsX5_requirePart wsX5_circuitAt := goodIn_ca (goodIn_r _ [7, 8, 9, 10, 6, 11, 12, 13, 14, 15, 16, 17, 18, 19, 20, 31, 32, 33, 34, 35, 36, 37, 38, 39, 40] (by decide +kernel) (by decide +kernel)) (goodIn_sub (fun _ h => List.mem_cons_of_mem _ (List.mem_append_left _ (List.mem_append_right _ h))) (by decide +kernel))
set_option maxRecDepth 20000 in
theorem gX5_requirePart_X5_circuitAt : GoodIn wsX5_requirePart (wsV RX5 28 RX5 yX5_circuitAt wsX5_circuitAt) := goodIn_app (goodIn_of _ (by decide +kernel)) ggX5_requirePart_X5_circuitAt
set_option maxRecDepth 20000 in
theorem ggX5_requirePart_X0_hasPart : GoodIn wsX5_requirePart wsX0_hasPart := goodIn_ca (goodIn_r _ [25, 26, 27, 28, 24, 29, 30, 41, 42, 43, 44, 45, 46, 47, 48, 49] (by decide +kernel) (by decide +kernel)) (goodIn_sub (fun _ h => List.mem_cons_of_mem _ (List.mem_append_right _ h)) (by decide +kernel))
set_option maxRecDepth 20000 in
theorem gX5_requirePart_X0_hasPart : GoodIn wsX5_requirePart (wsV RX5 288 RX0 yX0_hasPart wsX0_hasPart) := goodIn_app (goodIn_of _ (by decide +kernel)) ggX5_requirePart_X0_hasPart
theorem dX5_requirePart_0 : decode cX5_requirePart 0 = .ok (.aload_n 0, 1) := by decide +kernel
theorem dX5_requirePart_1 : decode cX5_requirePart 1 = .ok (.iload_n 1, 1) := by decide +kernel
theorem dX5_requirePart_2 : decode cX5_requirePart 2 = .ok (.invokevirtual 28, 3) := by decide +kernel
theorem dX5_requirePart_5 : decode cX5_requirePart 5 = .ok (.iload_n 2, 1) := by decide +kernel
theorem dX5_requirePart_6 : decode cX5_requirePart 6 = .ok (.invokevirtual 288, 3) := by decide +kernel
theorem dX5_requirePart_9 : decode cX5_requirePart 9 = .ok (.ifCond .ne 14, 3) := by decide +kernel
theorem dX5_requirePart_12 : decode cX5_requirePart 12 = .ok (.new 285, 3) := by decide +kernel
theorem dX5_requirePart_15 : decode cX5_requirePart 15 = .ok (.dup, 1) := by decide +kernel
theorem dX5_requirePart_16 : decode cX5_requirePart 16 = .ok (.ldc_w 291, 3) := by decide +kernel
theorem dX5_requirePart_19 : decode cX5_requirePart 19 = .ok (.invokespecial 287, 3) := by decide +kernel
theorem dX5_requirePart_22 : decode cX5_requirePart 22 = .ok (.athrow, 1) := by decide +kernel
theorem dX5_forget_0 : decode cX5_forget 0 = .ok (.aload_n 0, 1) := by decide +kernel
theorem dX5_forget_1 : decode cX5_forget 1 = .ok (.getfield 10, 3) := by decide +kernel
theorem dX5_forget_4 : decode cX5_forget 4 = .ok (.iconst 0, 1) := by decide +kernel
theorem dX5_forget_5 : decode cX5_forget 5 = .ok (.putfield 305, 3) := by decide +kernel
theorem dX5_forget_8 : decode cX5_forget 8 = .ok (.aload_n 0, 1) := by decide +kernel
theorem dX5_forget_9 : decode cX5_forget 9 = .ok (.getfield 21, 3) := by decide +kernel
theorem dX5_forget_12 : decode cX5_forget 12 = .ok (.iconst 0, 1) := by decide +kernel
theorem dX5_forget_13 : decode cX5_forget 13 = .ok (.putfield 308, 3) := by decide +kernel
theorem dX5_forget_16 : decode cX5_forget 16 = .ok (.aload_n 0, 1) := by decide +kernel
theorem dX5_forget_17 : decode cX5_forget 17 = .ok (.getfield 25, 3) := by decide +kernel
theorem dX5_forget_20 : decode cX5_forget 20 = .ok (.iconst 0, 1) := by decide +kernel
theorem dX5_forget_21 : decode cX5_forget 21 = .ok (.putfield 308, 3) := by decide +kernel
theorem dX5_forget_24 : decode cX5_forget 24 = .ok (.return_, 1) := by decide +kernel
set_option maxHeartbeats 4000000 in
set_option maxRecDepth 100000 in
/-- requireCircuit: 0 or 1, or it throws -/
theorem kX5_requireCircuit (l : Launch) (hfl : l.stackTraces = false) (dC : Nat → ClassId) (dI : Nat → Nat → Nat) (p0 : Int32) (sz : Nat) : fXv l yX5_requireCircuit wsX5_requireCircuit ({ frames := 6, cells := 1, slots := 6, locals := 82 } : Room) dC dI [.int p0] [] [] sz (fun E : String => E = "java/lang/IllegalArgumentException" ∧ ¬ ((p0 = 0) ∨ (p0 = 1))) (fun (u : Unit) => (p0 = 0) ∨ (p0 = 1)) (fun u => []) (fun u => []) := by
  refine oX_v hfl (y := yX5_requireCircuit) (cc := cX5_requireCircuit) (maxL := 1) (by decide) rfl (Nat.le_of_ble_eq_true rfl) ?_
  intro p e s m args below meth c ls A Q hx hb hr hml hown hts hN hZ hA hin hlk hP hK hD hl ret thr thn
  have hS : va_S A s.heap s.heap [] := va_S.rf
  have hl : lv_has ls 1 [(0, .int p0)] := hl
  have hP : va_P (dC, dI) vwCl [] _ := hP
  have hD : va_D A [] := hD
  refine lv_iload_n hx hb dX5_requireCircuit_0 rfl (lv_at hl 0 rfl) ?_
  refine lv_if_eq (tgt := 20) hx hb dX5_requireCircuit_1 (by decide) (fun h1 => ?_) (fun h1 => ?_)
  · skip
    exact ret () _ _ _ _ _ _ (by first | exact Or.inl (by assumption) | exact Or.inr (by assumption)) (hP.sub [] rfl) (hK.sub [] rfl) (hD.sub [] (by decide) rfl) hS (Nat.le_of_ble_eq_true rfl) (Nat.le_of_ble_eq_true rfl) dX5_requireCircuit_20
  · skip
    refine lv_iload_n hx hb dX5_requireCircuit_4 rfl (lv_at hl 0 rfl) ?_
    refine lv_iconst (v := 1) hx hb dX5_requireCircuit_5 (by decide) ?_
    refine lv_icmp_eq (tgt := 20) hx hb dX5_requireCircuit_6 (by decide) (fun h2 => ?_) (fun h2 => ?_)
    · skip
      exact ret () _ _ _ _ _ _ (by first | exact Or.inl (by assumption) | exact Or.inr (by assumption)) (hP.sub [] rfl) (hK.sub [] rfl) (hD.sub [] (by decide) rfl) hS (Nat.le_of_ble_eq_true rfl) (Nat.le_of_ble_eq_true rfl) dX5_requireCircuit_20
    · skip
      exact thn "java/lang/IllegalArgumentException" _ ["java/lang/RuntimeException", "java/lang/Exception"] 48 279 52 _ _ _ _ 9 _ (⟨rfl, fun h9 => by rcases h9 with h9 | h9 <;> contradiction⟩) (by decide +kernel) (by decide +kernel) (hts (.classLink RX5 48 "java/lang/IllegalArgumentException") (List.mem_cons_of_mem _ (List.mem_append_left _ (List.mem_of_getElem? (i := 0) rfl)))) (hts (.initialized "java/lang/IllegalArgumentException") (List.mem_cons_of_mem _ (List.mem_append_left _ (List.mem_of_getElem? (i := 1) rfl)))) (hN.2 _ (List.mem_of_getElem? (i := 0) rfl)) (vx_hat (fun w h => hts w ((fun w h => List.mem_cons_of_mem _ (List.mem_append_right _ (h))) w h)) (B := [.castable "java/lang/IllegalArgumentException" "java/lang/IllegalArgumentException", .declares ⟨"java/lang/RuntimeException", "<init>", "(Ljava/lang/String;)V"⟩, .declares ⟨"java/lang/Exception", "<init>", "(Ljava/lang/String;)V"⟩, .declares ⟨"java/lang/Throwable", "<init>", "(Ljava/lang/String;)V"⟩]) (by decide +kernel) (vx_c (va_Nw.use rfl (hN.1 _ (List.mem_of_getElem? (i := 22) rfl))) (vx_c (va_Nw.use rfl (hN.1 _ (List.mem_of_getElem? (i := 23) rfl))) (vx_c (va_Nw.use rfl (hN.1 _ (List.mem_of_getElem? (i := 24) rfl))) (vx_c (va_Nw.use rfl (hN.1 _ (List.mem_of_getElem? (i := 25) rfl))) vx_n))))) (by decide +kernel) hS hl.1 (Nat.le_of_ble_eq_true rfl) (Nat.le_of_ble_eq_true rfl) (Nat.le_of_ble_eq_true rfl) (Nat.le_of_ble_eq_true rfl) dX5_requireCircuit_9 dX5_requireCircuit_12 (Or.inr ⟨dX5_requireCircuit_13, dX5_requireCircuit_16, dX5_requireCircuit_19⟩)

set_option maxHeartbeats 4000000 in
set_option maxRecDepth 100000 in
/-- circuit: one of the two -/
theorem kX4_circuit (l : Launch) (dC : Nat → ClassId) (dI : Nat → Nat → Nat) (pr : Nat) (w d on op un : Nat) (p0 : Int32) (sz : Nat) : fMq l yX4_circuit wsX4_circuit ({ frames := 0, cells := 0, slots := 0, locals := 0 } : Room) dC dI [.ref pr, .int p0] [(pr, .inr (7, [.ref w, .ref d, .ref on, .ref op, .ref un, .int 0, .int 0]))] [] sz (fun (r : Option Nat) (u : Unit) => (p0 = 0 ∧ r = some w) ∨ (¬ p0 = 0 ∧ r = some d)) (fun u => [(pr, .inr (7, [.ref w, .ref d, .ref on, .ref op, .ref un, .int 0, .int 0]))]) (fun u => []) := by
  refine oP_q (Or.inl ⟨_, rfl⟩) (y := yX4_circuit) (cc := cX4_circuit) (maxL := 2) (by decide) rfl (Nat.le_of_ble_eq_true rfl) ?_
  intro p e s m args below meth c ls A Q hx hb hr hml hown hts hN hZ hA hin hlk hP hK hD hl ret
  have hS : va_S A s.heap s.heap [] := va_S.rf
  have hl : lv_has ls 2 [(0, .ref pr), (1, .int p0)] := hl
  have hP : va_P (dC, dI) vwCl [(pr, .inr (7, [.ref w, .ref d, .ref on, .ref op, .ref un, .int 0, .int 0]))] _ := hP
  have hD : va_D A [(pr, .inr (7, [.ref w, .ref d, .ref on, .ref op, .ref un, .int 0, .int 0]))] := hD
  refine lv_iload_n hx hb dX4_circuit_0 rfl (lv_at hl 1 rfl) ?_
  refine lv_if_ne (tgt := 11) hx hb dX4_circuit_1 (by decide) (fun h1 => ?_) (fun h1 => ?_)
  · skip
    refine lv_aload_n hx hb dX4_circuit_11 rfl (lv_at hl 0 rfl) ?_
    refine va_get (D := (dC, dI)) (ci := 7) (v := .ref d) (C := RX4) (T := TX4) (N := 7) hx hb hts (fun w h => List.mem_cons_of_mem _ (List.mem_append_right _ (h))) hown hK hP 0 rfl rfl 1 (by decide) (hts (.fieldLink RX4 18 "Netcompare$Pair" "drawn" "LNetcompare$Circuit;") (List.mem_cons_of_mem _ (List.mem_append_left _ (List.mem_of_getElem? (i := 1) rfl)))) (fun _ h9 => h9) rfl dX4_circuit_12 ?_
    exact ret (some d) () _ _ _ _ _ _ (by first | exact Or.inl ⟨by assumption, rfl⟩ | exact Or.inr ⟨by assumption, rfl⟩) (hP.sub [0] rfl) (hK.sub [] rfl) (hD.sub [0] (by decide) rfl) hS (Nat.le_of_ble_eq_true rfl) (Nat.le_of_ble_eq_true rfl) dX4_circuit_15
  · skip
    refine lv_aload_n hx hb dX4_circuit_4 rfl (lv_at hl 0 rfl) ?_
    refine va_get (D := (dC, dI)) (ci := 7) (v := .ref w) (C := RX4) (T := TX4) (N := 7) hx hb hts (fun w h => List.mem_cons_of_mem _ (List.mem_append_right _ (h))) hown hK hP 0 rfl rfl 0 (by decide) (hts (.fieldLink RX4 12 "Netcompare$Pair" "wished" "LNetcompare$Circuit;") (List.mem_cons_of_mem _ (List.mem_append_left _ (List.mem_of_getElem? (i := 0) rfl)))) (fun _ h9 => h9) rfl dX4_circuit_5 ?_
    refine lv_goto (tgt := 15) hx hb dX4_circuit_8 (by decide) ?_
    exact ret (some w) () _ _ _ _ _ _ (by first | exact Or.inl ⟨by assumption, rfl⟩ | exact Or.inr ⟨by assumption, rfl⟩) (hP.sub [0] rfl) (hK.sub [] rfl) (hD.sub [0] (by decide) rfl) hS (Nat.le_of_ble_eq_true rfl) (Nat.le_of_ble_eq_true rfl) dX4_circuit_15

set_option maxHeartbeats 4000000 in
set_option maxRecDepth 100000 in
/-- circuitAt: one of the two circuits, or it throws -/
theorem kX5_circuitAt (l : Launch) (hfl : l.stackTraces = false) (dC : Nat → ClassId) (dI : Nat → Nat → Nat) (h0 pr ma tm : Nat) (w d on op un : Nat) (p0 : Int32) (sz : Nat) : fXq l yX5_circuitAt wsX5_circuitAt ({ frames := 7, cells := 1, slots := 6, locals := 102 } : Room) dC dI [.ref h0, .int p0] [(h0, .inr (8, [.ref pr, .ref ma, .ref tm])), (pr, .inr (7, [.ref w, .ref d, .ref on, .ref op, .ref un, .int 0, .int 0]))] [] sz (fun E : String => E = "java/lang/IllegalArgumentException" ∧ ¬ ((p0 = 0) ∨ (p0 = 1))) (fun (r : Option Nat) (u : Unit) => (p0 = 0 ∧ r = some w) ∨ (p0 = 1 ∧ r = some d)) (fun u => [(h0, .inr (8, [.ref pr, .ref ma, .ref tm])), (pr, .inr (7, [.ref w, .ref d, .ref on, .ref op, .ref un, .int 0, .int 0]))]) (fun u => []) := by
  refine oX_q hfl (Or.inl ⟨_, rfl⟩) (y := yX5_circuitAt) (cc := cX5_circuitAt) (maxL := 2) (by decide) rfl (Nat.le_of_ble_eq_true rfl) ?_
  intro p e s m args below meth c ls A Q hx hb hr hml hown hts hN hZ hA hin hlk hP hK hD hl ret thr thn
  have hS : va_S A s.heap s.heap [] := va_S.rf
  have hl : lv_has ls 2 [(0, .ref h0), (1, .int p0)] := hl
  have hP : va_P (dC, dI) vwCl [(h0, .inr (8, [.ref pr, .ref ma, .ref tm])), (pr, .inr (7, [.ref w, .ref d, .ref on, .ref op, .ref un, .int 0, .int 0]))] _ := hP
  have hD : va_D A [(h0, .inr (8, [.ref pr, .ref ma, .ref tm])), (pr, .inr (7, [.ref w, .ref d, .ref on, .ref op, .ref un, .int 0, .int 0]))] := hD
  refine lv_iload_n hx hb dX5_circuitAt_0 rfl (lv_at hl 1 rfl) ?_
  have hPc := hP.sub (ws' := []) [] rfl
  have hDc := hD.sub (ws' := []) [] (by decide) rfl
  have hKc := hK.sub (tys' := []) [] rfl
  have hFc := va_free (wc := []) hD hS hA [] rfl
  refine vx_callv (vx_runS (As := [.int p0]) (rest := []) ⟨hx, hb, hml, hown, hts⟩ (kX5_requireCircuit l hfl dC dI p0 s.heap.size) (va_cwS 1 hts gX5_circuitAt_X5_requireCircuit rfl rfl rfl (by decide +kernel) ⟨Nat.le_of_ble_eq_true rfl, Nat.le_of_ble_eq_true rfl⟩) (fPreS hN hZ hS (fun q h => hFc q h) hPc hKc hDc) rfl rfl hl.1 rfl (lv_room (Nat.le_of_ble_eq_true rfl)) dX5_circuitAt_1 ⟨Nat.le_of_ble_eq_true rfl, Nat.le_of_ble_eq_true rfl⟩) hS (fun q _ h => hFc q h) hFc (fun q _ h => hFc q h) (fun E ce q9 u t H locs ht hvm hpx hE hz1 hk1 hS hq9 hv9 hc9 => ?_) (fun u t H1 locs ht hvm hw hB hz1 hk1 hS => ?_)
  · skip
    exact thr E ce q9 _ _ _ _ _ _ _ (hE) hq9 hv9 hc9 hS (Nat.le_of_ble_eq_true rfl) (Nat.le_of_ble_eq_true rfl)
  · skip
    obtain ⟨hP1, hK1, hD1⟩ := hB
    rw [ht] at hP1
    have hK1 := va_K.moved hvm.symm hK1
    obtain ⟨hP, hD⟩ := va_join (wr := [(h0, .inr (8, [.ref pr, .ref ma, .ref tm])), (pr, .inr (7, [.ref w, .ref d, .ref on, .ref op, .ref un, .int 0, .int 0]))]) (w1 := []) hP hD [] [0, 1] rfl rfl (by decide) (by decide) hk1 hFc hP1 hD1
    generalize H1 = H at hP hS ⊢
    have hP : va_P (dC, dI) vwCl [(h0, .inr (8, [.ref pr, .ref ma, .ref tm])), (pr, .inr (7, [.ref w, .ref d, .ref on, .ref op, .ref un, .int 0, .int 0]))] _ := hP
    have hD : va_D A [(h0, .inr (8, [.ref pr, .ref ma, .ref tm])), (pr, .inr (7, [.ref w, .ref d, .ref on, .ref op, .ref un, .int 0, .int 0]))] := hD
    refine W.widen (k := 1) (n := 6) (Nat.le_of_ble_eq_true rfl) (Nat.le_of_ble_eq_true rfl) ?_
    have hcc1 := hw
    refine lv_aload_n hx hb dX5_circuitAt_4 rfl (lv_at hl 0 rfl) ?_
    refine va_get (D := (dC, dI)) (ci := 8) (v := .ref pr) (C := RX5) (T := TX5) (N := 3) hx hb hts (fun w h => List.mem_cons_of_mem _ (List.mem_append_left _ (List.mem_append_left _ (List.mem_append_right _ (h))))) hown hK hP 0 rfl rfl 0 (by decide) (hts (.fieldLink RX5 10 "Netcompare" "pair" "LNetcompare$Pair;") (List.mem_cons_of_mem _ (List.mem_append_left _ (List.mem_append_left _ (List.mem_append_left _ (List.mem_of_getElem? (i := 0) rfl)))))) (fun _ h9 => h9) rfl dX5_circuitAt_5 ?_
    refine lv_iload_n hx hb dX5_circuitAt_8 rfl (lv_at hl 1 rfl) ?_
    have hPc := hP.sub (ws' := [(pr, .inr (7, [.ref w, .ref d, .ref on, .ref op, .ref un, .int 0, .int 0]))]) [1] rfl
    have hDc := hD.sub (ws' := [(pr, .inr (7, [.ref w, .ref d, .ref on, .ref op, .ref un, .int 0, .int 0]))]) [1] (by decide) rfl
    have hKc := hK.sub (tys' := []) [] rfl
    have hFc := va_free (wc := [(pr, .inr (7, [.ref w, .ref d, .ref on, .ref op, .ref un, .int 0, .int 0]))]) hD hS hA [1] rfl
    refine va_callq (va_runV (As := [.int p0]) (rest := []) ⟨hx, hb, hml, hown, hts⟩ (kX4_circuit l dC dI pr w d on op un p0 H.size) (cwV 1 hts gX5_circuitAt_X4_circuit rfl rfl rfl (by decide +kernel) ⟨Nat.le_of_ble_eq_true rfl, Nat.le_of_ble_eq_true rfl⟩) (fPreV hN hZ hS (fun q h => hFc q h) hPc hKc hDc (ci := 7) (q0 := 0) rfl rfl) rfl rfl hl.1 rfl (lv_room (Nat.le_of_ble_eq_true rfl)) dX5_circuitAt_9 ⟨Nat.le_of_ble_eq_true rfl, Nat.le_of_ble_eq_true rfl⟩) hS (fun q _ h => hFc q h) hFc (fun r u t H1 locs ht hvm hw hB hz1 hk1 hS => ?_)
    obtain ⟨hP1, hK1, hD1⟩ := hB
    rw [ht] at hP1
    have hK1 := va_K.moved hvm.symm hK1
    obtain ⟨hP, hD⟩ := va_join (wr := [(h0, .inr (8, [.ref pr, .ref ma, .ref tm]))]) (w1 := [(pr, .inr (7, [.ref w, .ref d, .ref on, .ref op, .ref un, .int 0, .int 0]))]) hP hD [1] [0] rfl rfl (by decide) (by decide) hk1 hFc hP1 hD1
    generalize H1 = H at hP hS ⊢
    have hP : va_P (dC, dI) vwCl [(h0, .inr (8, [.ref pr, .ref ma, .ref tm])), (pr, .inr (7, [.ref w, .ref d, .ref on, .ref op, .ref un, .int 0, .int 0]))] _ := hP
    have hD : va_D A [(h0, .inr (8, [.ref pr, .ref ma, .ref tm])), (pr, .inr (7, [.ref w, .ref d, .ref on, .ref op, .ref un, .int 0, .int 0]))] := hD
    rcases hw with ⟨hc2, rfl⟩ | ⟨hc3, rfl⟩
    · skip
      refine W.eq (g2 := F0 m 12 ls [.ref w]) rfl ?_
      exact ret (some w) () _ _ _ _ _ _ (Or.inl ⟨hc2, rfl⟩) (hP.sub [0, 1] rfl) (hK.sub [] rfl) (hD.sub [0, 1] (by decide) rfl) hS (Nat.le_of_ble_eq_true rfl) (Nat.le_of_ble_eq_true rfl) dX5_circuitAt_12
    · skip
      refine W.eq (g2 := F0 m 12 ls [.ref d]) rfl ?_
      exact ret (some d) () _ _ _ _ _ _ (Or.inr ⟨hcc1.resolve_left hc3, rfl⟩) (hP.sub [0, 1] rfl) (hK.sub [] rfl) (hD.sub [0, 1] (by decide) rfl) hS (Nat.le_of_ble_eq_true rfl) (Nat.le_of_ble_eq_true rfl) dX5_circuitAt_12

set_option maxHeartbeats 4000000 in
set_option maxRecDepth 100000 in
/-- forget: on a fresh object nothing changes -/
theorem kX5_forget (l : Launch) (dC : Nat → ClassId) (dI : Nat → Nat → Nat) (h0 pr ma tm : Nat) (w d on op un : Nat) (maI maO maP tmI tmO tmP : Nat) (sz : Nat) : fMv l yX5_forget wsX5_forget ({ frames := 0, cells := 0, slots := 0, locals := 0 } : Room) dC dI [.ref h0] [(h0, .inr (8, [.ref pr, .ref ma, .ref tm])), (pr, .inr (7, [.ref w, .ref d, .ref on, .ref op, .ref un, .int 0, .int 0])), (ma, .inr (5, [.ref pr, .ref maI, .ref maO, .ref maP, .int 0, .int 0])), (tm, .inr (5, [.ref pr, .ref tmI, .ref tmO, .ref tmP, .int 0, .int 0]))] [] sz (fun (u : Unit) => True) (fun u => [(h0, .inr (8, [.ref pr, .ref ma, .ref tm])), (pr, .inr (7, [.ref w, .ref d, .ref on, .ref op, .ref un, .int 0, .int 0])), (ma, .inr (5, [.ref pr, .ref maI, .ref maO, .ref maP, .int 0, .int 0])), (tm, .inr (5, [.ref pr, .ref tmI, .ref tmO, .ref tmP, .int 0, .int 0]))]) (fun u => []) := by
  refine oP_v (y := yX5_forget) (cc := cX5_forget) (maxL := 1) (by decide) rfl (Nat.le_of_ble_eq_true rfl) ?_
  intro p e s m args below meth c ls A Q hx hb hr hml hown hts hN hZ hA hin hlk hP hK hD hl ret
  have hS : va_S A s.heap s.heap [] := va_S.rf
  have hl : lv_has ls 1 [(0, .ref h0)] := hl
  have hP : va_P (dC, dI) vwCl [(h0, .inr (8, [.ref pr, .ref ma, .ref tm])), (pr, .inr (7, [.ref w, .ref d, .ref on, .ref op, .ref un, .int 0, .int 0])), (ma, .inr (5, [.ref pr, .ref maI, .ref maO, .ref maP, .int 0, .int 0])), (tm, .inr (5, [.ref pr, .ref tmI, .ref tmO, .ref tmP, .int 0, .int 0]))] _ := hP
  have hD : va_D A [(h0, .inr (8, [.ref pr, .ref ma, .ref tm])), (pr, .inr (7, [.ref w, .ref d, .ref on, .ref op, .ref un, .int 0, .int 0])), (ma, .inr (5, [.ref pr, .ref maI, .ref maO, .ref maP, .int 0, .int 0])), (tm, .inr (5, [.ref pr, .ref tmI, .ref tmO, .ref tmP, .int 0, .int 0]))] := hD
  refine lv_aload_n hx hb dX5_forget_0 rfl (lv_at hl 0 rfl) ?_
  refine va_get (D := (dC, dI)) (ci := 8) (v := .ref pr) (C := RX5) (T := TX5) (N := 3) hx hb hts (fun w h => List.mem_cons_of_mem _ (List.mem_append_left _ (List.mem_append_left _ (List.mem_append_right _ (h))))) hown hK hP 0 rfl rfl 0 (by decide) (hts (.fieldLink RX5 10 "Netcompare" "pair" "LNetcompare$Pair;") (List.mem_cons_of_mem _ (List.mem_append_left _ (List.mem_append_left _ (List.mem_append_left _ (List.mem_of_getElem? (i := 0) rfl)))))) (fun _ h9 => h9) rfl dX5_forget_1 ?_
  refine lv_iconst (v := 0) hx hb dX5_forget_4 (by decide) ?_
  refine va_putN (D := (dC, dI)) (ci := 7) (v := .int 0) (ty := .boolean) (C := RX4) (T := TX4) (N := 7) hx hb hts (fun w h => List.mem_cons_of_mem _ (List.mem_append_left _ (List.mem_append_right _ (h)))) tyX4 tyX4_ok nmX4 hown hK hP hD hS 1 rfl rfl 6 (by decide) (va_Nw.use rfl (hN.1 _ (List.mem_of_getElem? (i := 17) rfl))) (fun _ h9 => h9) rfl (by decide +kernel) rfl rfl (Nat.le_of_ble_eq_true rfl) dX5_forget_5 (fun H locs hP hD hS => ?_)
  have hP : va_P (dC, dI) vwCl [(h0, .inr (8, [.ref pr, .ref ma, .ref tm])), (pr, .inr (7, [.ref w, .ref d, .ref on, .ref op, .ref un, .int 0, .int 0])), (ma, .inr (5, [.ref pr, .ref maI, .ref maO, .ref maP, .int 0, .int 0])), (tm, .inr (5, [.ref pr, .ref tmI, .ref tmO, .ref tmP, .int 0, .int 0]))] _ := hP
  have hD : va_D A [(h0, .inr (8, [.ref pr, .ref ma, .ref tm])), (pr, .inr (7, [.ref w, .ref d, .ref on, .ref op, .ref un, .int 0, .int 0])), (ma, .inr (5, [.ref pr, .ref maI, .ref maO, .ref maP, .int 0, .int 0])), (tm, .inr (5, [.ref pr, .ref tmI, .ref tmO, .ref tmP, .int 0, .int 0]))] := hD
  refine lv_aload_n hx hb dX5_forget_8 rfl (lv_at hl 0 rfl) ?_
  refine va_get (D := (dC, dI)) (ci := 8) (v := .ref ma) (C := RX5) (T := TX5) (N := 3) hx hb hts (fun w h => List.mem_cons_of_mem _ (List.mem_append_left _ (List.mem_append_left _ (List.mem_append_right _ (h))))) hown hK hP 0 rfl rfl 1 (by decide) (hts (.fieldLink RX5 21 "Netcompare" "match" "LNetcompare$Match;") (List.mem_cons_of_mem _ (List.mem_append_left _ (List.mem_append_left _ (List.mem_append_left _ (List.mem_of_getElem? (i := 1) rfl)))))) (fun _ h9 => h9) rfl dX5_forget_9 ?_
  refine lv_iconst (v := 0) hx hb dX5_forget_12 (by decide) ?_
  refine va_putN (D := (dC, dI)) (ci := 5) (v := .int 0) (ty := .boolean) (C := RX2) (T := TX2) (N := 6) hx hb hts (fun w h => List.mem_cons_of_mem _ (List.mem_append_right _ (h))) tyX2 tyX2_ok nmX2 hown hK hP hD hS 2 rfl rfl 5 (by decide) (va_Nw.use rfl (hN.1 _ (List.mem_of_getElem? (i := 19) rfl))) (fun _ h9 => h9) rfl (by decide +kernel) rfl rfl (Nat.le_of_ble_eq_true rfl) dX5_forget_13 (fun H locs hP hD hS => ?_)
  have hP : va_P (dC, dI) vwCl [(h0, .inr (8, [.ref pr, .ref ma, .ref tm])), (pr, .inr (7, [.ref w, .ref d, .ref on, .ref op, .ref un, .int 0, .int 0])), (ma, .inr (5, [.ref pr, .ref maI, .ref maO, .ref maP, .int 0, .int 0])), (tm, .inr (5, [.ref pr, .ref tmI, .ref tmO, .ref tmP, .int 0, .int 0]))] _ := hP
  have hD : va_D A [(h0, .inr (8, [.ref pr, .ref ma, .ref tm])), (pr, .inr (7, [.ref w, .ref d, .ref on, .ref op, .ref un, .int 0, .int 0])), (ma, .inr (5, [.ref pr, .ref maI, .ref maO, .ref maP, .int 0, .int 0])), (tm, .inr (5, [.ref pr, .ref tmI, .ref tmO, .ref tmP, .int 0, .int 0]))] := hD
  refine lv_aload_n hx hb dX5_forget_16 rfl (lv_at hl 0 rfl) ?_
  refine va_get (D := (dC, dI)) (ci := 8) (v := .ref tm) (C := RX5) (T := TX5) (N := 3) hx hb hts (fun w h => List.mem_cons_of_mem _ (List.mem_append_left _ (List.mem_append_left _ (List.mem_append_right _ (h))))) hown hK hP 0 rfl rfl 2 (by decide) (hts (.fieldLink RX5 25 "Netcompare" "triedMatch" "LNetcompare$Match;") (List.mem_cons_of_mem _ (List.mem_append_left _ (List.mem_append_left _ (List.mem_append_left _ (List.mem_of_getElem? (i := 2) rfl)))))) (fun _ h9 => h9) rfl dX5_forget_17 ?_
  refine lv_iconst (v := 0) hx hb dX5_forget_20 (by decide) ?_
  refine va_putN (D := (dC, dI)) (ci := 5) (v := .int 0) (ty := .boolean) (C := RX2) (T := TX2) (N := 6) hx hb hts (fun w h => List.mem_cons_of_mem _ (List.mem_append_right _ (h))) tyX2 tyX2_ok nmX2 hown hK hP hD hS 3 rfl rfl 5 (by decide) (va_Nw.use rfl (hN.1 _ (List.mem_of_getElem? (i := 19) rfl))) (fun _ h9 => h9) rfl (by decide +kernel) rfl rfl (Nat.le_of_ble_eq_true rfl) dX5_forget_21 (fun H locs hP hD hS => ?_)
  have hP : va_P (dC, dI) vwCl [(h0, .inr (8, [.ref pr, .ref ma, .ref tm])), (pr, .inr (7, [.ref w, .ref d, .ref on, .ref op, .ref un, .int 0, .int 0])), (ma, .inr (5, [.ref pr, .ref maI, .ref maO, .ref maP, .int 0, .int 0])), (tm, .inr (5, [.ref pr, .ref tmI, .ref tmO, .ref tmP, .int 0, .int 0]))] _ := hP
  have hD : va_D A [(h0, .inr (8, [.ref pr, .ref ma, .ref tm])), (pr, .inr (7, [.ref w, .ref d, .ref on, .ref op, .ref un, .int 0, .int 0])), (ma, .inr (5, [.ref pr, .ref maI, .ref maO, .ref maP, .int 0, .int 0])), (tm, .inr (5, [.ref pr, .ref tmI, .ref tmO, .ref tmP, .int 0, .int 0]))] := hD
  exact ret () _ _ _ _ _ _ (trivial) (hP.sub [0, 1, 2, 3] rfl) (hK.sub [] rfl) (hD.sub [0, 1, 2, 3] (by decide) rfl) hS (Nat.le_of_ble_eq_true rfl) (Nat.le_of_ble_eq_true rfl) dX5_forget_24

set_option maxHeartbeats 4000000 in
set_option maxRecDepth 100000 in
/-- hasNet of an empty circuit -/
theorem kX0_hasNet (l : Launch) (dC : Nat → ClassId) (dI : Nat → Nat → Nat) (a aL aK aV aN aS aB : Nat) (p0 : Int32) (sz : Nat) : fMi l yX0_hasNet wsX0_hasNet ({ frames := 0, cells := 0, slots := 0, locals := 0 } : Room) dC dI [.ref a, .int p0] [(a, .inr (3, [.int 0, .int 0, .ref aL, .ref aK, .ref aV, .ref aN, .ref aS, .ref aB, .int 0]))] [] sz (fun (r : Int32) (u : Unit) => r = 0) (fun u => [(a, .inr (3, [.int 0, .int 0, .ref aL, .ref aK, .ref aV, .ref aN, .ref aS, .ref aB, .int 0]))]) (fun u => []) := by
  refine oP_z (y := yX0_hasNet) (cc := cX0_hasNet) (maxL := 2) (by decide) rfl (Nat.le_of_ble_eq_true rfl) ?_
  intro p e s m args below meth c ls A Q hx hb hr hml hown hts hN hZ hA hin hlk hP hK hD hl ret
  have hS : va_S A s.heap s.heap [] := va_S.rf
  have hl : lv_has ls 2 [(0, .ref a), (1, .int p0)] := hl
  have hP : va_P (dC, dI) vwCl [(a, .inr (3, [.int 0, .int 0, .ref aL, .ref aK, .ref aV, .ref aN, .ref aS, .ref aB, .int 0]))] _ := hP
  have hD : va_D A [(a, .inr (3, [.int 0, .int 0, .ref aL, .ref aK, .ref aV, .ref aN, .ref aS, .ref aB, .int 0]))] := hD
  refine lv_iload_n hx hb dX0_hasNet_0 rfl (lv_at hl 1 rfl) ?_
  refine lv_if_lt (tgt := 16) hx hb dX0_hasNet_1 (by decide) (fun h1 => ?_) (fun h1 => ?_)
  · skip
    refine lv_iconst (v := 0) hx hb dX0_hasNet_16 (by decide) ?_
    exact ret _ () _ _ _ _ _ _ (rfl) (rfl) (hP.sub [0] rfl) (hK.sub [] rfl) (hD.sub [0] (by decide) rfl) hS (Nat.le_of_ble_eq_true rfl) (Nat.le_of_ble_eq_true rfl) dX0_hasNet_17
  · skip
    refine lv_iload_n hx hb dX0_hasNet_4 rfl (lv_at hl 1 rfl) ?_
    refine lv_aload_n hx hb dX0_hasNet_5 rfl (lv_at hl 0 rfl) ?_
    refine va_get (D := (dC, dI)) (ci := 3) (v := .int 0) (C := RX0) (T := TX0) (N := 9) hx hb hts (fun w h => List.mem_cons_of_mem _ (List.mem_append_right _ (h))) hown hK hP 0 rfl rfl 0 (by decide) (hts (.fieldLink RX0 33 "Netcompare$Circuit" "netCount" "I") (List.mem_cons_of_mem _ (List.mem_append_left _ (List.mem_of_getElem? (i := 0) rfl)))) (fun _ h9 => h9) rfl dX0_hasNet_6 ?_
    refine lv_icmp_ge (tgt := 16) hx hb dX0_hasNet_9 (by decide) (fun _ => ?_) (fun h9 => absurd (Int32.not_lt.mp h1) h9)
    refine lv_iconst (v := 0) hx hb dX0_hasNet_16 (by decide) ?_
    exact ret _ () _ _ _ _ _ _ (rfl) (rfl) (hP.sub [0] rfl) (hK.sub [] rfl) (hD.sub [0] (by decide) rfl) hS (Nat.le_of_ble_eq_true rfl) (Nat.le_of_ble_eq_true rfl) dX0_hasNet_17

set_option maxHeartbeats 4000000 in
set_option maxRecDepth 100000 in
/-- letterAt of an empty circuit -/
theorem kX0_letterAt (l : Launch) (dC : Nat → ClassId) (dI : Nat → Nat → Nat) (a aL aK aV aN aS aB : Nat) (p0 : Int32) (sz : Nat) : fMi l yX0_letterAt wsX0_letterAt ({ frames := 0, cells := 0, slots := 0, locals := 0 } : Room) dC dI [.ref a, .int p0] [(a, .inr (3, [.int 0, .int 0, .ref aL, .ref aK, .ref aV, .ref aN, .ref aS, .ref aB, .int 0]))] [] sz (fun (r : Int32) (u : Unit) => r = 45) (fun u => [(a, .inr (3, [.int 0, .int 0, .ref aL, .ref aK, .ref aV, .ref aN, .ref aS, .ref aB, .int 0]))]) (fun u => []) := by
  refine oP_z (y := yX0_letterAt) (cc := cX0_letterAt) (maxL := 2) (by decide) rfl (Nat.le_of_ble_eq_true rfl) ?_
  intro p e s m args below meth c ls A Q hx hb hr hml hown hts hN hZ hA hin hlk hP hK hD hl ret
  have hS : va_S A s.heap s.heap [] := va_S.rf
  have hl : lv_has ls 2 [(0, .ref a), (1, .int p0)] := hl
  have hP : va_P (dC, dI) vwCl [(a, .inr (3, [.int 0, .int 0, .ref aL, .ref aK, .ref aV, .ref aN, .ref aS, .ref aB, .int 0]))] _ := hP
  have hD : va_D A [(a, .inr (3, [.int 0, .int 0, .ref aL, .ref aK, .ref aV, .ref aN, .ref aS, .ref aB, .int 0]))] := hD
  refine lv_iload_n hx hb dX0_letterAt_0 rfl (lv_at hl 1 rfl) ?_
  refine lv_if_lt (tgt := 27) hx hb dX0_letterAt_1 (by decide) (fun h1 => ?_) (fun h1 => ?_)
  · skip
    refine lv_bipush (v := 45) hx hb dX0_letterAt_27 (by decide) ?_
    exact ret _ () _ _ _ _ _ _ (rfl) (rfl) (hP.sub [0] rfl) (hK.sub [] rfl) (hD.sub [0] (by decide) rfl) hS (Nat.le_of_ble_eq_true rfl) (Nat.le_of_ble_eq_true rfl) dX0_letterAt_29
  · skip
    refine lv_iload_n hx hb dX0_letterAt_4 rfl (lv_at hl 1 rfl) ?_
    refine lv_bipush (v := 10) hx hb dX0_letterAt_5 (by decide) ?_
    refine lv_icmp_ge (tgt := 27) hx hb dX0_letterAt_7 (by decide) (fun h2 => ?_) (fun h2 => ?_)
    · skip
      refine lv_bipush (v := 45) hx hb dX0_letterAt_27 (by decide) ?_
      exact ret _ () _ _ _ _ _ _ (rfl) (rfl) (hP.sub [0] rfl) (hK.sub [] rfl) (hD.sub [0] (by decide) rfl) hS (Nat.le_of_ble_eq_true rfl) (Nat.le_of_ble_eq_true rfl) dX0_letterAt_29
    · skip
      refine lv_iload_n hx hb dX0_letterAt_10 rfl (lv_at hl 1 rfl) ?_
      refine lv_aload_n hx hb dX0_letterAt_11 rfl (lv_at hl 0 rfl) ?_
      refine va_get (D := (dC, dI)) (ci := 3) (v := .int 0) (C := RX0) (T := TX0) (N := 9) hx hb hts (fun w h => List.mem_cons_of_mem _ (List.mem_append_left _ (List.mem_append_right _ (h)))) hown hK hP 0 rfl rfl 0 (by decide) (hts (.fieldLink RX0 33 "Netcompare$Circuit" "netCount" "I") (List.mem_cons_of_mem _ (List.mem_append_left _ (List.mem_append_left _ (List.mem_of_getElem? (i := 0) rfl))))) (fun _ h9 => h9) rfl dX0_letterAt_12 ?_
      refine lv_icmp_ge (tgt := 27) hx hb dX0_letterAt_15 (by decide) (fun _ => ?_) (fun h9 => absurd (Int32.not_lt.mp h1) h9)
      refine lv_bipush (v := 45) hx hb dX0_letterAt_27 (by decide) ?_
      exact ret _ () _ _ _ _ _ _ (rfl) (rfl) (hP.sub [0] rfl) (hK.sub [] rfl) (hD.sub [0] (by decide) rfl) hS (Nat.le_of_ble_eq_true rfl) (Nat.le_of_ble_eq_true rfl) dX0_letterAt_29

set_option maxHeartbeats 4000000 in
set_option maxRecDepth 100000 in
/-- valueAt of an empty circuit -/
theorem kX0_valueAt (l : Launch) (dC : Nat → ClassId) (dI : Nat → Nat → Nat) (a aL aK aV aN aS aB : Nat) (cI : ClassId) (p0 : Int32) (sz : Nat) : fMi l yX0_valueAt wsX0_valueAt ({ frames := 0, cells := 0, slots := 0, locals := 0 } : Room) dC dI [.ref a, .int p0] [(a, .inr (3, [.int 0, .int 0, .ref aL, .ref aK, .ref aV, .ref aN, .ref aS, .ref aB, .int 0])), (aV, .inl (cI, 10, .inl (fun _ => 0)))] [(cI, .int)] sz (fun (r : Int32) (u : Unit) => r = 0) (fun u => [(a, .inr (3, [.int 0, .int 0, .ref aL, .ref aK, .ref aV, .ref aN, .ref aS, .ref aB, .int 0])), (aV, .inl (cI, 10, .inl (fun _ => 0)))]) (fun u => [(cI, .int)]) := by
  refine oP_i (y := yX0_valueAt) (cc := cX0_valueAt) (maxL := 2) (by decide) rfl (Nat.le_of_ble_eq_true rfl) ?_
  intro p e s m args below meth c ls A Q hx hb hr hml hown hts hN hZ hA hin hlk hP hK hD hl ret
  have hS : va_S A s.heap s.heap [] := va_S.rf
  have hl : lv_has ls 2 [(0, .ref a), (1, .int p0)] := hl
  have hP : va_P (dC, dI) vwCl [(a, .inr (3, [.int 0, .int 0, .ref aL, .ref aK, .ref aV, .ref aN, .ref aS, .ref aB, .int 0])), (aV, .inl (cI, 10, .inl (fun _ => 0)))] _ := hP
  have hD : va_D A [(a, .inr (3, [.int 0, .int 0, .ref aL, .ref aK, .ref aV, .ref aN, .ref aS, .ref aB, .int 0])), (aV, .inl (cI, 10, .inl (fun _ => 0)))] := hD
  refine lv_iload_n hx hb dX0_valueAt_0 rfl (lv_at hl 1 rfl) ?_
  refine lv_if_lt (tgt := 19) hx hb dX0_valueAt_1 (by decide) (fun h1 => ?_) (fun h1 => ?_)
  · skip
    refine lv_iconst (v := 0) hx hb dX0_valueAt_19 (by decide) ?_
    exact ret _ () _ _ _ _ _ _ (rfl) (hP.sub [0, 1] rfl) (hK.sub [0] rfl) (hD.sub [0, 1] (by decide) rfl) hS (Nat.le_of_ble_eq_true rfl) (Nat.le_of_ble_eq_true rfl) dX0_valueAt_20
  · skip
    refine lv_iload_n hx hb dX0_valueAt_4 rfl (lv_at hl 1 rfl) ?_
    refine lv_bipush (v := 10) hx hb dX0_valueAt_5 (by decide) ?_
    refine lv_icmp_ge (tgt := 19) hx hb dX0_valueAt_7 (by decide) (fun h2 => ?_) (fun h2 => ?_)
    · skip
      refine lv_iconst (v := 0) hx hb dX0_valueAt_19 (by decide) ?_
      exact ret _ () _ _ _ _ _ _ (rfl) (hP.sub [0, 1] rfl) (hK.sub [0] rfl) (hD.sub [0, 1] (by decide) rfl) hS (Nat.le_of_ble_eq_true rfl) (Nat.le_of_ble_eq_true rfl) dX0_valueAt_20
    · skip
      refine lv_aload_n hx hb dX0_valueAt_10 rfl (lv_at hl 0 rfl) ?_
      refine va_get (D := (dC, dI)) (ci := 3) (v := .ref aV) (C := RX0) (T := TX0) (N := 9) hx hb hts (fun w h => List.mem_cons_of_mem _ (List.mem_append_left _ (List.mem_append_right _ (h)))) hown hK hP 0 rfl rfl 4 (by decide) (hts (.fieldLink RX0 18 "Netcompare$Circuit" "value" "[I") (List.mem_cons_of_mem _ (List.mem_append_left _ (List.mem_append_left _ (List.mem_of_getElem? (i := 0) rfl))))) (fun _ h9 => h9) rfl dX0_valueAt_11 ?_
      refine lv_iload_n hx hb dX0_valueAt_14 rfl (lv_at hl 1 rfl) ?_
      refine va_iald hx hb hK hP 1 0 rfl rfl (fIx 10 (h1) (h2)) dX0_valueAt_15 ?_
      refine W.eq (g2 := F0 m 16 ls [.int 0]) rfl ?_
      refine lv_goto (tgt := 20) hx hb dX0_valueAt_16 (by decide) ?_
      exact ret _ () _ _ _ _ _ _ (rfl) (hP.sub [0, 1] rfl) (hK.sub [0] rfl) (hD.sub [0, 1] (by decide) rfl) hS (Nat.le_of_ble_eq_true rfl) (Nat.le_of_ble_eq_true rfl) dX0_valueAt_20

set_option maxHeartbeats 4000000 in
set_option maxRecDepth 100000 in
/-- hasPart of an empty circuit -/
theorem kX0_hasPart (l : Launch) (dC : Nat → ClassId) (dI : Nat → Nat → Nat) (a aL aK aV aN aS aB : Nat) (cI : ClassId) (p0 : Int32) (sz : Nat) : fMi l yX0_hasPart wsX0_hasPart ({ frames := 1, cells := 0, slots := 0, locals := 21 } : Room) dC dI [.ref a, .int p0] [(a, .inr (3, [.int 0, .int 0, .ref aL, .ref aK, .ref aV, .ref aN, .ref aS, .ref aB, .int 0])), (aV, .inl (cI, 10, .inl (fun _ => 0)))] [(cI, .int)] sz (fun (r : Int32) (u : Unit) => r = 0) (fun u => [(a, .inr (3, [.int 0, .int 0, .ref aL, .ref aK, .ref aV, .ref aN, .ref aS, .ref aB, .int 0])), (aV, .inl (cI, 10, .inl (fun _ => 0)))]) (fun u => [(cI, .int)]) := by
  refine oP_z (y := yX0_hasPart) (cc := cX0_hasPart) (maxL := 2) (by decide) rfl (Nat.le_of_ble_eq_true rfl) ?_
  intro p e s m args below meth c ls A Q hx hb hr hml hown hts hN hZ hA hin hlk hP hK hD hl ret
  have hS : va_S A s.heap s.heap [] := va_S.rf
  have hl : lv_has ls 2 [(0, .ref a), (1, .int p0)] := hl
  have hP : va_P (dC, dI) vwCl [(a, .inr (3, [.int 0, .int 0, .ref aL, .ref aK, .ref aV, .ref aN, .ref aS, .ref aB, .int 0])), (aV, .inl (cI, 10, .inl (fun _ => 0)))] _ := hP
  have hD : va_D A [(a, .inr (3, [.int 0, .int 0, .ref aL, .ref aK, .ref aV, .ref aN, .ref aS, .ref aB, .int 0])), (aV, .inl (cI, 10, .inl (fun _ => 0)))] := hD
  refine lv_aload_n hx hb dX0_hasPart_0 rfl (lv_at hl 0 rfl) ?_
  refine lv_iload_n hx hb dX0_hasPart_1 rfl (lv_at hl 1 rfl) ?_
  have hPc := hP.sub (ws' := [(a, .inr (3, [.int 0, .int 0, .ref aL, .ref aK, .ref aV, .ref aN, .ref aS, .ref aB, .int 0])), (aV, .inl (cI, 10, .inl (fun _ => 0)))]) [0, 1] rfl
  have hDc := hD.sub (ws' := [(a, .inr (3, [.int 0, .int 0, .ref aL, .ref aK, .ref aV, .ref aN, .ref aS, .ref aB, .int 0])), (aV, .inl (cI, 10, .inl (fun _ => 0)))]) [0, 1] (by decide) rfl
  have hKc := hK.sub (tys' := [(cI, .int)]) [0] rfl
  have hFc := va_free (wc := [(a, .inr (3, [.int 0, .int 0, .ref aL, .ref aK, .ref aV, .ref aN, .ref aS, .ref aB, .int 0])), (aV, .inl (cI, 10, .inl (fun _ => 0)))]) hD hS hA [0, 1] rfl
  refine va_calli (va_runV (As := [.int p0]) (rest := []) ⟨hx, hb, hml, hown, hts⟩ (kX0_valueAt l dC dI a aL aK aV aN aS aB cI p0 s.heap.size) (cwV 1 hts gX0_hasPart_X0_valueAt rfl rfl rfl (by decide +kernel) ⟨Nat.le_of_ble_eq_true rfl, Nat.le_of_ble_eq_true rfl⟩) (fPreV hN hZ hS (fun q h => hFc q h) hPc hKc hDc (ci := 3) (q0 := 0) rfl rfl) rfl rfl hl.1 rfl (lv_room (Nat.le_of_ble_eq_true rfl)) dX0_hasPart_2 ⟨Nat.le_of_ble_eq_true rfl, Nat.le_of_ble_eq_true rfl⟩) hS (fun q _ h => hFc q h) hFc (fun r u t H1 locs ht hvm hw hB hz1 hk1 hS => ?_)
  obtain ⟨hP1, hK1, hD1⟩ := hB
  rw [ht] at hP1
  have hK1 := va_K.moved hvm.symm hK1
  obtain ⟨hP, hD⟩ := va_join (wr := []) (w1 := [(a, .inr (3, [.int 0, .int 0, .ref aL, .ref aK, .ref aV, .ref aN, .ref aS, .ref aB, .int 0])), (aV, .inl (cI, 10, .inl (fun _ => 0)))]) hP hD [0, 1] [] rfl rfl (by decide) (by decide) hk1 hFc hP1 hD1
  generalize H1 = H at hP hS ⊢
  have hP : va_P (dC, dI) vwCl [(a, .inr (3, [.int 0, .int 0, .ref aL, .ref aK, .ref aV, .ref aN, .ref aS, .ref aB, .int 0])), (aV, .inl (cI, 10, .inl (fun _ => 0)))] _ := hP
  have hD : va_D A [(a, .inr (3, [.int 0, .int 0, .ref aL, .ref aK, .ref aV, .ref aN, .ref aS, .ref aB, .int 0])), (aV, .inl (cI, 10, .inl (fun _ => 0)))] := hD
  subst hw
  refine lv_if_le (tgt := 12) hx hb dX0_hasPart_5 (by decide) (fun _ => ?_) (fun h9 => absurd (by decide) h9)
  refine lv_iconst (v := 0) hx hb dX0_hasPart_12 (by decide) ?_
  exact ret _ () _ _ _ _ _ _ (rfl) (rfl) (hP.sub [0, 1] rfl) (hK.sub [0] rfl) (hD.sub [0, 1] (by decide) rfl) hS (Nat.le_of_ble_eq_true rfl) (Nat.le_of_ble_eq_true rfl) dX0_hasPart_13

set_option maxHeartbeats 4000000 in
set_option maxRecDepth 100000 in
/-- kindAt of an empty circuit -/
theorem kX0_kindAt (l : Launch) (dC : Nat → ClassId) (dI : Nat → Nat → Nat) (a aL aK aV aN aS aB : Nat) (cI : ClassId) (p0 : Int32) (sz : Nat) : fMi l yX0_kindAt wsX0_kindAt ({ frames := 0, cells := 0, slots := 0, locals := 0 } : Room) dC dI [.ref a, .int p0] [(a, .inr (3, [.int 0, .int 0, .ref aL, .ref aK, .ref aV, .ref aN, .ref aS, .ref aB, .int 0])), (aV, .inl (cI, 10, .inl (fun _ => 0)))] [(cI, .int)] sz (fun (r : Int32) (u : Unit) => r = 45) (fun u => [(a, .inr (3, [.int 0, .int 0, .ref aL, .ref aK, .ref aV, .ref aN, .ref aS, .ref aB, .int 0])), (aV, .inl (cI, 10, .inl (fun _ => 0)))]) (fun u => [(cI, .int)]) := by
  refine oP_z (y := yX0_kindAt) (cc := cX0_kindAt) (maxL := 2) (by decide) rfl (Nat.le_of_ble_eq_true rfl) ?_
  intro p e s m args below meth c ls A Q hx hb hr hml hown hts hN hZ hA hin hlk hP hK hD hl ret
  have hS : va_S A s.heap s.heap [] := va_S.rf
  have hl : lv_has ls 2 [(0, .ref a), (1, .int p0)] := hl
  have hP : va_P (dC, dI) vwCl [(a, .inr (3, [.int 0, .int 0, .ref aL, .ref aK, .ref aV, .ref aN, .ref aS, .ref aB, .int 0])), (aV, .inl (cI, 10, .inl (fun _ => 0)))] _ := hP
  have hD : va_D A [(a, .inr (3, [.int 0, .int 0, .ref aL, .ref aK, .ref aV, .ref aN, .ref aS, .ref aB, .int 0])), (aV, .inl (cI, 10, .inl (fun _ => 0)))] := hD
  refine lv_iload_n hx hb dX0_kindAt_0 rfl (lv_at hl 1 rfl) ?_
  refine lv_if_lt (tgt := 28) hx hb dX0_kindAt_1 (by decide) (fun h1 => ?_) (fun h1 => ?_)
  · skip
    refine lv_bipush (v := 45) hx hb dX0_kindAt_28 (by decide) ?_
    exact ret _ () _ _ _ _ _ _ (rfl) (rfl) (hP.sub [0, 1] rfl) (hK.sub [0] rfl) (hD.sub [0, 1] (by decide) rfl) hS (Nat.le_of_ble_eq_true rfl) (Nat.le_of_ble_eq_true rfl) dX0_kindAt_30
  · skip
    refine lv_iload_n hx hb dX0_kindAt_4 rfl (lv_at hl 1 rfl) ?_
    refine lv_bipush (v := 10) hx hb dX0_kindAt_5 (by decide) ?_
    refine lv_icmp_ge (tgt := 28) hx hb dX0_kindAt_7 (by decide) (fun h2 => ?_) (fun h2 => ?_)
    · skip
      refine lv_bipush (v := 45) hx hb dX0_kindAt_28 (by decide) ?_
      exact ret _ () _ _ _ _ _ _ (rfl) (rfl) (hP.sub [0, 1] rfl) (hK.sub [0] rfl) (hD.sub [0, 1] (by decide) rfl) hS (Nat.le_of_ble_eq_true rfl) (Nat.le_of_ble_eq_true rfl) dX0_kindAt_30
    · skip
      refine lv_aload_n hx hb dX0_kindAt_10 rfl (lv_at hl 0 rfl) ?_
      refine va_get (D := (dC, dI)) (ci := 3) (v := .ref aV) (C := RX0) (T := TX0) (N := 9) hx hb hts (fun w h => List.mem_cons_of_mem _ (List.mem_append_left _ (List.mem_append_right _ (h)))) hown hK hP 0 rfl rfl 4 (by decide) (hts (.fieldLink RX0 18 "Netcompare$Circuit" "value" "[I") (List.mem_cons_of_mem _ (List.mem_append_left _ (List.mem_append_left _ (List.mem_of_getElem? (i := 0) rfl))))) (fun _ h9 => h9) rfl dX0_kindAt_11 ?_
      refine lv_iload_n hx hb dX0_kindAt_14 rfl (lv_at hl 1 rfl) ?_
      refine va_iald hx hb hK hP 1 0 rfl rfl (fIx 10 (h1) (h2)) dX0_kindAt_15 ?_
      refine W.eq (g2 := F0 m 16 ls [.int 0]) rfl ?_
      refine lv_if_le (tgt := 28) hx hb dX0_kindAt_16 (by decide) (fun _ => ?_) (fun h9 => absurd (by decide) h9)
      refine lv_bipush (v := 45) hx hb dX0_kindAt_28 (by decide) ?_
      exact ret _ () _ _ _ _ _ _ (rfl) (rfl) (hP.sub [0, 1] rfl) (hK.sub [0] rfl) (hD.sub [0, 1] (by decide) rfl) hS (Nat.le_of_ble_eq_true rfl) (Nat.le_of_ble_eq_true rfl) dX0_kindAt_30

set_option maxHeartbeats 4000000 in
set_option maxRecDepth 100000 in
/-- stepsAt of an empty circuit -/
theorem kX0_stepsAtN (l : Launch) (dC : Nat → ClassId) (dI : Nat → Nat → Nat) (a aL aK aV aN aS aB : Nat) (sz : Nat) : fMi l yX0_stepsAt wsX0_stepsAt ({ frames := 0, cells := 0, slots := 0, locals := 0 } : Room) dC dI [.ref a, .int (-1)] [(a, .inr (3, [.int 0, .int 0, .ref aL, .ref aK, .ref aV, .ref aN, .ref aS, .ref aB, .int 0]))] [] sz (fun (r : Int32) (u : Unit) => r = 99) (fun u => [(a, .inr (3, [.int 0, .int 0, .ref aL, .ref aK, .ref aV, .ref aN, .ref aS, .ref aB, .int 0]))]) (fun u => []) := by
  refine oP_i (y := yX0_stepsAt) (cc := cX0_stepsAt) (maxL := 2) (by decide) rfl (Nat.le_of_ble_eq_true rfl) ?_
  intro p e s m args below meth c ls A Q hx hb hr hml hown hts hN hZ hA hin hlk hP hK hD hl ret
  have hS : va_S A s.heap s.heap [] := va_S.rf
  have hl : lv_has ls 2 [(0, .ref a), (1, .int (-1))] := hl
  have hP : va_P (dC, dI) vwCl [(a, .inr (3, [.int 0, .int 0, .ref aL, .ref aK, .ref aV, .ref aN, .ref aS, .ref aB, .int 0]))] _ := hP
  have hD : va_D A [(a, .inr (3, [.int 0, .int 0, .ref aL, .ref aK, .ref aV, .ref aN, .ref aS, .ref aB, .int 0]))] := hD
  refine lv_iload_n hx hb dX0_stepsAt_0 rfl (lv_at hl 1 rfl) ?_
  refine lv_if_lt (tgt := 19) hx hb dX0_stepsAt_1 (by decide) (fun _ => ?_) (fun h9 => absurd (by decide) h9)
  refine lv_bipush (v := 99) hx hb dX0_stepsAt_19 (by decide) ?_
  exact ret _ () _ _ _ _ _ _ (rfl) (hP.sub [0] rfl) (hK.sub [] rfl) (hD.sub [0] (by decide) rfl) hS (Nat.le_of_ble_eq_true rfl) (Nat.le_of_ble_eq_true rfl) dX0_stepsAt_21

set_option maxHeartbeats 4000000 in
set_option maxRecDepth 100000 in
/-- netAt of an empty circuit: no pin is there -/
theorem kX0_netAt (l : Launch) (dC : Nat → ClassId) (dI : Nat → Nat → Nat) (a aL aK aV aN aS aB : Nat) (a0 a1 a2 a3 a4 a5 a6 a7 a8 a9 : Nat) (cI cN : ClassId) (p0 p1 : Int32) (sz : Nat) : fMi l yX0_netAt wsX0_netAt ({ frames := 0, cells := 0, slots := 0, locals := 0 } : Room) dC dI [.ref a, .int p0, .int p1] [(a, .inr (3, [.int 0, .int 0, .ref aL, .ref aK, .ref aV, .ref aN, .ref aS, .ref aB, .int 0])), (aN, .inl (cN, 10, .inr (.inr (.inr (.inr (fch a0 a1 a2 a3 a4 a5 a6 a7 a8 a9)))))), (a0, .inl (cI, 3, .inl fM3)), (a1, .inl (cI, 3, .inl fM3)), (a2, .inl (cI, 3, .inl fM3)), (a3, .inl (cI, 3, .inl fM3)), (a4, .inl (cI, 3, .inl fM3)), (a5, .inl (cI, 3, .inl fM3)), (a6, .inl (cI, 3, .inl fM3)), (a7, .inl (cI, 3, .inl fM3)), (a8, .inl (cI, 3, .inl fM3)), (a9, .inl (cI, 3, .inl fM3))] [(cN, .array .int), (cI, .int)] sz (fun (r : Int32) (u : Unit) => r = (-1)) (fun u => [(a, .inr (3, [.int 0, .int 0, .ref aL, .ref aK, .ref aV, .ref aN, .ref aS, .ref aB, .int 0])), (aN, .inl (cN, 10, .inr (.inr (.inr (.inr (fch a0 a1 a2 a3 a4 a5 a6 a7 a8 a9)))))), (a0, .inl (cI, 3, .inl fM3)), (a1, .inl (cI, 3, .inl fM3)), (a2, .inl (cI, 3, .inl fM3)), (a3, .inl (cI, 3, .inl fM3)), (a4, .inl (cI, 3, .inl fM3)), (a5, .inl (cI, 3, .inl fM3)), (a6, .inl (cI, 3, .inl fM3)), (a7, .inl (cI, 3, .inl fM3)), (a8, .inl (cI, 3, .inl fM3)), (a9, .inl (cI, 3, .inl fM3))]) (fun u => [(cN, .array .int), (cI, .int)]) := by
  refine oP_i (y := yX0_netAt) (cc := cX0_netAt) (maxL := 3) (by decide) rfl (Nat.le_of_ble_eq_true rfl) ?_
  intro p e s m args below meth c ls A Q hx hb hr hml hown hts hN hZ hA hin hlk hP hK hD hl ret
  have hS : va_S A s.heap s.heap [] := va_S.rf
  have hl : lv_has ls 3 [(0, .ref a), (1, .int p0), (2, .int p1)] := hl
  have hP : va_P (dC, dI) vwCl [(a, .inr (3, [.int 0, .int 0, .ref aL, .ref aK, .ref aV, .ref aN, .ref aS, .ref aB, .int 0])), (aN, .inl (cN, 10, .inr (.inr (.inr (.inr (fch a0 a1 a2 a3 a4 a5 a6 a7 a8 a9)))))), (a0, .inl (cI, 3, .inl fM3)), (a1, .inl (cI, 3, .inl fM3)), (a2, .inl (cI, 3, .inl fM3)), (a3, .inl (cI, 3, .inl fM3)), (a4, .inl (cI, 3, .inl fM3)), (a5, .inl (cI, 3, .inl fM3)), (a6, .inl (cI, 3, .inl fM3)), (a7, .inl (cI, 3, .inl fM3)), (a8, .inl (cI, 3, .inl fM3)), (a9, .inl (cI, 3, .inl fM3))] _ := hP
  have hD : va_D A [(a, .inr (3, [.int 0, .int 0, .ref aL, .ref aK, .ref aV, .ref aN, .ref aS, .ref aB, .int 0])), (aN, .inl (cN, 10, .inr (.inr (.inr (.inr (fch a0 a1 a2 a3 a4 a5 a6 a7 a8 a9)))))), (a0, .inl (cI, 3, .inl fM3)), (a1, .inl (cI, 3, .inl fM3)), (a2, .inl (cI, 3, .inl fM3)), (a3, .inl (cI, 3, .inl fM3)), (a4, .inl (cI, 3, .inl fM3)), (a5, .inl (cI, 3, .inl fM3)), (a6, .inl (cI, 3, .inl fM3)), (a7, .inl (cI, 3, .inl fM3)), (a8, .inl (cI, 3, .inl fM3)), (a9, .inl (cI, 3, .inl fM3))] := hD
  refine lv_iload_n hx hb dX0_netAt_0 rfl (lv_at hl 1 rfl) ?_
  refine lv_if_lt (tgt := 30) hx hb dX0_netAt_1 (by decide) (fun h1 => ?_) (fun h1 => ?_)
  · skip
    refine lv_iconst (v := (-1)) hx hb dX0_netAt_30 (by decide) ?_
    exact ret _ () _ _ _ _ _ _ (rfl) (hP.sub [0, 1, 2, 3, 4, 5, 6, 7, 8, 9, 10, 11] rfl) (hK.sub [0, 1] rfl) (hD.sub [0, 1, 2, 3, 4, 5, 6, 7, 8, 9, 10, 11] (by decide) rfl) hS (Nat.le_of_ble_eq_true rfl) (Nat.le_of_ble_eq_true rfl) dX0_netAt_31
  · skip
    refine lv_iload_n hx hb dX0_netAt_4 rfl (lv_at hl 1 rfl) ?_
    refine lv_bipush (v := 10) hx hb dX0_netAt_5 (by decide) ?_
    refine lv_icmp_ge (tgt := 30) hx hb dX0_netAt_7 (by decide) (fun h2 => ?_) (fun h2 => ?_)
    · skip
      refine lv_iconst (v := (-1)) hx hb dX0_netAt_30 (by decide) ?_
      exact ret _ () _ _ _ _ _ _ (rfl) (hP.sub [0, 1, 2, 3, 4, 5, 6, 7, 8, 9, 10, 11] rfl) (hK.sub [0, 1] rfl) (hD.sub [0, 1, 2, 3, 4, 5, 6, 7, 8, 9, 10, 11] (by decide) rfl) hS (Nat.le_of_ble_eq_true rfl) (Nat.le_of_ble_eq_true rfl) dX0_netAt_31
    · skip
      refine lv_iload_n hx hb dX0_netAt_10 rfl (lv_at hl 2 rfl) ?_
      refine lv_if_lt (tgt := 30) hx hb dX0_netAt_11 (by decide) (fun h3 => ?_) (fun h3 => ?_)
      · skip
        refine lv_iconst (v := (-1)) hx hb dX0_netAt_30 (by decide) ?_
        exact ret _ () _ _ _ _ _ _ (rfl) (hP.sub [0, 1, 2, 3, 4, 5, 6, 7, 8, 9, 10, 11] rfl) (hK.sub [0, 1] rfl) (hD.sub [0, 1, 2, 3, 4, 5, 6, 7, 8, 9, 10, 11] (by decide) rfl) hS (Nat.le_of_ble_eq_true rfl) (Nat.le_of_ble_eq_true rfl) dX0_netAt_31
      · skip
        refine lv_iload_n hx hb dX0_netAt_14 rfl (lv_at hl 2 rfl) ?_
        refine lv_iconst (v := 3) hx hb dX0_netAt_15 (by decide) ?_
        refine lv_icmp_ge (tgt := 30) hx hb dX0_netAt_16 (by decide) (fun h4 => ?_) (fun h4 => ?_)
        · skip
          refine lv_iconst (v := (-1)) hx hb dX0_netAt_30 (by decide) ?_
          exact ret _ () _ _ _ _ _ _ (rfl) (hP.sub [0, 1, 2, 3, 4, 5, 6, 7, 8, 9, 10, 11] rfl) (hK.sub [0, 1] rfl) (hD.sub [0, 1, 2, 3, 4, 5, 6, 7, 8, 9, 10, 11] (by decide) rfl) hS (Nat.le_of_ble_eq_true rfl) (Nat.le_of_ble_eq_true rfl) dX0_netAt_31
        · skip
          rcases f10 (h1) (h2) with rfl | rfl | rfl | rfl | rfl | rfl | rfl | rfl | rfl | rfl
          · skip
            refine lv_aload_n hx hb dX0_netAt_19 rfl (lv_at hl 0 rfl) ?_
            refine va_get (D := (dC, dI)) (ci := 3) (v := .ref aN) (C := RX0) (T := TX0) (N := 9) hx hb hts (fun w h => List.mem_cons_of_mem _ (List.mem_append_left _ (List.mem_append_right _ (h)))) hown hK hP 0 rfl rfl 5 (by decide) (hts (.fieldLink RX0 24 "Netcompare$Circuit" "net" "[[I") (List.mem_cons_of_mem _ (List.mem_append_left _ (List.mem_append_left _ (List.mem_of_getElem? (i := 0) rfl))))) (fun _ h9 => h9) rfl dX0_netAt_20 ?_
            refine lv_iload_n hx hb dX0_netAt_23 rfl (lv_at hl 1 rfl) ?_
            refine va_alda hx hb hK hP 1 0 rfl rfl (show ¬ (_ ∨ _) by decide) dX0_netAt_24 ?_
            refine W.eq (g2 := F0 m 25 ls [.ref a0]) rfl ?_
            rcases f03 (h3) (h4) with rfl | rfl | rfl
            · skip
              refine lv_iload_n hx hb dX0_netAt_25 rfl (lv_at hl 2 rfl) ?_
              refine va_iald hx hb hK hP 2 1 rfl rfl (show ¬ (_ ∨ _) by decide) dX0_netAt_26 ?_
              refine W.eq (g2 := F0 m 27 ls [.int (-1)]) rfl ?_
              refine lv_goto (tgt := 31) hx hb dX0_netAt_27 (by decide) ?_
              exact ret _ () _ _ _ _ _ _ (rfl) (hP.sub [0, 1, 2, 3, 4, 5, 6, 7, 8, 9, 10, 11] rfl) (hK.sub [0, 1] rfl) (hD.sub [0, 1, 2, 3, 4, 5, 6, 7, 8, 9, 10, 11] (by decide) rfl) hS (Nat.le_of_ble_eq_true rfl) (Nat.le_of_ble_eq_true rfl) dX0_netAt_31
            · skip
              refine lv_iload_n hx hb dX0_netAt_25 rfl (lv_at hl 2 rfl) ?_
              refine va_iald hx hb hK hP 2 1 rfl rfl (show ¬ (_ ∨ _) by decide) dX0_netAt_26 ?_
              refine W.eq (g2 := F0 m 27 ls [.int (-1)]) rfl ?_
              refine lv_goto (tgt := 31) hx hb dX0_netAt_27 (by decide) ?_
              exact ret _ () _ _ _ _ _ _ (rfl) (hP.sub [0, 1, 2, 3, 4, 5, 6, 7, 8, 9, 10, 11] rfl) (hK.sub [0, 1] rfl) (hD.sub [0, 1, 2, 3, 4, 5, 6, 7, 8, 9, 10, 11] (by decide) rfl) hS (Nat.le_of_ble_eq_true rfl) (Nat.le_of_ble_eq_true rfl) dX0_netAt_31
            · skip
              refine lv_iload_n hx hb dX0_netAt_25 rfl (lv_at hl 2 rfl) ?_
              refine va_iald hx hb hK hP 2 1 rfl rfl (show ¬ (_ ∨ _) by decide) dX0_netAt_26 ?_
              refine W.eq (g2 := F0 m 27 ls [.int (-1)]) rfl ?_
              refine lv_goto (tgt := 31) hx hb dX0_netAt_27 (by decide) ?_
              exact ret _ () _ _ _ _ _ _ (rfl) (hP.sub [0, 1, 2, 3, 4, 5, 6, 7, 8, 9, 10, 11] rfl) (hK.sub [0, 1] rfl) (hD.sub [0, 1, 2, 3, 4, 5, 6, 7, 8, 9, 10, 11] (by decide) rfl) hS (Nat.le_of_ble_eq_true rfl) (Nat.le_of_ble_eq_true rfl) dX0_netAt_31
          · skip
            refine lv_aload_n hx hb dX0_netAt_19 rfl (lv_at hl 0 rfl) ?_
            refine va_get (D := (dC, dI)) (ci := 3) (v := .ref aN) (C := RX0) (T := TX0) (N := 9) hx hb hts (fun w h => List.mem_cons_of_mem _ (List.mem_append_left _ (List.mem_append_right _ (h)))) hown hK hP 0 rfl rfl 5 (by decide) (hts (.fieldLink RX0 24 "Netcompare$Circuit" "net" "[[I") (List.mem_cons_of_mem _ (List.mem_append_left _ (List.mem_append_left _ (List.mem_of_getElem? (i := 0) rfl))))) (fun _ h9 => h9) rfl dX0_netAt_20 ?_
            refine lv_iload_n hx hb dX0_netAt_23 rfl (lv_at hl 1 rfl) ?_
            refine va_alda hx hb hK hP 1 0 rfl rfl (show ¬ (_ ∨ _) by decide) dX0_netAt_24 ?_
            refine W.eq (g2 := F0 m 25 ls [.ref a1]) rfl ?_
            rcases f03 (h3) (h4) with rfl | rfl | rfl
            · skip
              refine lv_iload_n hx hb dX0_netAt_25 rfl (lv_at hl 2 rfl) ?_
              refine va_iald hx hb hK hP 3 1 rfl rfl (show ¬ (_ ∨ _) by decide) dX0_netAt_26 ?_
              refine W.eq (g2 := F0 m 27 ls [.int (-1)]) rfl ?_
              refine lv_goto (tgt := 31) hx hb dX0_netAt_27 (by decide) ?_
              exact ret _ () _ _ _ _ _ _ (rfl) (hP.sub [0, 1, 2, 3, 4, 5, 6, 7, 8, 9, 10, 11] rfl) (hK.sub [0, 1] rfl) (hD.sub [0, 1, 2, 3, 4, 5, 6, 7, 8, 9, 10, 11] (by decide) rfl) hS (Nat.le_of_ble_eq_true rfl) (Nat.le_of_ble_eq_true rfl) dX0_netAt_31
            · skip
              refine lv_iload_n hx hb dX0_netAt_25 rfl (lv_at hl 2 rfl) ?_
              refine va_iald hx hb hK hP 3 1 rfl rfl (show ¬ (_ ∨ _) by decide) dX0_netAt_26 ?_
              refine W.eq (g2 := F0 m 27 ls [.int (-1)]) rfl ?_
              refine lv_goto (tgt := 31) hx hb dX0_netAt_27 (by decide) ?_
              exact ret _ () _ _ _ _ _ _ (rfl) (hP.sub [0, 1, 2, 3, 4, 5, 6, 7, 8, 9, 10, 11] rfl) (hK.sub [0, 1] rfl) (hD.sub [0, 1, 2, 3, 4, 5, 6, 7, 8, 9, 10, 11] (by decide) rfl) hS (Nat.le_of_ble_eq_true rfl) (Nat.le_of_ble_eq_true rfl) dX0_netAt_31
            · skip
              refine lv_iload_n hx hb dX0_netAt_25 rfl (lv_at hl 2 rfl) ?_
              refine va_iald hx hb hK hP 3 1 rfl rfl (show ¬ (_ ∨ _) by decide) dX0_netAt_26 ?_
              refine W.eq (g2 := F0 m 27 ls [.int (-1)]) rfl ?_
              refine lv_goto (tgt := 31) hx hb dX0_netAt_27 (by decide) ?_
              exact ret _ () _ _ _ _ _ _ (rfl) (hP.sub [0, 1, 2, 3, 4, 5, 6, 7, 8, 9, 10, 11] rfl) (hK.sub [0, 1] rfl) (hD.sub [0, 1, 2, 3, 4, 5, 6, 7, 8, 9, 10, 11] (by decide) rfl) hS (Nat.le_of_ble_eq_true rfl) (Nat.le_of_ble_eq_true rfl) dX0_netAt_31
          · skip
            refine lv_aload_n hx hb dX0_netAt_19 rfl (lv_at hl 0 rfl) ?_
            refine va_get (D := (dC, dI)) (ci := 3) (v := .ref aN) (C := RX0) (T := TX0) (N := 9) hx hb hts (fun w h => List.mem_cons_of_mem _ (List.mem_append_left _ (List.mem_append_right _ (h)))) hown hK hP 0 rfl rfl 5 (by decide) (hts (.fieldLink RX0 24 "Netcompare$Circuit" "net" "[[I") (List.mem_cons_of_mem _ (List.mem_append_left _ (List.mem_append_left _ (List.mem_of_getElem? (i := 0) rfl))))) (fun _ h9 => h9) rfl dX0_netAt_20 ?_
            refine lv_iload_n hx hb dX0_netAt_23 rfl (lv_at hl 1 rfl) ?_
            refine va_alda hx hb hK hP 1 0 rfl rfl (show ¬ (_ ∨ _) by decide) dX0_netAt_24 ?_
            refine W.eq (g2 := F0 m 25 ls [.ref a2]) rfl ?_
            rcases f03 (h3) (h4) with rfl | rfl | rfl
            · skip
              refine lv_iload_n hx hb dX0_netAt_25 rfl (lv_at hl 2 rfl) ?_
              refine va_iald hx hb hK hP 4 1 rfl rfl (show ¬ (_ ∨ _) by decide) dX0_netAt_26 ?_
              refine W.eq (g2 := F0 m 27 ls [.int (-1)]) rfl ?_
              refine lv_goto (tgt := 31) hx hb dX0_netAt_27 (by decide) ?_
              exact ret _ () _ _ _ _ _ _ (rfl) (hP.sub [0, 1, 2, 3, 4, 5, 6, 7, 8, 9, 10, 11] rfl) (hK.sub [0, 1] rfl) (hD.sub [0, 1, 2, 3, 4, 5, 6, 7, 8, 9, 10, 11] (by decide) rfl) hS (Nat.le_of_ble_eq_true rfl) (Nat.le_of_ble_eq_true rfl) dX0_netAt_31
            · skip
              refine lv_iload_n hx hb dX0_netAt_25 rfl (lv_at hl 2 rfl) ?_
              refine va_iald hx hb hK hP 4 1 rfl rfl (show ¬ (_ ∨ _) by decide) dX0_netAt_26 ?_
              refine W.eq (g2 := F0 m 27 ls [.int (-1)]) rfl ?_
              refine lv_goto (tgt := 31) hx hb dX0_netAt_27 (by decide) ?_
              exact ret _ () _ _ _ _ _ _ (rfl) (hP.sub [0, 1, 2, 3, 4, 5, 6, 7, 8, 9, 10, 11] rfl) (hK.sub [0, 1] rfl) (hD.sub [0, 1, 2, 3, 4, 5, 6, 7, 8, 9, 10, 11] (by decide) rfl) hS (Nat.le_of_ble_eq_true rfl) (Nat.le_of_ble_eq_true rfl) dX0_netAt_31
            · skip
              refine lv_iload_n hx hb dX0_netAt_25 rfl (lv_at hl 2 rfl) ?_
              refine va_iald hx hb hK hP 4 1 rfl rfl (show ¬ (_ ∨ _) by decide) dX0_netAt_26 ?_
              refine W.eq (g2 := F0 m 27 ls [.int (-1)]) rfl ?_
              refine lv_goto (tgt := 31) hx hb dX0_netAt_27 (by decide) ?_
              exact ret _ () _ _ _ _ _ _ (rfl) (hP.sub [0, 1, 2, 3, 4, 5, 6, 7, 8, 9, 10, 11] rfl) (hK.sub [0, 1] rfl) (hD.sub [0, 1, 2, 3, 4, 5, 6, 7, 8, 9, 10, 11] (by decide) rfl) hS (Nat.le_of_ble_eq_true rfl) (Nat.le_of_ble_eq_true rfl) dX0_netAt_31
          · skip
            refine lv_aload_n hx hb dX0_netAt_19 rfl (lv_at hl 0 rfl) ?_
            refine va_get (D := (dC, dI)) (ci := 3) (v := .ref aN) (C := RX0) (T := TX0) (N := 9) hx hb hts (fun w h => List.mem_cons_of_mem _ (List.mem_append_left _ (List.mem_append_right _ (h)))) hown hK hP 0 rfl rfl 5 (by decide) (hts (.fieldLink RX0 24 "Netcompare$Circuit" "net" "[[I") (List.mem_cons_of_mem _ (List.mem_append_left _ (List.mem_append_left _ (List.mem_of_getElem? (i := 0) rfl))))) (fun _ h9 => h9) rfl dX0_netAt_20 ?_
            refine lv_iload_n hx hb dX0_netAt_23 rfl (lv_at hl 1 rfl) ?_
            refine va_alda hx hb hK hP 1 0 rfl rfl (show ¬ (_ ∨ _) by decide) dX0_netAt_24 ?_
            refine W.eq (g2 := F0 m 25 ls [.ref a3]) rfl ?_
            rcases f03 (h3) (h4) with rfl | rfl | rfl
            · skip
              refine lv_iload_n hx hb dX0_netAt_25 rfl (lv_at hl 2 rfl) ?_
              refine va_iald hx hb hK hP 5 1 rfl rfl (show ¬ (_ ∨ _) by decide) dX0_netAt_26 ?_
              refine W.eq (g2 := F0 m 27 ls [.int (-1)]) rfl ?_
              refine lv_goto (tgt := 31) hx hb dX0_netAt_27 (by decide) ?_
              exact ret _ () _ _ _ _ _ _ (rfl) (hP.sub [0, 1, 2, 3, 4, 5, 6, 7, 8, 9, 10, 11] rfl) (hK.sub [0, 1] rfl) (hD.sub [0, 1, 2, 3, 4, 5, 6, 7, 8, 9, 10, 11] (by decide) rfl) hS (Nat.le_of_ble_eq_true rfl) (Nat.le_of_ble_eq_true rfl) dX0_netAt_31
            · skip
              refine lv_iload_n hx hb dX0_netAt_25 rfl (lv_at hl 2 rfl) ?_
              refine va_iald hx hb hK hP 5 1 rfl rfl (show ¬ (_ ∨ _) by decide) dX0_netAt_26 ?_
              refine W.eq (g2 := F0 m 27 ls [.int (-1)]) rfl ?_
              refine lv_goto (tgt := 31) hx hb dX0_netAt_27 (by decide) ?_
              exact ret _ () _ _ _ _ _ _ (rfl) (hP.sub [0, 1, 2, 3, 4, 5, 6, 7, 8, 9, 10, 11] rfl) (hK.sub [0, 1] rfl) (hD.sub [0, 1, 2, 3, 4, 5, 6, 7, 8, 9, 10, 11] (by decide) rfl) hS (Nat.le_of_ble_eq_true rfl) (Nat.le_of_ble_eq_true rfl) dX0_netAt_31
            · skip
              refine lv_iload_n hx hb dX0_netAt_25 rfl (lv_at hl 2 rfl) ?_
              refine va_iald hx hb hK hP 5 1 rfl rfl (show ¬ (_ ∨ _) by decide) dX0_netAt_26 ?_
              refine W.eq (g2 := F0 m 27 ls [.int (-1)]) rfl ?_
              refine lv_goto (tgt := 31) hx hb dX0_netAt_27 (by decide) ?_
              exact ret _ () _ _ _ _ _ _ (rfl) (hP.sub [0, 1, 2, 3, 4, 5, 6, 7, 8, 9, 10, 11] rfl) (hK.sub [0, 1] rfl) (hD.sub [0, 1, 2, 3, 4, 5, 6, 7, 8, 9, 10, 11] (by decide) rfl) hS (Nat.le_of_ble_eq_true rfl) (Nat.le_of_ble_eq_true rfl) dX0_netAt_31
          · skip
            refine lv_aload_n hx hb dX0_netAt_19 rfl (lv_at hl 0 rfl) ?_
            refine va_get (D := (dC, dI)) (ci := 3) (v := .ref aN) (C := RX0) (T := TX0) (N := 9) hx hb hts (fun w h => List.mem_cons_of_mem _ (List.mem_append_left _ (List.mem_append_right _ (h)))) hown hK hP 0 rfl rfl 5 (by decide) (hts (.fieldLink RX0 24 "Netcompare$Circuit" "net" "[[I") (List.mem_cons_of_mem _ (List.mem_append_left _ (List.mem_append_left _ (List.mem_of_getElem? (i := 0) rfl))))) (fun _ h9 => h9) rfl dX0_netAt_20 ?_
            refine lv_iload_n hx hb dX0_netAt_23 rfl (lv_at hl 1 rfl) ?_
            refine va_alda hx hb hK hP 1 0 rfl rfl (show ¬ (_ ∨ _) by decide) dX0_netAt_24 ?_
            refine W.eq (g2 := F0 m 25 ls [.ref a4]) rfl ?_
            rcases f03 (h3) (h4) with rfl | rfl | rfl
            · skip
              refine lv_iload_n hx hb dX0_netAt_25 rfl (lv_at hl 2 rfl) ?_
              refine va_iald hx hb hK hP 6 1 rfl rfl (show ¬ (_ ∨ _) by decide) dX0_netAt_26 ?_
              refine W.eq (g2 := F0 m 27 ls [.int (-1)]) rfl ?_
              refine lv_goto (tgt := 31) hx hb dX0_netAt_27 (by decide) ?_
              exact ret _ () _ _ _ _ _ _ (rfl) (hP.sub [0, 1, 2, 3, 4, 5, 6, 7, 8, 9, 10, 11] rfl) (hK.sub [0, 1] rfl) (hD.sub [0, 1, 2, 3, 4, 5, 6, 7, 8, 9, 10, 11] (by decide) rfl) hS (Nat.le_of_ble_eq_true rfl) (Nat.le_of_ble_eq_true rfl) dX0_netAt_31
            · skip
              refine lv_iload_n hx hb dX0_netAt_25 rfl (lv_at hl 2 rfl) ?_
              refine va_iald hx hb hK hP 6 1 rfl rfl (show ¬ (_ ∨ _) by decide) dX0_netAt_26 ?_
              refine W.eq (g2 := F0 m 27 ls [.int (-1)]) rfl ?_
              refine lv_goto (tgt := 31) hx hb dX0_netAt_27 (by decide) ?_
              exact ret _ () _ _ _ _ _ _ (rfl) (hP.sub [0, 1, 2, 3, 4, 5, 6, 7, 8, 9, 10, 11] rfl) (hK.sub [0, 1] rfl) (hD.sub [0, 1, 2, 3, 4, 5, 6, 7, 8, 9, 10, 11] (by decide) rfl) hS (Nat.le_of_ble_eq_true rfl) (Nat.le_of_ble_eq_true rfl) dX0_netAt_31
            · skip
              refine lv_iload_n hx hb dX0_netAt_25 rfl (lv_at hl 2 rfl) ?_
              refine va_iald hx hb hK hP 6 1 rfl rfl (show ¬ (_ ∨ _) by decide) dX0_netAt_26 ?_
              refine W.eq (g2 := F0 m 27 ls [.int (-1)]) rfl ?_
              refine lv_goto (tgt := 31) hx hb dX0_netAt_27 (by decide) ?_
              exact ret _ () _ _ _ _ _ _ (rfl) (hP.sub [0, 1, 2, 3, 4, 5, 6, 7, 8, 9, 10, 11] rfl) (hK.sub [0, 1] rfl) (hD.sub [0, 1, 2, 3, 4, 5, 6, 7, 8, 9, 10, 11] (by decide) rfl) hS (Nat.le_of_ble_eq_true rfl) (Nat.le_of_ble_eq_true rfl) dX0_netAt_31
          · skip
            refine lv_aload_n hx hb dX0_netAt_19 rfl (lv_at hl 0 rfl) ?_
            refine va_get (D := (dC, dI)) (ci := 3) (v := .ref aN) (C := RX0) (T := TX0) (N := 9) hx hb hts (fun w h => List.mem_cons_of_mem _ (List.mem_append_left _ (List.mem_append_right _ (h)))) hown hK hP 0 rfl rfl 5 (by decide) (hts (.fieldLink RX0 24 "Netcompare$Circuit" "net" "[[I") (List.mem_cons_of_mem _ (List.mem_append_left _ (List.mem_append_left _ (List.mem_of_getElem? (i := 0) rfl))))) (fun _ h9 => h9) rfl dX0_netAt_20 ?_
            refine lv_iload_n hx hb dX0_netAt_23 rfl (lv_at hl 1 rfl) ?_
            refine va_alda hx hb hK hP 1 0 rfl rfl (show ¬ (_ ∨ _) by decide) dX0_netAt_24 ?_
            refine W.eq (g2 := F0 m 25 ls [.ref a5]) rfl ?_
            rcases f03 (h3) (h4) with rfl | rfl | rfl
            · skip
              refine lv_iload_n hx hb dX0_netAt_25 rfl (lv_at hl 2 rfl) ?_
              refine va_iald hx hb hK hP 7 1 rfl rfl (show ¬ (_ ∨ _) by decide) dX0_netAt_26 ?_
              refine W.eq (g2 := F0 m 27 ls [.int (-1)]) rfl ?_
              refine lv_goto (tgt := 31) hx hb dX0_netAt_27 (by decide) ?_
              exact ret _ () _ _ _ _ _ _ (rfl) (hP.sub [0, 1, 2, 3, 4, 5, 6, 7, 8, 9, 10, 11] rfl) (hK.sub [0, 1] rfl) (hD.sub [0, 1, 2, 3, 4, 5, 6, 7, 8, 9, 10, 11] (by decide) rfl) hS (Nat.le_of_ble_eq_true rfl) (Nat.le_of_ble_eq_true rfl) dX0_netAt_31
            · skip
              refine lv_iload_n hx hb dX0_netAt_25 rfl (lv_at hl 2 rfl) ?_
              refine va_iald hx hb hK hP 7 1 rfl rfl (show ¬ (_ ∨ _) by decide) dX0_netAt_26 ?_
              refine W.eq (g2 := F0 m 27 ls [.int (-1)]) rfl ?_
              refine lv_goto (tgt := 31) hx hb dX0_netAt_27 (by decide) ?_
              exact ret _ () _ _ _ _ _ _ (rfl) (hP.sub [0, 1, 2, 3, 4, 5, 6, 7, 8, 9, 10, 11] rfl) (hK.sub [0, 1] rfl) (hD.sub [0, 1, 2, 3, 4, 5, 6, 7, 8, 9, 10, 11] (by decide) rfl) hS (Nat.le_of_ble_eq_true rfl) (Nat.le_of_ble_eq_true rfl) dX0_netAt_31
            · skip
              refine lv_iload_n hx hb dX0_netAt_25 rfl (lv_at hl 2 rfl) ?_
              refine va_iald hx hb hK hP 7 1 rfl rfl (show ¬ (_ ∨ _) by decide) dX0_netAt_26 ?_
              refine W.eq (g2 := F0 m 27 ls [.int (-1)]) rfl ?_
              refine lv_goto (tgt := 31) hx hb dX0_netAt_27 (by decide) ?_
              exact ret _ () _ _ _ _ _ _ (rfl) (hP.sub [0, 1, 2, 3, 4, 5, 6, 7, 8, 9, 10, 11] rfl) (hK.sub [0, 1] rfl) (hD.sub [0, 1, 2, 3, 4, 5, 6, 7, 8, 9, 10, 11] (by decide) rfl) hS (Nat.le_of_ble_eq_true rfl) (Nat.le_of_ble_eq_true rfl) dX0_netAt_31
          · skip
            refine lv_aload_n hx hb dX0_netAt_19 rfl (lv_at hl 0 rfl) ?_
            refine va_get (D := (dC, dI)) (ci := 3) (v := .ref aN) (C := RX0) (T := TX0) (N := 9) hx hb hts (fun w h => List.mem_cons_of_mem _ (List.mem_append_left _ (List.mem_append_right _ (h)))) hown hK hP 0 rfl rfl 5 (by decide) (hts (.fieldLink RX0 24 "Netcompare$Circuit" "net" "[[I") (List.mem_cons_of_mem _ (List.mem_append_left _ (List.mem_append_left _ (List.mem_of_getElem? (i := 0) rfl))))) (fun _ h9 => h9) rfl dX0_netAt_20 ?_
            refine lv_iload_n hx hb dX0_netAt_23 rfl (lv_at hl 1 rfl) ?_
            refine va_alda hx hb hK hP 1 0 rfl rfl (show ¬ (_ ∨ _) by decide) dX0_netAt_24 ?_
            refine W.eq (g2 := F0 m 25 ls [.ref a6]) rfl ?_
            rcases f03 (h3) (h4) with rfl | rfl | rfl
            · skip
              refine lv_iload_n hx hb dX0_netAt_25 rfl (lv_at hl 2 rfl) ?_
              refine va_iald hx hb hK hP 8 1 rfl rfl (show ¬ (_ ∨ _) by decide) dX0_netAt_26 ?_
              refine W.eq (g2 := F0 m 27 ls [.int (-1)]) rfl ?_
              refine lv_goto (tgt := 31) hx hb dX0_netAt_27 (by decide) ?_
              exact ret _ () _ _ _ _ _ _ (rfl) (hP.sub [0, 1, 2, 3, 4, 5, 6, 7, 8, 9, 10, 11] rfl) (hK.sub [0, 1] rfl) (hD.sub [0, 1, 2, 3, 4, 5, 6, 7, 8, 9, 10, 11] (by decide) rfl) hS (Nat.le_of_ble_eq_true rfl) (Nat.le_of_ble_eq_true rfl) dX0_netAt_31
            · skip
              refine lv_iload_n hx hb dX0_netAt_25 rfl (lv_at hl 2 rfl) ?_
              refine va_iald hx hb hK hP 8 1 rfl rfl (show ¬ (_ ∨ _) by decide) dX0_netAt_26 ?_
              refine W.eq (g2 := F0 m 27 ls [.int (-1)]) rfl ?_
              refine lv_goto (tgt := 31) hx hb dX0_netAt_27 (by decide) ?_
              exact ret _ () _ _ _ _ _ _ (rfl) (hP.sub [0, 1, 2, 3, 4, 5, 6, 7, 8, 9, 10, 11] rfl) (hK.sub [0, 1] rfl) (hD.sub [0, 1, 2, 3, 4, 5, 6, 7, 8, 9, 10, 11] (by decide) rfl) hS (Nat.le_of_ble_eq_true rfl) (Nat.le_of_ble_eq_true rfl) dX0_netAt_31
            · skip
              refine lv_iload_n hx hb dX0_netAt_25 rfl (lv_at hl 2 rfl) ?_
              refine va_iald hx hb hK hP 8 1 rfl rfl (show ¬ (_ ∨ _) by decide) dX0_netAt_26 ?_
              refine W.eq (g2 := F0 m 27 ls [.int (-1)]) rfl ?_
              refine lv_goto (tgt := 31) hx hb dX0_netAt_27 (by decide) ?_
              exact ret _ () _ _ _ _ _ _ (rfl) (hP.sub [0, 1, 2, 3, 4, 5, 6, 7, 8, 9, 10, 11] rfl) (hK.sub [0, 1] rfl) (hD.sub [0, 1, 2, 3, 4, 5, 6, 7, 8, 9, 10, 11] (by decide) rfl) hS (Nat.le_of_ble_eq_true rfl) (Nat.le_of_ble_eq_true rfl) dX0_netAt_31
          · skip
            refine lv_aload_n hx hb dX0_netAt_19 rfl (lv_at hl 0 rfl) ?_
            refine va_get (D := (dC, dI)) (ci := 3) (v := .ref aN) (C := RX0) (T := TX0) (N := 9) hx hb hts (fun w h => List.mem_cons_of_mem _ (List.mem_append_left _ (List.mem_append_right _ (h)))) hown hK hP 0 rfl rfl 5 (by decide) (hts (.fieldLink RX0 24 "Netcompare$Circuit" "net" "[[I") (List.mem_cons_of_mem _ (List.mem_append_left _ (List.mem_append_left _ (List.mem_of_getElem? (i := 0) rfl))))) (fun _ h9 => h9) rfl dX0_netAt_20 ?_
            refine lv_iload_n hx hb dX0_netAt_23 rfl (lv_at hl 1 rfl) ?_
            refine va_alda hx hb hK hP 1 0 rfl rfl (show ¬ (_ ∨ _) by decide) dX0_netAt_24 ?_
            refine W.eq (g2 := F0 m 25 ls [.ref a7]) rfl ?_
            rcases f03 (h3) (h4) with rfl | rfl | rfl
            · skip
              refine lv_iload_n hx hb dX0_netAt_25 rfl (lv_at hl 2 rfl) ?_
              refine va_iald hx hb hK hP 9 1 rfl rfl (show ¬ (_ ∨ _) by decide) dX0_netAt_26 ?_
              refine W.eq (g2 := F0 m 27 ls [.int (-1)]) rfl ?_
              refine lv_goto (tgt := 31) hx hb dX0_netAt_27 (by decide) ?_
              exact ret _ () _ _ _ _ _ _ (rfl) (hP.sub [0, 1, 2, 3, 4, 5, 6, 7, 8, 9, 10, 11] rfl) (hK.sub [0, 1] rfl) (hD.sub [0, 1, 2, 3, 4, 5, 6, 7, 8, 9, 10, 11] (by decide) rfl) hS (Nat.le_of_ble_eq_true rfl) (Nat.le_of_ble_eq_true rfl) dX0_netAt_31
            · skip
              refine lv_iload_n hx hb dX0_netAt_25 rfl (lv_at hl 2 rfl) ?_
              refine va_iald hx hb hK hP 9 1 rfl rfl (show ¬ (_ ∨ _) by decide) dX0_netAt_26 ?_
              refine W.eq (g2 := F0 m 27 ls [.int (-1)]) rfl ?_
              refine lv_goto (tgt := 31) hx hb dX0_netAt_27 (by decide) ?_
              exact ret _ () _ _ _ _ _ _ (rfl) (hP.sub [0, 1, 2, 3, 4, 5, 6, 7, 8, 9, 10, 11] rfl) (hK.sub [0, 1] rfl) (hD.sub [0, 1, 2, 3, 4, 5, 6, 7, 8, 9, 10, 11] (by decide) rfl) hS (Nat.le_of_ble_eq_true rfl) (Nat.le_of_ble_eq_true rfl) dX0_netAt_31
            · skip
              refine lv_iload_n hx hb dX0_netAt_25 rfl (lv_at hl 2 rfl) ?_
              refine va_iald hx hb hK hP 9 1 rfl rfl (show ¬ (_ ∨ _) by decide) dX0_netAt_26 ?_
              refine W.eq (g2 := F0 m 27 ls [.int (-1)]) rfl ?_
              refine lv_goto (tgt := 31) hx hb dX0_netAt_27 (by decide) ?_
              exact ret _ () _ _ _ _ _ _ (rfl) (hP.sub [0, 1, 2, 3, 4, 5, 6, 7, 8, 9, 10, 11] rfl) (hK.sub [0, 1] rfl) (hD.sub [0, 1, 2, 3, 4, 5, 6, 7, 8, 9, 10, 11] (by decide) rfl) hS (Nat.le_of_ble_eq_true rfl) (Nat.le_of_ble_eq_true rfl) dX0_netAt_31
          · skip
            refine lv_aload_n hx hb dX0_netAt_19 rfl (lv_at hl 0 rfl) ?_
            refine va_get (D := (dC, dI)) (ci := 3) (v := .ref aN) (C := RX0) (T := TX0) (N := 9) hx hb hts (fun w h => List.mem_cons_of_mem _ (List.mem_append_left _ (List.mem_append_right _ (h)))) hown hK hP 0 rfl rfl 5 (by decide) (hts (.fieldLink RX0 24 "Netcompare$Circuit" "net" "[[I") (List.mem_cons_of_mem _ (List.mem_append_left _ (List.mem_append_left _ (List.mem_of_getElem? (i := 0) rfl))))) (fun _ h9 => h9) rfl dX0_netAt_20 ?_
            refine lv_iload_n hx hb dX0_netAt_23 rfl (lv_at hl 1 rfl) ?_
            refine va_alda hx hb hK hP 1 0 rfl rfl (show ¬ (_ ∨ _) by decide) dX0_netAt_24 ?_
            refine W.eq (g2 := F0 m 25 ls [.ref a8]) rfl ?_
            rcases f03 (h3) (h4) with rfl | rfl | rfl
            · skip
              refine lv_iload_n hx hb dX0_netAt_25 rfl (lv_at hl 2 rfl) ?_
              refine va_iald hx hb hK hP 10 1 rfl rfl (show ¬ (_ ∨ _) by decide) dX0_netAt_26 ?_
              refine W.eq (g2 := F0 m 27 ls [.int (-1)]) rfl ?_
              refine lv_goto (tgt := 31) hx hb dX0_netAt_27 (by decide) ?_
              exact ret _ () _ _ _ _ _ _ (rfl) (hP.sub [0, 1, 2, 3, 4, 5, 6, 7, 8, 9, 10, 11] rfl) (hK.sub [0, 1] rfl) (hD.sub [0, 1, 2, 3, 4, 5, 6, 7, 8, 9, 10, 11] (by decide) rfl) hS (Nat.le_of_ble_eq_true rfl) (Nat.le_of_ble_eq_true rfl) dX0_netAt_31
            · skip
              refine lv_iload_n hx hb dX0_netAt_25 rfl (lv_at hl 2 rfl) ?_
              refine va_iald hx hb hK hP 10 1 rfl rfl (show ¬ (_ ∨ _) by decide) dX0_netAt_26 ?_
              refine W.eq (g2 := F0 m 27 ls [.int (-1)]) rfl ?_
              refine lv_goto (tgt := 31) hx hb dX0_netAt_27 (by decide) ?_
              exact ret _ () _ _ _ _ _ _ (rfl) (hP.sub [0, 1, 2, 3, 4, 5, 6, 7, 8, 9, 10, 11] rfl) (hK.sub [0, 1] rfl) (hD.sub [0, 1, 2, 3, 4, 5, 6, 7, 8, 9, 10, 11] (by decide) rfl) hS (Nat.le_of_ble_eq_true rfl) (Nat.le_of_ble_eq_true rfl) dX0_netAt_31
            · skip
              refine lv_iload_n hx hb dX0_netAt_25 rfl (lv_at hl 2 rfl) ?_
              refine va_iald hx hb hK hP 10 1 rfl rfl (show ¬ (_ ∨ _) by decide) dX0_netAt_26 ?_
              refine W.eq (g2 := F0 m 27 ls [.int (-1)]) rfl ?_
              refine lv_goto (tgt := 31) hx hb dX0_netAt_27 (by decide) ?_
              exact ret _ () _ _ _ _ _ _ (rfl) (hP.sub [0, 1, 2, 3, 4, 5, 6, 7, 8, 9, 10, 11] rfl) (hK.sub [0, 1] rfl) (hD.sub [0, 1, 2, 3, 4, 5, 6, 7, 8, 9, 10, 11] (by decide) rfl) hS (Nat.le_of_ble_eq_true rfl) (Nat.le_of_ble_eq_true rfl) dX0_netAt_31
          · skip
            refine lv_aload_n hx hb dX0_netAt_19 rfl (lv_at hl 0 rfl) ?_
            refine va_get (D := (dC, dI)) (ci := 3) (v := .ref aN) (C := RX0) (T := TX0) (N := 9) hx hb hts (fun w h => List.mem_cons_of_mem _ (List.mem_append_left _ (List.mem_append_right _ (h)))) hown hK hP 0 rfl rfl 5 (by decide) (hts (.fieldLink RX0 24 "Netcompare$Circuit" "net" "[[I") (List.mem_cons_of_mem _ (List.mem_append_left _ (List.mem_append_left _ (List.mem_of_getElem? (i := 0) rfl))))) (fun _ h9 => h9) rfl dX0_netAt_20 ?_
            refine lv_iload_n hx hb dX0_netAt_23 rfl (lv_at hl 1 rfl) ?_
            refine va_alda hx hb hK hP 1 0 rfl rfl (show ¬ (_ ∨ _) by decide) dX0_netAt_24 ?_
            refine W.eq (g2 := F0 m 25 ls [.ref a9]) rfl ?_
            rcases f03 (h3) (h4) with rfl | rfl | rfl
            · skip
              refine lv_iload_n hx hb dX0_netAt_25 rfl (lv_at hl 2 rfl) ?_
              refine va_iald hx hb hK hP 11 1 rfl rfl (show ¬ (_ ∨ _) by decide) dX0_netAt_26 ?_
              refine W.eq (g2 := F0 m 27 ls [.int (-1)]) rfl ?_
              refine lv_goto (tgt := 31) hx hb dX0_netAt_27 (by decide) ?_
              exact ret _ () _ _ _ _ _ _ (rfl) (hP.sub [0, 1, 2, 3, 4, 5, 6, 7, 8, 9, 10, 11] rfl) (hK.sub [0, 1] rfl) (hD.sub [0, 1, 2, 3, 4, 5, 6, 7, 8, 9, 10, 11] (by decide) rfl) hS (Nat.le_of_ble_eq_true rfl) (Nat.le_of_ble_eq_true rfl) dX0_netAt_31
            · skip
              refine lv_iload_n hx hb dX0_netAt_25 rfl (lv_at hl 2 rfl) ?_
              refine va_iald hx hb hK hP 11 1 rfl rfl (show ¬ (_ ∨ _) by decide) dX0_netAt_26 ?_
              refine W.eq (g2 := F0 m 27 ls [.int (-1)]) rfl ?_
              refine lv_goto (tgt := 31) hx hb dX0_netAt_27 (by decide) ?_
              exact ret _ () _ _ _ _ _ _ (rfl) (hP.sub [0, 1, 2, 3, 4, 5, 6, 7, 8, 9, 10, 11] rfl) (hK.sub [0, 1] rfl) (hD.sub [0, 1, 2, 3, 4, 5, 6, 7, 8, 9, 10, 11] (by decide) rfl) hS (Nat.le_of_ble_eq_true rfl) (Nat.le_of_ble_eq_true rfl) dX0_netAt_31
            · skip
              refine lv_iload_n hx hb dX0_netAt_25 rfl (lv_at hl 2 rfl) ?_
              refine va_iald hx hb hK hP 11 1 rfl rfl (show ¬ (_ ∨ _) by decide) dX0_netAt_26 ?_
              refine W.eq (g2 := F0 m 27 ls [.int (-1)]) rfl ?_
              refine lv_goto (tgt := 31) hx hb dX0_netAt_27 (by decide) ?_
              exact ret _ () _ _ _ _ _ _ (rfl) (hP.sub [0, 1, 2, 3, 4, 5, 6, 7, 8, 9, 10, 11] rfl) (hK.sub [0, 1] rfl) (hD.sub [0, 1, 2, 3, 4, 5, 6, 7, 8, 9, 10, 11] (by decide) rfl) hS (Nat.le_of_ble_eq_true rfl) (Nat.le_of_ble_eq_true rfl) dX0_netAt_31

set_option maxHeartbeats 4000000 in
set_option maxRecDepth 100000 in
/-- nearest: no net -/
theorem kX0_nearest (l : Launch) (dC : Nat → ClassId) (dI : Nat → Nat → Nat) (a aL aK aV aN aS aB : Nat) (a0 a1 a2 a3 a4 a5 a6 a7 a8 a9 : Nat) (cI cN : ClassId) (p0 : Int32) (sz : Nat) : fMi l yX0_nearest wsX0_nearest ({ frames := 1, cells := 0, slots := 0, locals := 22 } : Room) dC dI [.ref a, .int p0] [(a, .inr (3, [.int 0, .int 0, .ref aL, .ref aK, .ref aV, .ref aN, .ref aS, .ref aB, .int 0])), (aN, .inl (cN, 10, .inr (.inr (.inr (.inr (fch a0 a1 a2 a3 a4 a5 a6 a7 a8 a9)))))), (a0, .inl (cI, 3, .inl fM3)), (a1, .inl (cI, 3, .inl fM3)), (a2, .inl (cI, 3, .inl fM3)), (a3, .inl (cI, 3, .inl fM3)), (a4, .inl (cI, 3, .inl fM3)), (a5, .inl (cI, 3, .inl fM3)), (a6, .inl (cI, 3, .inl fM3)), (a7, .inl (cI, 3, .inl fM3)), (a8, .inl (cI, 3, .inl fM3)), (a9, .inl (cI, 3, .inl fM3))] [(cN, .array .int), (cI, .int)] sz (fun (r : Int32) (u : Unit) => r = 99) (fun u => [(a, .inr (3, [.int 0, .int 0, .ref aL, .ref aK, .ref aV, .ref aN, .ref aS, .ref aB, .int 0])), (aN, .inl (cN, 10, .inr (.inr (.inr (.inr (fch a0 a1 a2 a3 a4 a5 a6 a7 a8 a9)))))), (a0, .inl (cI, 3, .inl fM3)), (a1, .inl (cI, 3, .inl fM3)), (a2, .inl (cI, 3, .inl fM3)), (a3, .inl (cI, 3, .inl fM3)), (a4, .inl (cI, 3, .inl fM3)), (a5, .inl (cI, 3, .inl fM3)), (a6, .inl (cI, 3, .inl fM3)), (a7, .inl (cI, 3, .inl fM3)), (a8, .inl (cI, 3, .inl fM3)), (a9, .inl (cI, 3, .inl fM3))]) (fun u => [(cN, .array .int), (cI, .int)]) := by
  refine oP_i (y := yX0_nearest) (cc := cX0_nearest) (maxL := 4) (by decide) rfl (Nat.le_of_ble_eq_true rfl) ?_
  intro p e s m args below meth c ls A Q hx hb hr hml hown hts hN hZ hA hin hlk hP hK hD hl ret
  have hS : va_S A s.heap s.heap [] := va_S.rf
  have hl : lv_has ls 4 [(0, .ref a), (1, .int p0)] := hl
  have hP : va_P (dC, dI) vwCl [(a, .inr (3, [.int 0, .int 0, .ref aL, .ref aK, .ref aV, .ref aN, .ref aS, .ref aB, .int 0])), (aN, .inl (cN, 10, .inr (.inr (.inr (.inr (fch a0 a1 a2 a3 a4 a5 a6 a7 a8 a9)))))), (a0, .inl (cI, 3, .inl fM3)), (a1, .inl (cI, 3, .inl fM3)), (a2, .inl (cI, 3, .inl fM3)), (a3, .inl (cI, 3, .inl fM3)), (a4, .inl (cI, 3, .inl fM3)), (a5, .inl (cI, 3, .inl fM3)), (a6, .inl (cI, 3, .inl fM3)), (a7, .inl (cI, 3, .inl fM3)), (a8, .inl (cI, 3, .inl fM3)), (a9, .inl (cI, 3, .inl fM3))] _ := hP
  have hD : va_D A [(a, .inr (3, [.int 0, .int 0, .ref aL, .ref aK, .ref aV, .ref aN, .ref aS, .ref aB, .int 0])), (aN, .inl (cN, 10, .inr (.inr (.inr (.inr (fch a0 a1 a2 a3 a4 a5 a6 a7 a8 a9)))))), (a0, .inl (cI, 3, .inl fM3)), (a1, .inl (cI, 3, .inl fM3)), (a2, .inl (cI, 3, .inl fM3)), (a3, .inl (cI, 3, .inl fM3)), (a4, .inl (cI, 3, .inl fM3)), (a5, .inl (cI, 3, .inl fM3)), (a6, .inl (cI, 3, .inl fM3)), (a7, .inl (cI, 3, .inl fM3)), (a8, .inl (cI, 3, .inl fM3)), (a9, .inl (cI, 3, .inl fM3))] := hD
  refine lv_bipush (v := 99) hx hb dX0_nearest_0 (by decide) ?_
  refine lv_istore_n (lv' := [(2, .int 99), (0, .ref a), (1, .int p0)]) hx hb dX0_nearest_2 rfl hl (Nat.le_of_ble_eq_true rfl) rfl (fun ls hl => ?_)
  refine lv_iconst (v := 0) hx hb dX0_nearest_3 (by decide) ?_
  refine lv_istore_n (lv' := [(3, .int 0), (2, .int 99), (0, .ref a), (1, .int p0)]) hx hb dX0_nearest_4 rfl hl (Nat.le_of_ble_eq_true rfl) rfl (fun ls hl => ?_)
  refine lv_iload_n hx hb dX0_nearest_5 rfl (lv_at hl 0 rfl) ?_
  refine lv_iconst (v := 3) hx hb dX0_nearest_6 (by decide) ?_
  refine lv_icmp_ge (tgt := 31) hx hb dX0_nearest_7 (by decide) (fun h9 => absurd h9 (by decide)) (fun _ => ?_)
  refine lv_iload_n hx hb dX0_nearest_10 rfl (lv_at hl 1 rfl) ?_
  refine lv_aload_n hx hb dX0_nearest_11 rfl (lv_at hl 2 rfl) ?_
  refine lv_aload_n hx hb dX0_nearest_12 rfl (lv_at hl 2 rfl) ?_
  refine lv_iload_n hx hb dX0_nearest_13 rfl (lv_at hl 3 rfl) ?_
  refine lv_iload_n hx hb dX0_nearest_14 rfl (lv_at hl 0 rfl) ?_
  have hPc := hP.sub (ws' := [(a, .inr (3, [.int 0, .int 0, .ref aL, .ref aK, .ref aV, .ref aN, .ref aS, .ref aB, .int 0])), (aN, .inl (cN, 10, .inr (.inr (.inr (.inr (fch a0 a1 a2 a3 a4 a5 a6 a7 a8 a9)))))), (a0, .inl (cI, 3, .inl fM3)), (a1, .inl (cI, 3, .inl fM3)), (a2, .inl (cI, 3, .inl fM3)), (a3, .inl (cI, 3, .inl fM3)), (a4, .inl (cI, 3, .inl fM3)), (a5, .inl (cI, 3, .inl fM3)), (a6, .inl (cI, 3, .inl fM3)), (a7, .inl (cI, 3, .inl fM3)), (a8, .inl (cI, 3, .inl fM3)), (a9, .inl (cI, 3, .inl fM3))]) [0, 1, 2, 3, 4, 5, 6, 7, 8, 9, 10, 11] rfl
  have hDc := hD.sub (ws' := [(a, .inr (3, [.int 0, .int 0, .ref aL, .ref aK, .ref aV, .ref aN, .ref aS, .ref aB, .int 0])), (aN, .inl (cN, 10, .inr (.inr (.inr (.inr (fch a0 a1 a2 a3 a4 a5 a6 a7 a8 a9)))))), (a0, .inl (cI, 3, .inl fM3)), (a1, .inl (cI, 3, .inl fM3)), (a2, .inl (cI, 3, .inl fM3)), (a3, .inl (cI, 3, .inl fM3)), (a4, .inl (cI, 3, .inl fM3)), (a5, .inl (cI, 3, .inl fM3)), (a6, .inl (cI, 3, .inl fM3)), (a7, .inl (cI, 3, .inl fM3)), (a8, .inl (cI, 3, .inl fM3)), (a9, .inl (cI, 3, .inl fM3))]) [0, 1, 2, 3, 4, 5, 6, 7, 8, 9, 10, 11] (by decide) rfl
  have hKc := hK.sub (tys' := [(cN, .array .int), (cI, .int)]) [0, 1] rfl
  have hFc := va_free (wc := [(a, .inr (3, [.int 0, .int 0, .ref aL, .ref aK, .ref aV, .ref aN, .ref aS, .ref aB, .int 0])), (aN, .inl (cN, 10, .inr (.inr (.inr (.inr (fch a0 a1 a2 a3 a4 a5 a6 a7 a8 a9)))))), (a0, .inl (cI, 3, .inl fM3)), (a1, .inl (cI, 3, .inl fM3)), (a2, .inl (cI, 3, .inl fM3)), (a3, .inl (cI, 3, .inl fM3)), (a4, .inl (cI, 3, .inl fM3)), (a5, .inl (cI, 3, .inl fM3)), (a6, .inl (cI, 3, .inl fM3)), (a7, .inl (cI, 3, .inl fM3)), (a8, .inl (cI, 3, .inl fM3)), (a9, .inl (cI, 3, .inl fM3))]) hD hS hA [0, 1, 2, 3, 4, 5, 6, 7, 8, 9, 10, 11] rfl
  refine va_calli (va_runV (As := [.int p0, .int 0]) (rest := [.ref a, .int 99]) ⟨hx, hb, hml, hown, hts⟩ (kX0_netAt l dC dI a aL aK aV aN aS aB a0 a1 a2 a3 a4 a5 a6 a7 a8 a9 cI cN p0 0 s.heap.size) (cwV 2 hts gX0_nearest_X0_netAt rfl rfl rfl (by decide +kernel) ⟨Nat.le_of_ble_eq_true rfl, Nat.le_of_ble_eq_true rfl⟩) (fPreV hN hZ hS (fun q h => hFc q h) hPc hKc hDc (ci := 3) (q0 := 0) rfl rfl) rfl rfl hl.1 rfl (lv_room (Nat.le_of_ble_eq_true rfl)) dX0_nearest_15 ⟨Nat.le_of_ble_eq_true rfl, Nat.le_of_ble_eq_true rfl⟩) hS (fun q _ h => hFc q h) hFc (fun r u t H1 locs ht hvm hw hB hz1 hk1 hS => ?_)
  obtain ⟨hP1, hK1, hD1⟩ := hB
  rw [ht] at hP1
  have hK1 := va_K.moved hvm.symm hK1
  obtain ⟨hP, hD⟩ := va_join (wr := []) (w1 := [(a, .inr (3, [.int 0, .int 0, .ref aL, .ref aK, .ref aV, .ref aN, .ref aS, .ref aB, .int 0])), (aN, .inl (cN, 10, .inr (.inr (.inr (.inr (fch a0 a1 a2 a3 a4 a5 a6 a7 a8 a9)))))), (a0, .inl (cI, 3, .inl fM3)), (a1, .inl (cI, 3, .inl fM3)), (a2, .inl (cI, 3, .inl fM3)), (a3, .inl (cI, 3, .inl fM3)), (a4, .inl (cI, 3, .inl fM3)), (a5, .inl (cI, 3, .inl fM3)), (a6, .inl (cI, 3, .inl fM3)), (a7, .inl (cI, 3, .inl fM3)), (a8, .inl (cI, 3, .inl fM3)), (a9, .inl (cI, 3, .inl fM3))]) hP hD [0, 1, 2, 3, 4, 5, 6, 7, 8, 9, 10, 11] [] rfl rfl (by decide) (by decide) hk1 hFc hP1 hD1
  generalize H1 = H at hP hS ⊢
  have hP : va_P (dC, dI) vwCl [(a, .inr (3, [.int 0, .int 0, .ref aL, .ref aK, .ref aV, .ref aN, .ref aS, .ref aB, .int 0])), (aN, .inl (cN, 10, .inr (.inr (.inr (.inr (fch a0 a1 a2 a3 a4 a5 a6 a7 a8 a9)))))), (a0, .inl (cI, 3, .inl fM3)), (a1, .inl (cI, 3, .inl fM3)), (a2, .inl (cI, 3, .inl fM3)), (a3, .inl (cI, 3, .inl fM3)), (a4, .inl (cI, 3, .inl fM3)), (a5, .inl (cI, 3, .inl fM3)), (a6, .inl (cI, 3, .inl fM3)), (a7, .inl (cI, 3, .inl fM3)), (a8, .inl (cI, 3, .inl fM3)), (a9, .inl (cI, 3, .inl fM3))] _ := hP
  have hD : va_D A [(a, .inr (3, [.int 0, .int 0, .ref aL, .ref aK, .ref aV, .ref aN, .ref aS, .ref aB, .int 0])), (aN, .inl (cN, 10, .inr (.inr (.inr (.inr (fch a0 a1 a2 a3 a4 a5 a6 a7 a8 a9)))))), (a0, .inl (cI, 3, .inl fM3)), (a1, .inl (cI, 3, .inl fM3)), (a2, .inl (cI, 3, .inl fM3)), (a3, .inl (cI, 3, .inl fM3)), (a4, .inl (cI, 3, .inl fM3)), (a5, .inl (cI, 3, .inl fM3)), (a6, .inl (cI, 3, .inl fM3)), (a7, .inl (cI, 3, .inl fM3)), (a8, .inl (cI, 3, .inl fM3)), (a9, .inl (cI, 3, .inl fM3))] := hD
  subst hw
  have hPc := hP.sub (ws' := [(a, .inr (3, [.int 0, .int 0, .ref aL, .ref aK, .ref aV, .ref aN, .ref aS, .ref aB, .int 0]))]) [0] rfl
  have hDc := hD.sub (ws' := [(a, .inr (3, [.int 0, .int 0, .ref aL, .ref aK, .ref aV, .ref aN, .ref aS, .ref aB, .int 0]))]) [0] (by decide) rfl
  have hKc := hK.sub (tys' := []) [] rfl
  have hFc := va_free (wc := [(a, .inr (3, [.int 0, .int 0, .ref aL, .ref aK, .ref aV, .ref aN, .ref aS, .ref aB, .int 0]))]) hD hS hA [0] rfl
  refine va_calli (va_runV (As := [.int (-1)]) (rest := [.int 99]) ⟨hx, hb, hml, hown, hts⟩ (kX0_stepsAtN l dC dI a aL aK aV aN aS aB H.size) (cwV 1 hts gX0_nearest_X0_stepsAt rfl rfl rfl (by decide +kernel) ⟨Nat.le_of_ble_eq_true rfl, Nat.le_of_ble_eq_true rfl⟩) (fPreV hN hZ hS (fun q h => hFc q h) hPc hKc hDc (ci := 3) (q0 := 0) rfl rfl) rfl rfl hl.1 rfl (lv_room (Nat.le_of_ble_eq_true rfl)) dX0_nearest_18 ⟨Nat.le_of_ble_eq_true rfl, Nat.le_of_ble_eq_true rfl⟩) hS (fun q _ h => hFc q h) hFc (fun r u t H1 locs ht hvm hw hB hz1 hk1 hS => ?_)
  obtain ⟨hP1, hK1, hD1⟩ := hB
  rw [ht] at hP1
  have hK1 := va_K.moved hvm.symm hK1
  obtain ⟨hP, hD⟩ := va_join (wr := [(aN, .inl (cN, 10, .inr (.inr (.inr (.inr (fch a0 a1 a2 a3 a4 a5 a6 a7 a8 a9)))))), (a0, .inl (cI, 3, .inl fM3)), (a1, .inl (cI, 3, .inl fM3)), (a2, .inl (cI, 3, .inl fM3)), (a3, .inl (cI, 3, .inl fM3)), (a4, .inl (cI, 3, .inl fM3)), (a5, .inl (cI, 3, .inl fM3)), (a6, .inl (cI, 3, .inl fM3)), (a7, .inl (cI, 3, .inl fM3)), (a8, .inl (cI, 3, .inl fM3)), (a9, .inl (cI, 3, .inl fM3))]) (w1 := [(a, .inr (3, [.int 0, .int 0, .ref aL, .ref aK, .ref aV, .ref aN, .ref aS, .ref aB, .int 0]))]) hP hD [0] [1, 2, 3, 4, 5, 6, 7, 8, 9, 10, 11] rfl rfl (by decide) (by decide) hk1 hFc hP1 hD1
  generalize H1 = H at hP hS ⊢
  have hP : va_P (dC, dI) vwCl [(aN, .inl (cN, 10, .inr (.inr (.inr (.inr (fch a0 a1 a2 a3 a4 a5 a6 a7 a8 a9)))))), (a0, .inl (cI, 3, .inl fM3)), (a1, .inl (cI, 3, .inl fM3)), (a2, .inl (cI, 3, .inl fM3)), (a3, .inl (cI, 3, .inl fM3)), (a4, .inl (cI, 3, .inl fM3)), (a5, .inl (cI, 3, .inl fM3)), (a6, .inl (cI, 3, .inl fM3)), (a7, .inl (cI, 3, .inl fM3)), (a8, .inl (cI, 3, .inl fM3)), (a9, .inl (cI, 3, .inl fM3)), (a, .inr (3, [.int 0, .int 0, .ref aL, .ref aK, .ref aV, .ref aN, .ref aS, .ref aB, .int 0]))] _ := hP
  have hD : va_D A [(aN, .inl (cN, 10, .inr (.inr (.inr (.inr (fch a0 a1 a2 a3 a4 a5 a6 a7 a8 a9)))))), (a0, .inl (cI, 3, .inl fM3)), (a1, .inl (cI, 3, .inl fM3)), (a2, .inl (cI, 3, .inl fM3)), (a3, .inl (cI, 3, .inl fM3)), (a4, .inl (cI, 3, .inl fM3)), (a5, .inl (cI, 3, .inl fM3)), (a6, .inl (cI, 3, .inl fM3)), (a7, .inl (cI, 3, .inl fM3)), (a8, .inl (cI, 3, .inl fM3)), (a9, .inl (cI, 3, .inl fM3)), (a, .inr (3, [.int 0, .int 0, .ref aL, .ref aK, .ref aV, .ref aN, .ref aS, .ref aB, .int 0]))] := hD
  subst hw
  refine va_mmin hx hb (hml.trans hl.1.symm) hown (hts (.methodLink RX0 78 Lib.Math.min.name) (List.mem_cons_of_mem _ (List.mem_append_left _ (List.mem_append_left _ (List.mem_of_getElem? (i := 0) rfl))))) (hts (.static Lib.Math.min.name) (List.mem_cons_of_mem _ (List.mem_append_left _ (List.mem_append_left _ (List.mem_of_getElem? (i := 1) rfl))))) (hts (.initialized "java/lang/Math") (List.mem_cons_of_mem _ (List.mem_append_left _ (List.mem_append_left _ (List.mem_of_getElem? (i := 2) rfl))))) (hts (.code Lib.Math.min.name Lib.Math.min.code 2 (some .int)) (List.mem_cons_of_mem _ (List.mem_append_left _ (List.mem_append_left _ (List.mem_of_getElem? (i := 3) rfl))))) (Nat.le_of_ble_eq_true rfl) (Nat.le_of_ble_eq_true rfl) (Nat.le_of_ble_eq_true rfl) (Nat.le_of_ble_eq_true rfl) dX0_nearest_21 ?_
  refine lv_topi (fun y1 ey1 => ?_)
  obtain rfl : y1 = 99 := ey1.trans (by decide)
  refine lv_istore_n (lv' := [(2, .int 99), (3, .int 0), (0, .ref a), (1, .int p0)]) hx hb dX0_nearest_24 rfl hl (Nat.le_of_ble_eq_true rfl) rfl (fun ls hl => ?_)
  refine lv_iinc (v := 1) (lv' := [(3, .int 1), (2, .int 99), (0, .ref a), (1, .int p0)]) hx hb dX0_nearest_25 hl (k := 1) rfl (by decide) (Nat.le_of_ble_eq_true rfl) rfl (fun ls hl => ?_)
  refine lv_goto (tgt := 5) hx hb dX0_nearest_28 (by decide) ?_
  refine lv_iload_n hx hb dX0_nearest_5 rfl (lv_at hl 0 rfl) ?_
  refine lv_iconst (v := 3) hx hb dX0_nearest_6 (by decide) ?_
  refine lv_icmp_ge (tgt := 31) hx hb dX0_nearest_7 (by decide) (fun h9 => absurd h9 (by decide)) (fun _ => ?_)
  refine lv_iload_n hx hb dX0_nearest_10 rfl (lv_at hl 1 rfl) ?_
  refine lv_aload_n hx hb dX0_nearest_11 rfl (lv_at hl 2 rfl) ?_
  refine lv_aload_n hx hb dX0_nearest_12 rfl (lv_at hl 2 rfl) ?_
  refine lv_iload_n hx hb dX0_nearest_13 rfl (lv_at hl 3 rfl) ?_
  refine lv_iload_n hx hb dX0_nearest_14 rfl (lv_at hl 0 rfl) ?_
  have hPc := hP.sub (ws' := [(a, .inr (3, [.int 0, .int 0, .ref aL, .ref aK, .ref aV, .ref aN, .ref aS, .ref aB, .int 0])), (aN, .inl (cN, 10, .inr (.inr (.inr (.inr (fch a0 a1 a2 a3 a4 a5 a6 a7 a8 a9)))))), (a0, .inl (cI, 3, .inl fM3)), (a1, .inl (cI, 3, .inl fM3)), (a2, .inl (cI, 3, .inl fM3)), (a3, .inl (cI, 3, .inl fM3)), (a4, .inl (cI, 3, .inl fM3)), (a5, .inl (cI, 3, .inl fM3)), (a6, .inl (cI, 3, .inl fM3)), (a7, .inl (cI, 3, .inl fM3)), (a8, .inl (cI, 3, .inl fM3)), (a9, .inl (cI, 3, .inl fM3))]) [11, 0, 1, 2, 3, 4, 5, 6, 7, 8, 9, 10] rfl
  have hDc := hD.sub (ws' := [(a, .inr (3, [.int 0, .int 0, .ref aL, .ref aK, .ref aV, .ref aN, .ref aS, .ref aB, .int 0])), (aN, .inl (cN, 10, .inr (.inr (.inr (.inr (fch a0 a1 a2 a3 a4 a5 a6 a7 a8 a9)))))), (a0, .inl (cI, 3, .inl fM3)), (a1, .inl (cI, 3, .inl fM3)), (a2, .inl (cI, 3, .inl fM3)), (a3, .inl (cI, 3, .inl fM3)), (a4, .inl (cI, 3, .inl fM3)), (a5, .inl (cI, 3, .inl fM3)), (a6, .inl (cI, 3, .inl fM3)), (a7, .inl (cI, 3, .inl fM3)), (a8, .inl (cI, 3, .inl fM3)), (a9, .inl (cI, 3, .inl fM3))]) [11, 0, 1, 2, 3, 4, 5, 6, 7, 8, 9, 10] (by decide) rfl
  have hKc := hK.sub (tys' := [(cN, .array .int), (cI, .int)]) [0, 1] rfl
  have hFc := va_free (wc := [(a, .inr (3, [.int 0, .int 0, .ref aL, .ref aK, .ref aV, .ref aN, .ref aS, .ref aB, .int 0])), (aN, .inl (cN, 10, .inr (.inr (.inr (.inr (fch a0 a1 a2 a3 a4 a5 a6 a7 a8 a9)))))), (a0, .inl (cI, 3, .inl fM3)), (a1, .inl (cI, 3, .inl fM3)), (a2, .inl (cI, 3, .inl fM3)), (a3, .inl (cI, 3, .inl fM3)), (a4, .inl (cI, 3, .inl fM3)), (a5, .inl (cI, 3, .inl fM3)), (a6, .inl (cI, 3, .inl fM3)), (a7, .inl (cI, 3, .inl fM3)), (a8, .inl (cI, 3, .inl fM3)), (a9, .inl (cI, 3, .inl fM3))]) hD hS hA [11, 0, 1, 2, 3, 4, 5, 6, 7, 8, 9, 10] rfl
  refine va_calli (va_runV (As := [.int p0, .int 1]) (rest := [.ref a, .int 99]) ⟨hx, hb, hml, hown, hts⟩ (kX0_netAt l dC dI a aL aK aV aN aS aB a0 a1 a2 a3 a4 a5 a6 a7 a8 a9 cI cN p0 1 H.size) (cwV 2 hts gX0_nearest_X0_netAt rfl rfl rfl (by decide +kernel) ⟨Nat.le_of_ble_eq_true rfl, Nat.le_of_ble_eq_true rfl⟩) (fPreV hN hZ hS (fun q h => hFc q h) hPc hKc hDc (ci := 3) (q0 := 0) rfl rfl) rfl rfl hl.1 rfl (lv_room (Nat.le_of_ble_eq_true rfl)) dX0_nearest_15 ⟨Nat.le_of_ble_eq_true rfl, Nat.le_of_ble_eq_true rfl⟩) hS (fun q _ h => hFc q h) hFc (fun r u t H1 locs ht hvm hw hB hz1 hk1 hS => ?_)
  obtain ⟨hP1, hK1, hD1⟩ := hB
  rw [ht] at hP1
  have hK1 := va_K.moved hvm.symm hK1
  obtain ⟨hP, hD⟩ := va_join (wr := []) (w1 := [(a, .inr (3, [.int 0, .int 0, .ref aL, .ref aK, .ref aV, .ref aN, .ref aS, .ref aB, .int 0])), (aN, .inl (cN, 10, .inr (.inr (.inr (.inr (fch a0 a1 a2 a3 a4 a5 a6 a7 a8 a9)))))), (a0, .inl (cI, 3, .inl fM3)), (a1, .inl (cI, 3, .inl fM3)), (a2, .inl (cI, 3, .inl fM3)), (a3, .inl (cI, 3, .inl fM3)), (a4, .inl (cI, 3, .inl fM3)), (a5, .inl (cI, 3, .inl fM3)), (a6, .inl (cI, 3, .inl fM3)), (a7, .inl (cI, 3, .inl fM3)), (a8, .inl (cI, 3, .inl fM3)), (a9, .inl (cI, 3, .inl fM3))]) hP hD [11, 0, 1, 2, 3, 4, 5, 6, 7, 8, 9, 10] [] rfl rfl (by decide) (by decide) hk1 hFc hP1 hD1
  generalize H1 = H at hP hS ⊢
  have hP : va_P (dC, dI) vwCl [(a, .inr (3, [.int 0, .int 0, .ref aL, .ref aK, .ref aV, .ref aN, .ref aS, .ref aB, .int 0])), (aN, .inl (cN, 10, .inr (.inr (.inr (.inr (fch a0 a1 a2 a3 a4 a5 a6 a7 a8 a9)))))), (a0, .inl (cI, 3, .inl fM3)), (a1, .inl (cI, 3, .inl fM3)), (a2, .inl (cI, 3, .inl fM3)), (a3, .inl (cI, 3, .inl fM3)), (a4, .inl (cI, 3, .inl fM3)), (a5, .inl (cI, 3, .inl fM3)), (a6, .inl (cI, 3, .inl fM3)), (a7, .inl (cI, 3, .inl fM3)), (a8, .inl (cI, 3, .inl fM3)), (a9, .inl (cI, 3, .inl fM3))] _ := hP
  have hD : va_D A [(a, .inr (3, [.int 0, .int 0, .ref aL, .ref aK, .ref aV, .ref aN, .ref aS, .ref aB, .int 0])), (aN, .inl (cN, 10, .inr (.inr (.inr (.inr (fch a0 a1 a2 a3 a4 a5 a6 a7 a8 a9)))))), (a0, .inl (cI, 3, .inl fM3)), (a1, .inl (cI, 3, .inl fM3)), (a2, .inl (cI, 3, .inl fM3)), (a3, .inl (cI, 3, .inl fM3)), (a4, .inl (cI, 3, .inl fM3)), (a5, .inl (cI, 3, .inl fM3)), (a6, .inl (cI, 3, .inl fM3)), (a7, .inl (cI, 3, .inl fM3)), (a8, .inl (cI, 3, .inl fM3)), (a9, .inl (cI, 3, .inl fM3))] := hD
  subst hw
  have hPc := hP.sub (ws' := [(a, .inr (3, [.int 0, .int 0, .ref aL, .ref aK, .ref aV, .ref aN, .ref aS, .ref aB, .int 0]))]) [0] rfl
  have hDc := hD.sub (ws' := [(a, .inr (3, [.int 0, .int 0, .ref aL, .ref aK, .ref aV, .ref aN, .ref aS, .ref aB, .int 0]))]) [0] (by decide) rfl
  have hKc := hK.sub (tys' := []) [] rfl
  have hFc := va_free (wc := [(a, .inr (3, [.int 0, .int 0, .ref aL, .ref aK, .ref aV, .ref aN, .ref aS, .ref aB, .int 0]))]) hD hS hA [0] rfl
  refine va_calli (va_runV (As := [.int (-1)]) (rest := [.int 99]) ⟨hx, hb, hml, hown, hts⟩ (kX0_stepsAtN l dC dI a aL aK aV aN aS aB H.size) (cwV 1 hts gX0_nearest_X0_stepsAt rfl rfl rfl (by decide +kernel) ⟨Nat.le_of_ble_eq_true rfl, Nat.le_of_ble_eq_true rfl⟩) (fPreV hN hZ hS (fun q h => hFc q h) hPc hKc hDc (ci := 3) (q0 := 0) rfl rfl) rfl rfl hl.1 rfl (lv_room (Nat.le_of_ble_eq_true rfl)) dX0_nearest_18 ⟨Nat.le_of_ble_eq_true rfl, Nat.le_of_ble_eq_true rfl⟩) hS (fun q _ h => hFc q h) hFc (fun r u t H1 locs ht hvm hw hB hz1 hk1 hS => ?_)
  obtain ⟨hP1, hK1, hD1⟩ := hB
  rw [ht] at hP1
  have hK1 := va_K.moved hvm.symm hK1
  obtain ⟨hP, hD⟩ := va_join (wr := [(aN, .inl (cN, 10, .inr (.inr (.inr (.inr (fch a0 a1 a2 a3 a4 a5 a6 a7 a8 a9)))))), (a0, .inl (cI, 3, .inl fM3)), (a1, .inl (cI, 3, .inl fM3)), (a2, .inl (cI, 3, .inl fM3)), (a3, .inl (cI, 3, .inl fM3)), (a4, .inl (cI, 3, .inl fM3)), (a5, .inl (cI, 3, .inl fM3)), (a6, .inl (cI, 3, .inl fM3)), (a7, .inl (cI, 3, .inl fM3)), (a8, .inl (cI, 3, .inl fM3)), (a9, .inl (cI, 3, .inl fM3))]) (w1 := [(a, .inr (3, [.int 0, .int 0, .ref aL, .ref aK, .ref aV, .ref aN, .ref aS, .ref aB, .int 0]))]) hP hD [0] [1, 2, 3, 4, 5, 6, 7, 8, 9, 10, 11] rfl rfl (by decide) (by decide) hk1 hFc hP1 hD1
  generalize H1 = H at hP hS ⊢
  have hP : va_P (dC, dI) vwCl [(aN, .inl (cN, 10, .inr (.inr (.inr (.inr (fch a0 a1 a2 a3 a4 a5 a6 a7 a8 a9)))))), (a0, .inl (cI, 3, .inl fM3)), (a1, .inl (cI, 3, .inl fM3)), (a2, .inl (cI, 3, .inl fM3)), (a3, .inl (cI, 3, .inl fM3)), (a4, .inl (cI, 3, .inl fM3)), (a5, .inl (cI, 3, .inl fM3)), (a6, .inl (cI, 3, .inl fM3)), (a7, .inl (cI, 3, .inl fM3)), (a8, .inl (cI, 3, .inl fM3)), (a9, .inl (cI, 3, .inl fM3)), (a, .inr (3, [.int 0, .int 0, .ref aL, .ref aK, .ref aV, .ref aN, .ref aS, .ref aB, .int 0]))] _ := hP
  have hD : va_D A [(aN, .inl (cN, 10, .inr (.inr (.inr (.inr (fch a0 a1 a2 a3 a4 a5 a6 a7 a8 a9)))))), (a0, .inl (cI, 3, .inl fM3)), (a1, .inl (cI, 3, .inl fM3)), (a2, .inl (cI, 3, .inl fM3)), (a3, .inl (cI, 3, .inl fM3)), (a4, .inl (cI, 3, .inl fM3)), (a5, .inl (cI, 3, .inl fM3)), (a6, .inl (cI, 3, .inl fM3)), (a7, .inl (cI, 3, .inl fM3)), (a8, .inl (cI, 3, .inl fM3)), (a9, .inl (cI, 3, .inl fM3)), (a, .inr (3, [.int 0, .int 0, .ref aL, .ref aK, .ref aV, .ref aN, .ref aS, .ref aB, .int 0]))] := hD
  subst hw
  refine va_mmin hx hb (hml.trans hl.1.symm) hown (hts (.methodLink RX0 78 Lib.Math.min.name) (List.mem_cons_of_mem _ (List.mem_append_left _ (List.mem_append_left _ (List.mem_of_getElem? (i := 0) rfl))))) (hts (.static Lib.Math.min.name) (List.mem_cons_of_mem _ (List.mem_append_left _ (List.mem_append_left _ (List.mem_of_getElem? (i := 1) rfl))))) (hts (.initialized "java/lang/Math") (List.mem_cons_of_mem _ (List.mem_append_left _ (List.mem_append_left _ (List.mem_of_getElem? (i := 2) rfl))))) (hts (.code Lib.Math.min.name Lib.Math.min.code 2 (some .int)) (List.mem_cons_of_mem _ (List.mem_append_left _ (List.mem_append_left _ (List.mem_of_getElem? (i := 3) rfl))))) (Nat.le_of_ble_eq_true rfl) (Nat.le_of_ble_eq_true rfl) (Nat.le_of_ble_eq_true rfl) (Nat.le_of_ble_eq_true rfl) dX0_nearest_21 ?_
  refine lv_topi (fun y2 ey2 => ?_)
  obtain rfl : y2 = 99 := ey2.trans (by decide)
  refine lv_istore_n (lv' := [(2, .int 99), (3, .int 1), (0, .ref a), (1, .int p0)]) hx hb dX0_nearest_24 rfl hl (Nat.le_of_ble_eq_true rfl) rfl (fun ls hl => ?_)
  refine lv_iinc (v := 2) (lv' := [(3, .int 2), (2, .int 99), (0, .ref a), (1, .int p0)]) hx hb dX0_nearest_25 hl (k := 1) rfl (by decide) (Nat.le_of_ble_eq_true rfl) rfl (fun ls hl => ?_)
  refine lv_goto (tgt := 5) hx hb dX0_nearest_28 (by decide) ?_
  refine lv_iload_n hx hb dX0_nearest_5 rfl (lv_at hl 0 rfl) ?_
  refine lv_iconst (v := 3) hx hb dX0_nearest_6 (by decide) ?_
  refine lv_icmp_ge (tgt := 31) hx hb dX0_nearest_7 (by decide) (fun h9 => absurd h9 (by decide)) (fun _ => ?_)
  refine lv_iload_n hx hb dX0_nearest_10 rfl (lv_at hl 1 rfl) ?_
  refine lv_aload_n hx hb dX0_nearest_11 rfl (lv_at hl 2 rfl) ?_
  refine lv_aload_n hx hb dX0_nearest_12 rfl (lv_at hl 2 rfl) ?_
  refine lv_iload_n hx hb dX0_nearest_13 rfl (lv_at hl 3 rfl) ?_
  refine lv_iload_n hx hb dX0_nearest_14 rfl (lv_at hl 0 rfl) ?_
  have hPc := hP.sub (ws' := [(a, .inr (3, [.int 0, .int 0, .ref aL, .ref aK, .ref aV, .ref aN, .ref aS, .ref aB, .int 0])), (aN, .inl (cN, 10, .inr (.inr (.inr (.inr (fch a0 a1 a2 a3 a4 a5 a6 a7 a8 a9)))))), (a0, .inl (cI, 3, .inl fM3)), (a1, .inl (cI, 3, .inl fM3)), (a2, .inl (cI, 3, .inl fM3)), (a3, .inl (cI, 3, .inl fM3)), (a4, .inl (cI, 3, .inl fM3)), (a5, .inl (cI, 3, .inl fM3)), (a6, .inl (cI, 3, .inl fM3)), (a7, .inl (cI, 3, .inl fM3)), (a8, .inl (cI, 3, .inl fM3)), (a9, .inl (cI, 3, .inl fM3))]) [11, 0, 1, 2, 3, 4, 5, 6, 7, 8, 9, 10] rfl
  have hDc := hD.sub (ws' := [(a, .inr (3, [.int 0, .int 0, .ref aL, .ref aK, .ref aV, .ref aN, .ref aS, .ref aB, .int 0])), (aN, .inl (cN, 10, .inr (.inr (.inr (.inr (fch a0 a1 a2 a3 a4 a5 a6 a7 a8 a9)))))), (a0, .inl (cI, 3, .inl fM3)), (a1, .inl (cI, 3, .inl fM3)), (a2, .inl (cI, 3, .inl fM3)), (a3, .inl (cI, 3, .inl fM3)), (a4, .inl (cI, 3, .inl fM3)), (a5, .inl (cI, 3, .inl fM3)), (a6, .inl (cI, 3, .inl fM3)), (a7, .inl (cI, 3, .inl fM3)), (a8, .inl (cI, 3, .inl fM3)), (a9, .inl (cI, 3, .inl fM3))]) [11, 0, 1, 2, 3, 4, 5, 6, 7, 8, 9, 10] (by decide) rfl
  have hKc := hK.sub (tys' := [(cN, .array .int), (cI, .int)]) [0, 1] rfl
  have hFc := va_free (wc := [(a, .inr (3, [.int 0, .int 0, .ref aL, .ref aK, .ref aV, .ref aN, .ref aS, .ref aB, .int 0])), (aN, .inl (cN, 10, .inr (.inr (.inr (.inr (fch a0 a1 a2 a3 a4 a5 a6 a7 a8 a9)))))), (a0, .inl (cI, 3, .inl fM3)), (a1, .inl (cI, 3, .inl fM3)), (a2, .inl (cI, 3, .inl fM3)), (a3, .inl (cI, 3, .inl fM3)), (a4, .inl (cI, 3, .inl fM3)), (a5, .inl (cI, 3, .inl fM3)), (a6, .inl (cI, 3, .inl fM3)), (a7, .inl (cI, 3, .inl fM3)), (a8, .inl (cI, 3, .inl fM3)), (a9, .inl (cI, 3, .inl fM3))]) hD hS hA [11, 0, 1, 2, 3, 4, 5, 6, 7, 8, 9, 10] rfl
  refine va_calli (va_runV (As := [.int p0, .int 2]) (rest := [.ref a, .int 99]) ⟨hx, hb, hml, hown, hts⟩ (kX0_netAt l dC dI a aL aK aV aN aS aB a0 a1 a2 a3 a4 a5 a6 a7 a8 a9 cI cN p0 2 H.size) (cwV 2 hts gX0_nearest_X0_netAt rfl rfl rfl (by decide +kernel) ⟨Nat.le_of_ble_eq_true rfl, Nat.le_of_ble_eq_true rfl⟩) (fPreV hN hZ hS (fun q h => hFc q h) hPc hKc hDc (ci := 3) (q0 := 0) rfl rfl) rfl rfl hl.1 rfl (lv_room (Nat.le_of_ble_eq_true rfl)) dX0_nearest_15 ⟨Nat.le_of_ble_eq_true rfl, Nat.le_of_ble_eq_true rfl⟩) hS (fun q _ h => hFc q h) hFc (fun r u t H1 locs ht hvm hw hB hz1 hk1 hS => ?_)
  obtain ⟨hP1, hK1, hD1⟩ := hB
  rw [ht] at hP1
  have hK1 := va_K.moved hvm.symm hK1
  obtain ⟨hP, hD⟩ := va_join (wr := []) (w1 := [(a, .inr (3, [.int 0, .int 0, .ref aL, .ref aK, .ref aV, .ref aN, .ref aS, .ref aB, .int 0])), (aN, .inl (cN, 10, .inr (.inr (.inr (.inr (fch a0 a1 a2 a3 a4 a5 a6 a7 a8 a9)))))), (a0, .inl (cI, 3, .inl fM3)), (a1, .inl (cI, 3, .inl fM3)), (a2, .inl (cI, 3, .inl fM3)), (a3, .inl (cI, 3, .inl fM3)), (a4, .inl (cI, 3, .inl fM3)), (a5, .inl (cI, 3, .inl fM3)), (a6, .inl (cI, 3, .inl fM3)), (a7, .inl (cI, 3, .inl fM3)), (a8, .inl (cI, 3, .inl fM3)), (a9, .inl (cI, 3, .inl fM3))]) hP hD [11, 0, 1, 2, 3, 4, 5, 6, 7, 8, 9, 10] [] rfl rfl (by decide) (by decide) hk1 hFc hP1 hD1
  generalize H1 = H at hP hS ⊢
  have hP : va_P (dC, dI) vwCl [(a, .inr (3, [.int 0, .int 0, .ref aL, .ref aK, .ref aV, .ref aN, .ref aS, .ref aB, .int 0])), (aN, .inl (cN, 10, .inr (.inr (.inr (.inr (fch a0 a1 a2 a3 a4 a5 a6 a7 a8 a9)))))), (a0, .inl (cI, 3, .inl fM3)), (a1, .inl (cI, 3, .inl fM3)), (a2, .inl (cI, 3, .inl fM3)), (a3, .inl (cI, 3, .inl fM3)), (a4, .inl (cI, 3, .inl fM3)), (a5, .inl (cI, 3, .inl fM3)), (a6, .inl (cI, 3, .inl fM3)), (a7, .inl (cI, 3, .inl fM3)), (a8, .inl (cI, 3, .inl fM3)), (a9, .inl (cI, 3, .inl fM3))] _ := hP
  have hD : va_D A [(a, .inr (3, [.int 0, .int 0, .ref aL, .ref aK, .ref aV, .ref aN, .ref aS, .ref aB, .int 0])), (aN, .inl (cN, 10, .inr (.inr (.inr (.inr (fch a0 a1 a2 a3 a4 a5 a6 a7 a8 a9)))))), (a0, .inl (cI, 3, .inl fM3)), (a1, .inl (cI, 3, .inl fM3)), (a2, .inl (cI, 3, .inl fM3)), (a3, .inl (cI, 3, .inl fM3)), (a4, .inl (cI, 3, .inl fM3)), (a5, .inl (cI, 3, .inl fM3)), (a6, .inl (cI, 3, .inl fM3)), (a7, .inl (cI, 3, .inl fM3)), (a8, .inl (cI, 3, .inl fM3)), (a9, .inl (cI, 3, .inl fM3))] := hD
  subst hw
  have hPc := hP.sub (ws' := [(a, .inr (3, [.int 0, .int 0, .ref aL, .ref aK, .ref aV, .ref aN, .ref aS, .ref aB, .int 0]))]) [0] rfl
  have hDc := hD.sub (ws' := [(a, .inr (3, [.int 0, .int 0, .ref aL, .ref aK, .ref aV, .ref aN, .ref aS, .ref aB, .int 0]))]) [0] (by decide) rfl
  have hKc := hK.sub (tys' := []) [] rfl
  have hFc := va_free (wc := [(a, .inr (3, [.int 0, .int 0, .ref aL, .ref aK, .ref aV, .ref aN, .ref aS, .ref aB, .int 0]))]) hD hS hA [0] rfl
  refine va_calli (va_runV (As := [.int (-1)]) (rest := [.int 99]) ⟨hx, hb, hml, hown, hts⟩ (kX0_stepsAtN l dC dI a aL aK aV aN aS aB H.size) (cwV 1 hts gX0_nearest_X0_stepsAt rfl rfl rfl (by decide +kernel) ⟨Nat.le_of_ble_eq_true rfl, Nat.le_of_ble_eq_true rfl⟩) (fPreV hN hZ hS (fun q h => hFc q h) hPc hKc hDc (ci := 3) (q0 := 0) rfl rfl) rfl rfl hl.1 rfl (lv_room (Nat.le_of_ble_eq_true rfl)) dX0_nearest_18 ⟨Nat.le_of_ble_eq_true rfl, Nat.le_of_ble_eq_true rfl⟩) hS (fun q _ h => hFc q h) hFc (fun r u t H1 locs ht hvm hw hB hz1 hk1 hS => ?_)
  obtain ⟨hP1, hK1, hD1⟩ := hB
  rw [ht] at hP1
  have hK1 := va_K.moved hvm.symm hK1
  obtain ⟨hP, hD⟩ := va_join (wr := [(aN, .inl (cN, 10, .inr (.inr (.inr (.inr (fch a0 a1 a2 a3 a4 a5 a6 a7 a8 a9)))))), (a0, .inl (cI, 3, .inl fM3)), (a1, .inl (cI, 3, .inl fM3)), (a2, .inl (cI, 3, .inl fM3)), (a3, .inl (cI, 3, .inl fM3)), (a4, .inl (cI, 3, .inl fM3)), (a5, .inl (cI, 3, .inl fM3)), (a6, .inl (cI, 3, .inl fM3)), (a7, .inl (cI, 3, .inl fM3)), (a8, .inl (cI, 3, .inl fM3)), (a9, .inl (cI, 3, .inl fM3))]) (w1 := [(a, .inr (3, [.int 0, .int 0, .ref aL, .ref aK, .ref aV, .ref aN, .ref aS, .ref aB, .int 0]))]) hP hD [0] [1, 2, 3, 4, 5, 6, 7, 8, 9, 10, 11] rfl rfl (by decide) (by decide) hk1 hFc hP1 hD1
  generalize H1 = H at hP hS ⊢
  have hP : va_P (dC, dI) vwCl [(aN, .inl (cN, 10, .inr (.inr (.inr (.inr (fch a0 a1 a2 a3 a4 a5 a6 a7 a8 a9)))))), (a0, .inl (cI, 3, .inl fM3)), (a1, .inl (cI, 3, .inl fM3)), (a2, .inl (cI, 3, .inl fM3)), (a3, .inl (cI, 3, .inl fM3)), (a4, .inl (cI, 3, .inl fM3)), (a5, .inl (cI, 3, .inl fM3)), (a6, .inl (cI, 3, .inl fM3)), (a7, .inl (cI, 3, .inl fM3)), (a8, .inl (cI, 3, .inl fM3)), (a9, .inl (cI, 3, .inl fM3)), (a, .inr (3, [.int 0, .int 0, .ref aL, .ref aK, .ref aV, .ref aN, .ref aS, .ref aB, .int 0]))] _ := hP
  have hD : va_D A [(aN, .inl (cN, 10, .inr (.inr (.inr (.inr (fch a0 a1 a2 a3 a4 a5 a6 a7 a8 a9)))))), (a0, .inl (cI, 3, .inl fM3)), (a1, .inl (cI, 3, .inl fM3)), (a2, .inl (cI, 3, .inl fM3)), (a3, .inl (cI, 3, .inl fM3)), (a4, .inl (cI, 3, .inl fM3)), (a5, .inl (cI, 3, .inl fM3)), (a6, .inl (cI, 3, .inl fM3)), (a7, .inl (cI, 3, .inl fM3)), (a8, .inl (cI, 3, .inl fM3)), (a9, .inl (cI, 3, .inl fM3)), (a, .inr (3, [.int 0, .int 0, .ref aL, .ref aK, .ref aV, .ref aN, .ref aS, .ref aB, .int 0]))] := hD
  subst hw
  refine va_mmin hx hb (hml.trans hl.1.symm) hown (hts (.methodLink RX0 78 Lib.Math.min.name) (List.mem_cons_of_mem _ (List.mem_append_left _ (List.mem_append_left _ (List.mem_of_getElem? (i := 0) rfl))))) (hts (.static Lib.Math.min.name) (List.mem_cons_of_mem _ (List.mem_append_left _ (List.mem_append_left _ (List.mem_of_getElem? (i := 1) rfl))))) (hts (.initialized "java/lang/Math") (List.mem_cons_of_mem _ (List.mem_append_left _ (List.mem_append_left _ (List.mem_of_getElem? (i := 2) rfl))))) (hts (.code Lib.Math.min.name Lib.Math.min.code 2 (some .int)) (List.mem_cons_of_mem _ (List.mem_append_left _ (List.mem_append_left _ (List.mem_of_getElem? (i := 3) rfl))))) (Nat.le_of_ble_eq_true rfl) (Nat.le_of_ble_eq_true rfl) (Nat.le_of_ble_eq_true rfl) (Nat.le_of_ble_eq_true rfl) dX0_nearest_21 ?_
  refine lv_topi (fun y3 ey3 => ?_)
  obtain rfl : y3 = 99 := ey3.trans (by decide)
  refine lv_istore_n (lv' := [(2, .int 99), (3, .int 2), (0, .ref a), (1, .int p0)]) hx hb dX0_nearest_24 rfl hl (Nat.le_of_ble_eq_true rfl) rfl (fun ls hl => ?_)
  refine lv_iinc (v := 3) (lv' := [(3, .int 3), (2, .int 99), (0, .ref a), (1, .int p0)]) hx hb dX0_nearest_25 hl (k := 1) rfl (by decide) (Nat.le_of_ble_eq_true rfl) rfl (fun ls hl => ?_)
  refine lv_goto (tgt := 5) hx hb dX0_nearest_28 (by decide) ?_
  refine lv_iload_n hx hb dX0_nearest_5 rfl (lv_at hl 0 rfl) ?_
  refine lv_iconst (v := 3) hx hb dX0_nearest_6 (by decide) ?_
  refine lv_icmp_ge (tgt := 31) hx hb dX0_nearest_7 (by decide) (fun _ => ?_) (fun h9 => absurd (by decide) h9)
  refine lv_iload_n hx hb dX0_nearest_31 rfl (lv_at hl 1 rfl) ?_
  exact ret _ () _ _ _ _ _ _ (rfl) (hP.sub [11, 0, 1, 2, 3, 4, 5, 6, 7, 8, 9, 10] rfl) (hK.sub [0, 1] rfl) (hD.sub [11, 0, 1, 2, 3, 4, 5, 6, 7, 8, 9, 10] (by decide) rfl) hS (Nat.le_of_ble_eq_true rfl) (Nat.le_of_ble_eq_true rfl) dX0_nearest_32

set_option maxHeartbeats 4000000 in
set_option maxRecDepth 100000 in
/-- measure: an empty circuit has nothing to measure -/
theorem kX0_measure (l : Launch) (dC : Nat → ClassId) (dI : Nat → Nat → Nat) (a aL aK aV aN aS aB : Nat) (a0 a1 a2 a3 a4 a5 a6 a7 a8 a9 : Nat) (cI cN : ClassId) (ga : Nat → Int32) (sz : Nat) : fMv l yX0_measure wsX0_measure ({ frames := 2, cells := 0, slots := 0, locals := 45 } : Room) dC dI [.ref a] [(a, .inr (3, [.int 0, .int 0, .ref aL, .ref aK, .ref aV, .ref aN, .ref aS, .ref aB, .int 0])), (aS, .inl (cI, 10, .inl ga)), (aN, .inl (cN, 10, .inr (.inr (.inr (.inr (fch a0 a1 a2 a3 a4 a5 a6 a7 a8 a9)))))), (a0, .inl (cI, 3, .inl fM3)), (a1, .inl (cI, 3, .inl fM3)), (a2, .inl (cI, 3, .inl fM3)), (a3, .inl (cI, 3, .inl fM3)), (a4, .inl (cI, 3, .inl fM3)), (a5, .inl (cI, 3, .inl fM3)), (a6, .inl (cI, 3, .inl fM3)), (a7, .inl (cI, 3, .inl fM3)), (a8, .inl (cI, 3, .inl fM3)), (a9, .inl (cI, 3, .inl fM3))] [(cN, .array .int), (cI, .int)] sz (fun (u : Nat → Int32) => True) (fun u => [(a, .inr (3, [.int 0, .int 0, .ref aL, .ref aK, .ref aV, .ref aN, .ref aS, .ref aB, .int 0])), (aS, .inl (cI, 10, .inl u)), (aN, .inl (cN, 10, .inr (.inr (.inr (.inr (fch a0 a1 a2 a3 a4 a5 a6 a7 a8 a9)))))), (a0, .inl (cI, 3, .inl fM3)), (a1, .inl (cI, 3, .inl fM3)), (a2, .inl (cI, 3, .inl fM3)), (a3, .inl (cI, 3, .inl fM3)), (a4, .inl (cI, 3, .inl fM3)), (a5, .inl (cI, 3, .inl fM3)), (a6, .inl (cI, 3, .inl fM3)), (a7, .inl (cI, 3, .inl fM3)), (a8, .inl (cI, 3, .inl fM3)), (a9, .inl (cI, 3, .inl fM3))]) (fun u => [(cN, .array .int), (cI, .int)]) := by
  refine oP_v (y := yX0_measure) (cc := cX0_measure) (maxL := 3) (by decide) rfl (Nat.le_of_ble_eq_true rfl) ?_
  intro p e s m args below meth c ls A Q hx hb hr hml hown hts hN hZ hA hin hlk hP hK hD hl ret
  have hS : va_S A s.heap s.heap [] := va_S.rf
  have hl : lv_has ls 3 [(0, .ref a)] := hl
  have hP : va_P (dC, dI) vwCl [(a, .inr (3, [.int 0, .int 0, .ref aL, .ref aK, .ref aV, .ref aN, .ref aS, .ref aB, .int 0])), (aS, .inl (cI, 10, .inl ga)), (aN, .inl (cN, 10, .inr (.inr (.inr (.inr (fch a0 a1 a2 a3 a4 a5 a6 a7 a8 a9)))))), (a0, .inl (cI, 3, .inl fM3)), (a1, .inl (cI, 3, .inl fM3)), (a2, .inl (cI, 3, .inl fM3)), (a3, .inl (cI, 3, .inl fM3)), (a4, .inl (cI, 3, .inl fM3)), (a5, .inl (cI, 3, .inl fM3)), (a6, .inl (cI, 3, .inl fM3)), (a7, .inl (cI, 3, .inl fM3)), (a8, .inl (cI, 3, .inl fM3)), (a9, .inl (cI, 3, .inl fM3))] _ := hP
  have hD : va_D A [(a, .inr (3, [.int 0, .int 0, .ref aL, .ref aK, .ref aV, .ref aN, .ref aS, .ref aB, .int 0])), (aS, .inl (cI, 10, .inl ga)), (aN, .inl (cN, 10, .inr (.inr (.inr (.inr (fch a0 a1 a2 a3 a4 a5 a6 a7 a8 a9)))))), (a0, .inl (cI, 3, .inl fM3)), (a1, .inl (cI, 3, .inl fM3)), (a2, .inl (cI, 3, .inl fM3)), (a3, .inl (cI, 3, .inl fM3)), (a4, .inl (cI, 3, .inl fM3)), (a5, .inl (cI, 3, .inl fM3)), (a6, .inl (cI, 3, .inl fM3)), (a7, .inl (cI, 3, .inl fM3)), (a8, .inl (cI, 3, .inl fM3)), (a9, .inl (cI, 3, .inl fM3))] := hD
  refine lv_iconst (v := 0) hx hb dX0_measure_0 (by decide) ?_
  refine lv_istore_n (lv' := [(1, .int 0), (0, .ref a)]) hx hb dX0_measure_1 rfl hl (Nat.le_of_ble_eq_true rfl) rfl (fun ls hl => ?_)
  have lp2 : ∀ (n i : Nat), i ≤ 10 → 10 - i < n → ∀ (g_aS : Nat → Int32) (ls : Array Slot) (H : Heap) (locs : List Loc), lv_has ls 3 [(1, .int (nI i)), (0, .ref a)] → va_P (dC, dI) vwCl [(a, .inr (3, [.int 0, .int 0, .ref aL, .ref aK, .ref aV, .ref aN, .ref aS, .ref aB, .int 0])), (aS, .inl (cI, 10, .inl g_aS)), (aN, .inl (cN, 10, .inr (.inr (.inr (.inr (fch a0 a1 a2 a3 a4 a5 a6 a7 a8 a9)))))), (a0, .inl (cI, 3, .inl fM3)), (a1, .inl (cI, 3, .inl fM3)), (a2, .inl (cI, 3, .inl fM3)), (a3, .inl (cI, 3, .inl fM3)), (a4, .inl (cI, 3, .inl fM3)), (a5, .inl (cI, 3, .inl fM3)), (a6, .inl (cI, 3, .inl fM3)), (a7, .inl (cI, 3, .inl fM3)), (a8, .inl (cI, 3, .inl fM3)), (a9, .inl (cI, 3, .inl fM3))] H → va_D A [(a, .inr (3, [.int 0, .int 0, .ref aL, .ref aK, .ref aV, .ref aN, .ref aS, .ref aB, .int 0])), (aS, .inl (cI, 10, .inl g_aS)), (aN, .inl (cN, 10, .inr (.inr (.inr (.inr (fch a0 a1 a2 a3 a4 a5 a6 a7 a8 a9)))))), (a0, .inl (cI, 3, .inl fM3)), (a1, .inl (cI, 3, .inl fM3)), (a2, .inl (cI, 3, .inl fM3)), (a3, .inl (cI, 3, .inl fM3)), (a4, .inl (cI, 3, .inl fM3)), (a5, .inl (cI, 3, .inl fM3)), (a6, .inl (cI, 3, .inl fM3)), (a7, .inl (cI, 3, .inl fM3)), (a8, .inl (cI, 3, .inl fM3)), (a9, .inl (cI, 3, .inl fM3))] → va_S A s.heap H locs → W p l e ({ frames := 2, cells := 0, slots := 0, locals := 45 } : Room) s m args below meth c H locs 0 0 Q (F0 m 2 ls []) := by
    intro n
    induction n with
    | zero => intro i _ h9; exact absurd h9 (Nat.not_lt_zero _)
    | succ n ih =>
      intro i hi ni g_aS ls H locs hl hP hD hS
      rcases Nat.lt_or_ge i 10 with hlt | hge
      · skip
        refine lv_iload_n hx hb dX0_measure_2 rfl (lv_at hl 0 rfl) ?_
        refine lv_bipush (v := 10) hx hb dX0_measure_3 (by decide) ?_
        refine lv_icmp_ge (tgt := 36) hx hb dX0_measure_5 (by decide) (fun h9 => absurd h9 (show ¬ nI 10 ≤ nI i from nI_ge hlt (by decide))) (fun _ => ?_)
        refine lv_aload_n hx hb dX0_measure_8 rfl (lv_at hl 1 rfl) ?_
        refine va_get (D := (dC, dI)) (ci := 3) (v := .ref aS) (C := RX0) (T := TX0) (N := 9) hx hb hts (fun w h => List.mem_cons_of_mem _ (List.mem_append_left _ (List.mem_append_right _ (h)))) hown hK hP 0 rfl rfl 6 (by decide) (hts (.fieldLink RX0 27 "Netcompare$Circuit" "steps" "[I") (List.mem_cons_of_mem _ (List.mem_append_left _ (List.mem_append_left _ (List.mem_append_left _ (List.mem_of_getElem? (i := 0) rfl)))))) (fun _ h9 => h9) rfl dX0_measure_9 ?_
        refine lv_iload_n hx hb dX0_measure_12 rfl (lv_at hl 0 rfl) ?_
        refine lv_aload_n hx hb dX0_measure_13 rfl (lv_at hl 1 rfl) ?_
        refine lv_iload_n hx hb dX0_measure_14 rfl (lv_at hl 0 rfl) ?_
        have hPc := hP.sub (ws' := [(a, .inr (3, [.int 0, .int 0, .ref aL, .ref aK, .ref aV, .ref aN, .ref aS, .ref aB, .int 0]))]) [0] rfl
        have hDc := hD.sub (ws' := [(a, .inr (3, [.int 0, .int 0, .ref aL, .ref aK, .ref aV, .ref aN, .ref aS, .ref aB, .int 0]))]) [0] (by decide) rfl
        have hKc := hK.sub (tys' := []) [] rfl
        have hFc := va_free (wc := [(a, .inr (3, [.int 0, .int 0, .ref aL, .ref aK, .ref aV, .ref aN, .ref aS, .ref aB, .int 0]))]) hD hS hA [0] rfl
        refine va_calli (va_runV (As := [.int (nI i)]) (rest := [.int (nI i), .ref aS]) ⟨hx, hb, hml, hown, hts⟩ (kX0_letterAt l dC dI a aL aK aV aN aS aB (nI i) H.size) (cwV 1 hts gX0_measure_X0_letterAt rfl rfl rfl (by decide +kernel) ⟨Nat.le_of_ble_eq_true rfl, Nat.le_of_ble_eq_true rfl⟩) (fPreV hN hZ hS (fun q h => hFc q h) hPc hKc hDc (ci := 3) (q0 := 0) rfl rfl) rfl rfl hl.1 rfl (lv_room (Nat.le_of_ble_eq_true rfl)) dX0_measure_15 ⟨Nat.le_of_ble_eq_true rfl, Nat.le_of_ble_eq_true rfl⟩) hS (fun q _ h => hFc q h) hFc (fun r u t H1 locs ht hvm hw hB hz1 hk1 hS => ?_)
        obtain ⟨hP1, hK1, hD1⟩ := hB
        rw [ht] at hP1
        have hK1 := va_K.moved hvm.symm hK1
        obtain ⟨hP, hD⟩ := va_join (wr := [(aS, .inl (cI, 10, .inl g_aS)), (aN, .inl (cN, 10, .inr (.inr (.inr (.inr (fch a0 a1 a2 a3 a4 a5 a6 a7 a8 a9)))))), (a0, .inl (cI, 3, .inl fM3)), (a1, .inl (cI, 3, .inl fM3)), (a2, .inl (cI, 3, .inl fM3)), (a3, .inl (cI, 3, .inl fM3)), (a4, .inl (cI, 3, .inl fM3)), (a5, .inl (cI, 3, .inl fM3)), (a6, .inl (cI, 3, .inl fM3)), (a7, .inl (cI, 3, .inl fM3)), (a8, .inl (cI, 3, .inl fM3)), (a9, .inl (cI, 3, .inl fM3))]) (w1 := [(a, .inr (3, [.int 0, .int 0, .ref aL, .ref aK, .ref aV, .ref aN, .ref aS, .ref aB, .int 0]))]) hP hD [0] [1, 2, 3, 4, 5, 6, 7, 8, 9, 10, 11, 12] rfl rfl (by decide) (by decide) hk1 hFc hP1 hD1
        generalize H1 = H at hP hS ⊢
        have hP : va_P (dC, dI) vwCl [(aS, .inl (cI, 10, .inl g_aS)), (aN, .inl (cN, 10, .inr (.inr (.inr (.inr (fch a0 a1 a2 a3 a4 a5 a6 a7 a8 a9)))))), (a0, .inl (cI, 3, .inl fM3)), (a1, .inl (cI, 3, .inl fM3)), (a2, .inl (cI, 3, .inl fM3)), (a3, .inl (cI, 3, .inl fM3)), (a4, .inl (cI, 3, .inl fM3)), (a5, .inl (cI, 3, .inl fM3)), (a6, .inl (cI, 3, .inl fM3)), (a7, .inl (cI, 3, .inl fM3)), (a8, .inl (cI, 3, .inl fM3)), (a9, .inl (cI, 3, .inl fM3)), (a, .inr (3, [.int 0, .int 0, .ref aL, .ref aK, .ref aV, .ref aN, .ref aS, .ref aB, .int 0]))] _ := hP
        have hD : va_D A [(aS, .inl (cI, 10, .inl g_aS)), (aN, .inl (cN, 10, .inr (.inr (.inr (.inr (fch a0 a1 a2 a3 a4 a5 a6 a7 a8 a9)))))), (a0, .inl (cI, 3, .inl fM3)), (a1, .inl (cI, 3, .inl fM3)), (a2, .inl (cI, 3, .inl fM3)), (a3, .inl (cI, 3, .inl fM3)), (a4, .inl (cI, 3, .inl fM3)), (a5, .inl (cI, 3, .inl fM3)), (a6, .inl (cI, 3, .inl fM3)), (a7, .inl (cI, 3, .inl fM3)), (a8, .inl (cI, 3, .inl fM3)), (a9, .inl (cI, 3, .inl fM3)), (a, .inr (3, [.int 0, .int 0, .ref aL, .ref aK, .ref aV, .ref aN, .ref aS, .ref aB, .int 0]))] := hD
        subst hw
        refine lv_bipush (v := 45) hx hb dX0_measure_18 (by decide) ?_
        refine lv_icmp_ne (tgt := 28) hx hb dX0_measure_20 (by decide) (fun h9 => absurd (by decide) h9) (fun _ => ?_)
        refine lv_bipush (v := 99) hx hb dX0_measure_23 (by decide) ?_
        refine lv_goto (tgt := 29) hx hb dX0_measure_25 (by decide) ?_
        refine va_iast hx hb hK hP hD hS 0 1 rfl rfl (vp_in_nI (Nat.lt_of_lt_of_le hlt (by decide)) (by decide)) dX0_measure_29 (fun H locs hP hD hS => ?_)
        rw [nI_clamp (show i < 2 ^ 31 by omega)] at hP hD
        have hP : va_P (dC, dI) vwCl [(aS, .inl (cI, 10, .inl (upd g_aS i 99))), (aN, .inl (cN, 10, .inr (.inr (.inr (.inr (fch a0 a1 a2 a3 a4 a5 a6 a7 a8 a9)))))), (a0, .inl (cI, 3, .inl fM3)), (a1, .inl (cI, 3, .inl fM3)), (a2, .inl (cI, 3, .inl fM3)), (a3, .inl (cI, 3, .inl fM3)), (a4, .inl (cI, 3, .inl fM3)), (a5, .inl (cI, 3, .inl fM3)), (a6, .inl (cI, 3, .inl fM3)), (a7, .inl (cI, 3, .inl fM3)), (a8, .inl (cI, 3, .inl fM3)), (a9, .inl (cI, 3, .inl fM3)), (a, .inr (3, [.int 0, .int 0, .ref aL, .ref aK, .ref aV, .ref aN, .ref aS, .ref aB, .int 0]))] _ := hP
        have hD : va_D A [(aS, .inl (cI, 10, .inl (upd g_aS i 99))), (aN, .inl (cN, 10, .inr (.inr (.inr (.inr (fch a0 a1 a2 a3 a4 a5 a6 a7 a8 a9)))))), (a0, .inl (cI, 3, .inl fM3)), (a1, .inl (cI, 3, .inl fM3)), (a2, .inl (cI, 3, .inl fM3)), (a3, .inl (cI, 3, .inl fM3)), (a4, .inl (cI, 3, .inl fM3)), (a5, .inl (cI, 3, .inl fM3)), (a6, .inl (cI, 3, .inl fM3)), (a7, .inl (cI, 3, .inl fM3)), (a8, .inl (cI, 3, .inl fM3)), (a9, .inl (cI, 3, .inl fM3)), (a, .inr (3, [.int 0, .int 0, .ref aL, .ref aK, .ref aV, .ref aN, .ref aS, .ref aB, .int 0]))] := hD
        refine lv_iinc (v := (nI (i + 1))) (lv' := [(1, .int (nI (i + 1))), (0, .ref a)]) hx hb dX0_measure_30 hl (k := 0) rfl (nI_1 _) (Nat.le_of_ble_eq_true rfl) rfl (fun ls hl => ?_)
        refine lv_goto (tgt := 2) hx hb dX0_measure_33 (by decide) ?_
        exact ih (i + 1) hlt (by omega) (upd g_aS i 99) _ _ _ (lv_sub hl [0, 1] rfl) (hP.sub [12, 0, 1, 2, 3, 4, 5, 6, 7, 8, 9, 10, 11] rfl) (hD.sub [12, 0, 1, 2, 3, 4, 5, 6, 7, 8, 9, 10, 11] (by decide) rfl) hS
      · skip
        refine lv_iload_n hx hb dX0_measure_2 rfl (lv_at hl 0 rfl) ?_
        refine lv_bipush (v := 10) hx hb dX0_measure_3 (by decide) ?_
        refine lv_icmp_ge (tgt := 36) hx hb dX0_measure_5 (by decide) (fun _ => ?_) (fun h9 => absurd (show nI 10 ≤ nI i from nI_le hge (Nat.lt_of_le_of_lt hi (by decide))) h9)
        refine lv_iconst (v := 1) hx hb dX0_measure_36 (by decide) ?_
        refine lv_istore_n (lv' := [(1, .int 1), (0, .ref a)]) hx hb dX0_measure_37 rfl hl (Nat.le_of_ble_eq_true rfl) rfl (fun ls hl => ?_)
        have lp38 : ∀ (n i : Nat), i ≤ 10 → 10 - i < n → ∀  (ls : Array Slot) (H : Heap) (locs : List Loc), lv_has ls 3 [(1, .int (nI i)), (0, .ref a)] → va_P (dC, dI) vwCl [(a, .inr (3, [.int 0, .int 0, .ref aL, .ref aK, .ref aV, .ref aN, .ref aS, .ref aB, .int 0])), (aS, .inl (cI, 10, .inl g_aS)), (aN, .inl (cN, 10, .inr (.inr (.inr (.inr (fch a0 a1 a2 a3 a4 a5 a6 a7 a8 a9)))))), (a0, .inl (cI, 3, .inl fM3)), (a1, .inl (cI, 3, .inl fM3)), (a2, .inl (cI, 3, .inl fM3)), (a3, .inl (cI, 3, .inl fM3)), (a4, .inl (cI, 3, .inl fM3)), (a5, .inl (cI, 3, .inl fM3)), (a6, .inl (cI, 3, .inl fM3)), (a7, .inl (cI, 3, .inl fM3)), (a8, .inl (cI, 3, .inl fM3)), (a9, .inl (cI, 3, .inl fM3))] H → va_D A [(a, .inr (3, [.int 0, .int 0, .ref aL, .ref aK, .ref aV, .ref aN, .ref aS, .ref aB, .int 0])), (aS, .inl (cI, 10, .inl g_aS)), (aN, .inl (cN, 10, .inr (.inr (.inr (.inr (fch a0 a1 a2 a3 a4 a5 a6 a7 a8 a9)))))), (a0, .inl (cI, 3, .inl fM3)), (a1, .inl (cI, 3, .inl fM3)), (a2, .inl (cI, 3, .inl fM3)), (a3, .inl (cI, 3, .inl fM3)), (a4, .inl (cI, 3, .inl fM3)), (a5, .inl (cI, 3, .inl fM3)), (a6, .inl (cI, 3, .inl fM3)), (a7, .inl (cI, 3, .inl fM3)), (a8, .inl (cI, 3, .inl fM3)), (a9, .inl (cI, 3, .inl fM3))] → va_S A s.heap H locs → W p l e ({ frames := 2, cells := 0, slots := 0, locals := 45 } : Room) s m args below meth c H locs 0 0 Q (F0 m 38 ls []) := by
          intro n
          induction n with
          | zero => intro i _ h9; exact absurd h9 (Nat.not_lt_zero _)
          | succ n ih =>
            intro i hi ni  ls H locs hl hP hD hS
            rcases Nat.lt_or_ge i 10 with hlt | hge
            · skip
              refine lv_iload_n hx hb dX0_measure_38 rfl (lv_at hl 0 rfl) ?_
              refine lv_bipush (v := 10) hx hb dX0_measure_39 (by decide) ?_
              refine lv_icmp_ge (tgt := 81) hx hb dX0_measure_41 (by decide) (fun h9 => absurd h9 (show ¬ nI 10 ≤ nI i from nI_ge hlt (by decide))) (fun _ => ?_)
              refine lv_iconst (v := 0) hx hb dX0_measure_44 (by decide) ?_
              refine lv_istore_n (lv' := [(2, .int 0), (1, .int (nI i)), (0, .ref a)]) hx hb dX0_measure_45 rfl hl (Nat.le_of_ble_eq_true rfl) rfl (fun ls hl => ?_)
              have lp46 : ∀ (nj0 j : Nat), j ≤ 10 → 10 - j < nj0 → ∀  (ls : Array Slot) (H : Heap) (locs : List Loc), lv_has ls 3 [(2, .int (nI j)), (1, .int (nI i)), (0, .ref a)] → va_P (dC, dI) vwCl [(a, .inr (3, [.int 0, .int 0, .ref aL, .ref aK, .ref aV, .ref aN, .ref aS, .ref aB, .int 0])), (aS, .inl (cI, 10, .inl g_aS)), (aN, .inl (cN, 10, .inr (.inr (.inr (.inr (fch a0 a1 a2 a3 a4 a5 a6 a7 a8 a9)))))), (a0, .inl (cI, 3, .inl fM3)), (a1, .inl (cI, 3, .inl fM3)), (a2, .inl (cI, 3, .inl fM3)), (a3, .inl (cI, 3, .inl fM3)), (a4, .inl (cI, 3, .inl fM3)), (a5, .inl (cI, 3, .inl fM3)), (a6, .inl (cI, 3, .inl fM3)), (a7, .inl (cI, 3, .inl fM3)), (a8, .inl (cI, 3, .inl fM3)), (a9, .inl (cI, 3, .inl fM3))] H → va_D A [(a, .inr (3, [.int 0, .int 0, .ref aL, .ref aK, .ref aV, .ref aN, .ref aS, .ref aB, .int 0])), (aS, .inl (cI, 10, .inl g_aS)), (aN, .inl (cN, 10, .inr (.inr (.inr (.inr (fch a0 a1 a2 a3 a4 a5 a6 a7 a8 a9)))))), (a0, .inl (cI, 3, .inl fM3)), (a1, .inl (cI, 3, .inl fM3)), (a2, .inl (cI, 3, .inl fM3)), (a3, .inl (cI, 3, .inl fM3)), (a4, .inl (cI, 3, .inl fM3)), (a5, .inl (cI, 3, .inl fM3)), (a6, .inl (cI, 3, .inl fM3)), (a7, .inl (cI, 3, .inl fM3)), (a8, .inl (cI, 3, .inl fM3)), (a9, .inl (cI, 3, .inl fM3))] → va_S A s.heap H locs → W p l e ({ frames := 2, cells := 0, slots := 0, locals := 45 } : Room) s m args below meth c H locs 0 0 Q (F0 m 46 ls []) := by
                intro nj0
                induction nj0 with
                | zero => intro j _ h9; exact absurd h9 (Nat.not_lt_zero _)
                | succ nj0 ihj =>
                  intro j hj nj  ls H locs hl hP hD hS
                  rcases Nat.lt_or_ge j 10 with hltj | hgej
                  · skip
                    refine lv_iload_n hx hb dX0_measure_46 rfl (lv_at hl 0 rfl) ?_
                    refine lv_bipush (v := 10) hx hb dX0_measure_47 (by decide) ?_
                    refine lv_icmp_ge (tgt := 75) hx hb dX0_measure_49 (by decide) (fun h9 => absurd h9 (show ¬ nI 10 ≤ nI j from nI_ge hltj (by decide))) (fun _ => ?_)
                    refine lv_aload_n hx hb dX0_measure_52 rfl (lv_at hl 2 rfl) ?_
                    refine lv_iload_n hx hb dX0_measure_53 rfl (lv_at hl 0 rfl) ?_
                    have hPc := hP.sub (ws' := [(a, .inr (3, [.int 0, .int 0, .ref aL, .ref aK, .ref aV, .ref aN, .ref aS, .ref aB, .int 0])), (aN, .inl (cN, 10, .inr (.inr (.inr (.inr (fch a0 a1 a2 a3 a4 a5 a6 a7 a8 a9)))))), (a0, .inl (cI, 3, .inl fM3)), (a1, .inl (cI, 3, .inl fM3)), (a2, .inl (cI, 3, .inl fM3)), (a3, .inl (cI, 3, .inl fM3)), (a4, .inl (cI, 3, .inl fM3)), (a5, .inl (cI, 3, .inl fM3)), (a6, .inl (cI, 3, .inl fM3)), (a7, .inl (cI, 3, .inl fM3)), (a8, .inl (cI, 3, .inl fM3)), (a9, .inl (cI, 3, .inl fM3))]) [0, 2, 3, 4, 5, 6, 7, 8, 9, 10, 11, 12] rfl
                    have hDc := hD.sub (ws' := [(a, .inr (3, [.int 0, .int 0, .ref aL, .ref aK, .ref aV, .ref aN, .ref aS, .ref aB, .int 0])), (aN, .inl (cN, 10, .inr (.inr (.inr (.inr (fch a0 a1 a2 a3 a4 a5 a6 a7 a8 a9)))))), (a0, .inl (cI, 3, .inl fM3)), (a1, .inl (cI, 3, .inl fM3)), (a2, .inl (cI, 3, .inl fM3)), (a3, .inl (cI, 3, .inl fM3)), (a4, .inl (cI, 3, .inl fM3)), (a5, .inl (cI, 3, .inl fM3)), (a6, .inl (cI, 3, .inl fM3)), (a7, .inl (cI, 3, .inl fM3)), (a8, .inl (cI, 3, .inl fM3)), (a9, .inl (cI, 3, .inl fM3))]) [0, 2, 3, 4, 5, 6, 7, 8, 9, 10, 11, 12] (by decide) rfl
                    have hKc := hK.sub (tys' := [(cN, .array .int), (cI, .int)]) [0, 1] rfl
                    have hFc := va_free (wc := [(a, .inr (3, [.int 0, .int 0, .ref aL, .ref aK, .ref aV, .ref aN, .ref aS, .ref aB, .int 0])), (aN, .inl (cN, 10, .inr (.inr (.inr (.inr (fch a0 a1 a2 a3 a4 a5 a6 a7 a8 a9)))))), (a0, .inl (cI, 3, .inl fM3)), (a1, .inl (cI, 3, .inl fM3)), (a2, .inl (cI, 3, .inl fM3)), (a3, .inl (cI, 3, .inl fM3)), (a4, .inl (cI, 3, .inl fM3)), (a5, .inl (cI, 3, .inl fM3)), (a6, .inl (cI, 3, .inl fM3)), (a7, .inl (cI, 3, .inl fM3)), (a8, .inl (cI, 3, .inl fM3)), (a9, .inl (cI, 3, .inl fM3))]) hD hS hA [0, 2, 3, 4, 5, 6, 7, 8, 9, 10, 11, 12] rfl
                    refine va_calli (va_runV (As := [.int (nI j)]) (rest := []) ⟨hx, hb, hml, hown, hts⟩ (kX0_nearest l dC dI a aL aK aV aN aS aB a0 a1 a2 a3 a4 a5 a6 a7 a8 a9 cI cN (nI j) H.size) (cwV 1 hts gX0_measure_X0_nearest rfl rfl rfl (by decide +kernel) ⟨Nat.le_of_ble_eq_true rfl, Nat.le_of_ble_eq_true rfl⟩) (fPreV hN hZ hS (fun q h => hFc q h) hPc hKc hDc (ci := 3) (q0 := 0) rfl rfl) rfl rfl hl.1 rfl (lv_room (Nat.le_of_ble_eq_true rfl)) dX0_measure_54 ⟨Nat.le_of_ble_eq_true rfl, Nat.le_of_ble_eq_true rfl⟩) hS (fun q _ h => hFc q h) hFc (fun r u t H1 locs ht hvm hw hB hz1 hk1 hS => ?_)
                    obtain ⟨hP1, hK1, hD1⟩ := hB
                    rw [ht] at hP1
                    have hK1 := va_K.moved hvm.symm hK1
                    obtain ⟨hP, hD⟩ := va_join (wr := [(aS, .inl (cI, 10, .inl g_aS))]) (w1 := [(a, .inr (3, [.int 0, .int 0, .ref aL, .ref aK, .ref aV, .ref aN, .ref aS, .ref aB, .int 0])), (aN, .inl (cN, 10, .inr (.inr (.inr (.inr (fch a0 a1 a2 a3 a4 a5 a6 a7 a8 a9)))))), (a0, .inl (cI, 3, .inl fM3)), (a1, .inl (cI, 3, .inl fM3)), (a2, .inl (cI, 3, .inl fM3)), (a3, .inl (cI, 3, .inl fM3)), (a4, .inl (cI, 3, .inl fM3)), (a5, .inl (cI, 3, .inl fM3)), (a6, .inl (cI, 3, .inl fM3)), (a7, .inl (cI, 3, .inl fM3)), (a8, .inl (cI, 3, .inl fM3)), (a9, .inl (cI, 3, .inl fM3))]) hP hD [0, 2, 3, 4, 5, 6, 7, 8, 9, 10, 11, 12] [1] rfl rfl (by decide) (by decide) hk1 hFc hP1 hD1
                    generalize H1 = H at hP hS ⊢
                    have hP : va_P (dC, dI) vwCl [(aS, .inl (cI, 10, .inl g_aS)), (a, .inr (3, [.int 0, .int 0, .ref aL, .ref aK, .ref aV, .ref aN, .ref aS, .ref aB, .int 0])), (aN, .inl (cN, 10, .inr (.inr (.inr (.inr (fch a0 a1 a2 a3 a4 a5 a6 a7 a8 a9)))))), (a0, .inl (cI, 3, .inl fM3)), (a1, .inl (cI, 3, .inl fM3)), (a2, .inl (cI, 3, .inl fM3)), (a3, .inl (cI, 3, .inl fM3)), (a4, .inl (cI, 3, .inl fM3)), (a5, .inl (cI, 3, .inl fM3)), (a6, .inl (cI, 3, .inl fM3)), (a7, .inl (cI, 3, .inl fM3)), (a8, .inl (cI, 3, .inl fM3)), (a9, .inl (cI, 3, .inl fM3))] _ := hP
                    have hD : va_D A [(aS, .inl (cI, 10, .inl g_aS)), (a, .inr (3, [.int 0, .int 0, .ref aL, .ref aK, .ref aV, .ref aN, .ref aS, .ref aB, .int 0])), (aN, .inl (cN, 10, .inr (.inr (.inr (.inr (fch a0 a1 a2 a3 a4 a5 a6 a7 a8 a9)))))), (a0, .inl (cI, 3, .inl fM3)), (a1, .inl (cI, 3, .inl fM3)), (a2, .inl (cI, 3, .inl fM3)), (a3, .inl (cI, 3, .inl fM3)), (a4, .inl (cI, 3, .inl fM3)), (a5, .inl (cI, 3, .inl fM3)), (a6, .inl (cI, 3, .inl fM3)), (a7, .inl (cI, 3, .inl fM3)), (a8, .inl (cI, 3, .inl fM3)), (a9, .inl (cI, 3, .inl fM3))] := hD
                    subst hw
                    refine lv_iload_n hx hb dX0_measure_57 rfl (lv_at hl 1 rfl) ?_
                    refine lv_iconst (v := 1) hx hb dX0_measure_58 (by decide) ?_
                    refine lv_isub hx hb dX0_measure_59 ?_
                    refine lv_icmp_ne (tgt := 69) hx hb dX0_measure_60 (by decide) (fun _ => ?_) (fun h9 => absurd h9 (f99 (by omega)))
                    refine lv_iinc (v := (nI (j + 1))) (lv' := [(2, .int (nI (j + 1))), (1, .int (nI i)), (0, .ref a)]) hx hb dX0_measure_69 hl (k := 0) rfl (nI_1 _) (Nat.le_of_ble_eq_true rfl) rfl (fun ls hl => ?_)
                    refine lv_goto (tgt := 46) hx hb dX0_measure_72 (by decide) ?_
                    exact ihj (j + 1) hltj (by omega) _ _ _ (lv_sub hl [0, 1, 2] rfl) (hP.sub [1, 0, 2, 3, 4, 5, 6, 7, 8, 9, 10, 11, 12] rfl) (hD.sub [1, 0, 2, 3, 4, 5, 6, 7, 8, 9, 10, 11, 12] (by decide) rfl) hS
                  · skip
                    refine lv_iload_n hx hb dX0_measure_46 rfl (lv_at hl 0 rfl) ?_
                    refine lv_bipush (v := 10) hx hb dX0_measure_47 (by decide) ?_
                    refine lv_icmp_ge (tgt := 75) hx hb dX0_measure_49 (by decide) (fun _ => ?_) (fun h9 => absurd (show nI 10 ≤ nI j from nI_le hgej (Nat.lt_of_le_of_lt hj (by decide))) h9)
                    refine lv_iinc (v := (nI (i + 1))) (lv' := [(1, .int (nI (i + 1))), (2, .int (nI j)), (0, .ref a)]) hx hb dX0_measure_75 hl (k := 1) rfl (nI_1 _) (Nat.le_of_ble_eq_true rfl) rfl (fun ls hl => ?_)
                    refine lv_goto (tgt := 38) hx hb dX0_measure_78 (by decide) ?_
                    exact ih (i + 1) hlt (by omega) _ _ _ (lv_sub hl [0, 2] rfl) (hP.sub [0, 1, 2, 3, 4, 5, 6, 7, 8, 9, 10, 11, 12] rfl) (hD.sub [0, 1, 2, 3, 4, 5, 6, 7, 8, 9, 10, 11, 12] (by decide) rfl) hS
              exact lp46 (10 + 1) 0 (Nat.le_of_ble_eq_true rfl) (by decide) _ _ _ (lv_sub hl [0, 1, 2] rfl) (hP.sub [0, 1, 2, 3, 4, 5, 6, 7, 8, 9, 10, 11, 12] rfl) (hD.sub [0, 1, 2, 3, 4, 5, 6, 7, 8, 9, 10, 11, 12] (by decide) rfl) hS
            · skip
              refine lv_iload_n hx hb dX0_measure_38 rfl (lv_at hl 0 rfl) ?_
              refine lv_bipush (v := 10) hx hb dX0_measure_39 (by decide) ?_
              refine lv_icmp_ge (tgt := 81) hx hb dX0_measure_41 (by decide) (fun _ => ?_) (fun h9 => absurd (show nI 10 ≤ nI i from nI_le hge (Nat.lt_of_le_of_lt hi (by decide))) h9)
              exact ret g_aS _ _ _ _ _ _ (trivial) (hP.sub [0, 1, 2, 3, 4, 5, 6, 7, 8, 9, 10, 11, 12] rfl) (hK.sub [0, 1] rfl) (hD.sub [0, 1, 2, 3, 4, 5, 6, 7, 8, 9, 10, 11, 12] (by decide) rfl) hS (Nat.le_of_ble_eq_true rfl) (Nat.le_of_ble_eq_true rfl) dX0_measure_81
        exact lp38 (10 + 1) 1 (Nat.le_of_ble_eq_true rfl) (by decide) _ _ _ (lv_sub hl [0, 1] rfl) (hP.sub [0, 1, 2, 3, 4, 5, 6, 7, 8, 9, 10, 11, 12] rfl) (hD.sub [0, 1, 2, 3, 4, 5, 6, 7, 8, 9, 10, 11, 12] (by decide) rfl) hS
  exact lp2 (10 + 1) 0 (Nat.le_of_ble_eq_true rfl) (by decide) ga _ _ _ (lv_sub hl [0, 1] rfl) (hP.sub [0, 1, 2, 3, 4, 5, 6, 7, 8, 9, 10, 11, 12] rfl) (hD.sub [0, 1, 2, 3, 4, 5, 6, 7, 8, 9, 10, 11, 12] (by decide) rfl) hS

set_option maxHeartbeats 4000000 in
set_option maxRecDepth 100000 in
/-- countParts of an empty circuit -/
theorem kX0_countParts (l : Launch) (dC : Nat → ClassId) (dI : Nat → Nat → Nat) (a aL aK aV aN aS aB : Nat) (cI : ClassId) (sz : Nat) : fMi l yX0_countParts wsX0_countParts ({ frames := 0, cells := 0, slots := 0, locals := 0 } : Room) dC dI [.ref a] [(a, .inr (3, [.int 0, .int 0, .ref aL, .ref aK, .ref aV, .ref aN, .ref aS, .ref aB, .int 0])), (aV, .inl (cI, 10, .inl (fun _ => 0)))] [(cI, .int)] sz (fun (r : Int32) (u : Unit) => r = 0) (fun u => [(a, .inr (3, [.int 0, .int 0, .ref aL, .ref aK, .ref aV, .ref aN, .ref aS, .ref aB, .int 0])), (aV, .inl (cI, 10, .inl (fun _ => 0)))]) (fun u => [(cI, .int)]) := by
  refine oP_i (y := yX0_countParts) (cc := cX0_countParts) (maxL := 3) (by decide) rfl (Nat.le_of_ble_eq_true rfl) ?_
  intro p e s m args below meth c ls A Q hx hb hr hml hown hts hN hZ hA hin hlk hP hK hD hl ret
  have hS : va_S A s.heap s.heap [] := va_S.rf
  have hl : lv_has ls 3 [(0, .ref a)] := hl
  have hP : va_P (dC, dI) vwCl [(a, .inr (3, [.int 0, .int 0, .ref aL, .ref aK, .ref aV, .ref aN, .ref aS, .ref aB, .int 0])), (aV, .inl (cI, 10, .inl (fun _ => 0)))] _ := hP
  have hD : va_D A [(a, .inr (3, [.int 0, .int 0, .ref aL, .ref aK, .ref aV, .ref aN, .ref aS, .ref aB, .int 0])), (aV, .inl (cI, 10, .inl (fun _ => 0)))] := hD
  refine lv_iconst (v := 0) hx hb dX0_countParts_0 (by decide) ?_
  refine lv_istore_n (lv' := [(1, .int 0), (0, .ref a)]) hx hb dX0_countParts_1 rfl hl (Nat.le_of_ble_eq_true rfl) rfl (fun ls hl => ?_)
  refine lv_iconst (v := 0) hx hb dX0_countParts_2 (by decide) ?_
  refine lv_istore_n (lv' := [(2, .int 0), (1, .int 0), (0, .ref a)]) hx hb dX0_countParts_3 rfl hl (Nat.le_of_ble_eq_true rfl) rfl (fun ls hl => ?_)
  have lp4 : ∀ (n i : Nat), i ≤ 10 → 10 - i < n → ∀  (ls : Array Slot) (H : Heap) (locs : List Loc), lv_has ls 3 [(2, .int (nI i)), (1, .int 0), (0, .ref a)] → va_P (dC, dI) vwCl [(a, .inr (3, [.int 0, .int 0, .ref aL, .ref aK, .ref aV, .ref aN, .ref aS, .ref aB, .int 0])), (aV, .inl (cI, 10, .inl (fun _ => 0)))] H → va_D A [(a, .inr (3, [.int 0, .int 0, .ref aL, .ref aK, .ref aV, .ref aN, .ref aS, .ref aB, .int 0])), (aV, .inl (cI, 10, .inl (fun _ => 0)))] → va_S A s.heap H locs → W p l e ({ frames := 0, cells := 0, slots := 0, locals := 0 } : Room) s m args below meth c H locs 0 0 Q (F0 m 4 ls []) := by
    intro n
    induction n with
    | zero => intro i _ h9; exact absurd h9 (Nat.not_lt_zero _)
    | succ n ih =>
      intro i hi ni  ls H locs hl hP hD hS
      rcases Nat.lt_or_ge i 10 with hlt | hge
      · skip
        refine lv_iload_n hx hb dX0_countParts_4 rfl (lv_at hl 0 rfl) ?_
        refine lv_bipush (v := 10) hx hb dX0_countParts_5 (by decide) ?_
        refine lv_icmp_ge (tgt := 28) hx hb dX0_countParts_7 (by decide) (fun h9 => absurd h9 (show ¬ nI 10 ≤ nI i from nI_ge hlt (by decide))) (fun _ => ?_)
        refine lv_aload_n hx hb dX0_countParts_10 rfl (lv_at hl 2 rfl) ?_
        refine va_get (D := (dC, dI)) (ci := 3) (v := .ref aV) (C := RX0) (T := TX0) (N := 9) hx hb hts (fun w h => List.mem_cons_of_mem _ (List.mem_append_left _ (List.mem_append_right _ (h)))) hown hK hP 0 rfl rfl 4 (by decide) (hts (.fieldLink RX0 18 "Netcompare$Circuit" "value" "[I") (List.mem_cons_of_mem _ (List.mem_append_left _ (List.mem_append_left _ (List.mem_of_getElem? (i := 0) rfl))))) (fun _ h9 => h9) rfl dX0_countParts_11 ?_
        refine lv_iload_n hx hb dX0_countParts_14 rfl (lv_at hl 0 rfl) ?_
        refine va_iald hx hb hK hP 1 0 rfl rfl (vp_in_nI (Nat.lt_of_lt_of_le hlt (by decide)) (by decide)) dX0_countParts_15 ?_
        refine W.eq (g2 := F0 m 16 ls [.int 0]) rfl ?_
        refine lv_if_le (tgt := 22) hx hb dX0_countParts_16 (by decide) (fun _ => ?_) (fun h9 => absurd (by decide) h9)
        refine lv_iinc (v := (nI (i + 1))) (lv' := [(2, .int (nI (i + 1))), (1, .int 0), (0, .ref a)]) hx hb dX0_countParts_22 hl (k := 0) rfl (nI_1 _) (Nat.le_of_ble_eq_true rfl) rfl (fun ls hl => ?_)
        refine lv_goto (tgt := 4) hx hb dX0_countParts_25 (by decide) ?_
        exact ih (i + 1) hlt (by omega) _ _ _ (lv_sub hl [0, 1, 2] rfl) (hP.sub [0, 1] rfl) (hD.sub [0, 1] (by decide) rfl) hS
      · skip
        refine lv_iload_n hx hb dX0_countParts_4 rfl (lv_at hl 0 rfl) ?_
        refine lv_bipush (v := 10) hx hb dX0_countParts_5 (by decide) ?_
        refine lv_icmp_ge (tgt := 28) hx hb dX0_countParts_7 (by decide) (fun _ => ?_) (fun h9 => absurd (show nI 10 ≤ nI i from nI_le hge (Nat.lt_of_le_of_lt hi (by decide))) h9)
        refine lv_iload_n hx hb dX0_countParts_28 rfl (lv_at hl 1 rfl) ?_
        exact ret _ () _ _ _ _ _ _ (rfl) (hP.sub [0, 1] rfl) (hK.sub [0] rfl) (hD.sub [0, 1] (by decide) rfl) hS (Nat.le_of_ble_eq_true rfl) (Nat.le_of_ble_eq_true rfl) dX0_countParts_29
  exact lp4 (10 + 1) 0 (Nat.le_of_ble_eq_true rfl) (by decide) _ _ _ (lv_sub hl [0, 1, 2] rfl) (hP.sub [0, 1] rfl) (hD.sub [0, 1] (by decide) rfl) hS

set_option maxHeartbeats 4000000 in
set_option maxRecDepth 100000 in
/-- wayToJoin of an empty circuit -/
theorem kX0_wayToJoin (l : Launch) (dC : Nat → ClassId) (dI : Nat → Nat → Nat) (a aL aK aV aN aS aB : Nat) (cI : ClassId) (p0 p1 : Int32) (sz : Nat) : fMi l yX0_wayToJoin wsX0_wayToJoin ({ frames := 1, cells := 0, slots := 0, locals := 21 } : Room) dC dI [.ref a, .int p0, .int p1] [(a, .inr (3, [.int 0, .int 0, .ref aL, .ref aK, .ref aV, .ref aN, .ref aS, .ref aB, .int 0])), (aV, .inl (cI, 10, .inl (fun _ => 0)))] [(cI, .int)] sz (fun (r : Int32) (u : Unit) => r = 45) (fun u => [(a, .inr (3, [.int 0, .int 0, .ref aL, .ref aK, .ref aV, .ref aN, .ref aS, .ref aB, .int 0])), (aV, .inl (cI, 10, .inl (fun _ => 0)))]) (fun u => [(cI, .int)]) := by
  refine oP_z (y := yX0_wayToJoin) (cc := cX0_wayToJoin) (maxL := 4) (by decide) rfl (Nat.le_of_ble_eq_true rfl) ?_
  intro p e s m args below meth c ls A Q hx hb hr hml hown hts hN hZ hA hin hlk hP hK hD hl ret
  have hS : va_S A s.heap s.heap [] := va_S.rf
  have hl : lv_has ls 4 [(0, .ref a), (1, .int p0), (2, .int p1)] := hl
  have hP : va_P (dC, dI) vwCl [(a, .inr (3, [.int 0, .int 0, .ref aL, .ref aK, .ref aV, .ref aN, .ref aS, .ref aB, .int 0])), (aV, .inl (cI, 10, .inl (fun _ => 0)))] _ := hP
  have hD : va_D A [(a, .inr (3, [.int 0, .int 0, .ref aL, .ref aK, .ref aV, .ref aN, .ref aS, .ref aB, .int 0])), (aV, .inl (cI, 10, .inl (fun _ => 0)))] := hD
  refine lv_aload_n hx hb dX0_wayToJoin_0 rfl (lv_at hl 0 rfl) ?_
  refine lv_iload_n hx hb dX0_wayToJoin_1 rfl (lv_at hl 1 rfl) ?_
  have hPc := hP.sub (ws' := [(a, .inr (3, [.int 0, .int 0, .ref aL, .ref aK, .ref aV, .ref aN, .ref aS, .ref aB, .int 0])), (aV, .inl (cI, 10, .inl (fun _ => 0)))]) [0, 1] rfl
  have hDc := hD.sub (ws' := [(a, .inr (3, [.int 0, .int 0, .ref aL, .ref aK, .ref aV, .ref aN, .ref aS, .ref aB, .int 0])), (aV, .inl (cI, 10, .inl (fun _ => 0)))]) [0, 1] (by decide) rfl
  have hKc := hK.sub (tys' := [(cI, .int)]) [0] rfl
  have hFc := va_free (wc := [(a, .inr (3, [.int 0, .int 0, .ref aL, .ref aK, .ref aV, .ref aN, .ref aS, .ref aB, .int 0])), (aV, .inl (cI, 10, .inl (fun _ => 0)))]) hD hS hA [0, 1] rfl
  refine va_calli (va_runV (As := [.int p0]) (rest := []) ⟨hx, hb, hml, hown, hts⟩ (kX0_kindAt l dC dI a aL aK aV aN aS aB cI p0 s.heap.size) (cwV 1 hts gX0_wayToJoin_X0_kindAt rfl rfl rfl (by decide +kernel) ⟨Nat.le_of_ble_eq_true rfl, Nat.le_of_ble_eq_true rfl⟩) (fPreV hN hZ hS (fun q h => hFc q h) hPc hKc hDc (ci := 3) (q0 := 0) rfl rfl) rfl rfl hl.1 rfl (lv_room (Nat.le_of_ble_eq_true rfl)) dX0_wayToJoin_2 ⟨Nat.le_of_ble_eq_true rfl, Nat.le_of_ble_eq_true rfl⟩) hS (fun q _ h => hFc q h) hFc (fun r u t H1 locs ht hvm hw hB hz1 hk1 hS => ?_)
  obtain ⟨hP1, hK1, hD1⟩ := hB
  rw [ht] at hP1
  have hK1 := va_K.moved hvm.symm hK1
  obtain ⟨hP, hD⟩ := va_join (wr := []) (w1 := [(a, .inr (3, [.int 0, .int 0, .ref aL, .ref aK, .ref aV, .ref aN, .ref aS, .ref aB, .int 0])), (aV, .inl (cI, 10, .inl (fun _ => 0)))]) hP hD [0, 1] [] rfl rfl (by decide) (by decide) hk1 hFc hP1 hD1
  generalize H1 = H at hP hS ⊢
  have hP : va_P (dC, dI) vwCl [(a, .inr (3, [.int 0, .int 0, .ref aL, .ref aK, .ref aV, .ref aN, .ref aS, .ref aB, .int 0])), (aV, .inl (cI, 10, .inl (fun _ => 0)))] _ := hP
  have hD : va_D A [(a, .inr (3, [.int 0, .int 0, .ref aL, .ref aK, .ref aV, .ref aN, .ref aS, .ref aB, .int 0])), (aV, .inl (cI, 10, .inl (fun _ => 0)))] := hD
  subst hw
  refine lv_istore_n (lv' := [(3, .int 45), (0, .ref a), (1, .int p0), (2, .int p1)]) hx hb dX0_wayToJoin_5 rfl hl (Nat.le_of_ble_eq_true rfl) rfl (fun ls hl => ?_)
  refine lv_iload_n hx hb dX0_wayToJoin_6 rfl (lv_at hl 2 rfl) ?_
  refine lv_iload_n hx hb dX0_wayToJoin_7 rfl (lv_at hl 3 rfl) ?_
  refine lv_icmp_eq (tgt := 32) hx hb dX0_wayToJoin_8 (by decide) (fun h1 => ?_) (fun h1 => ?_)
  · skip
    refine lv_bipush (v := 45) hx hb dX0_wayToJoin_32 (by decide) ?_
    exact ret _ () _ _ _ _ _ _ (rfl) (rfl) (hP.sub [0, 1] rfl) (hK.sub [0] rfl) (hD.sub [0, 1] (by decide) rfl) hS (Nat.le_of_ble_eq_true rfl) (Nat.le_of_ble_eq_true rfl) dX0_wayToJoin_34
  · skip
    refine lv_iload_n hx hb dX0_wayToJoin_11 rfl (lv_at hl 0 rfl) ?_
    refine lv_aload_n hx hb dX0_wayToJoin_12 rfl (lv_at hl 1 rfl) ?_
    refine lv_iload_n hx hb dX0_wayToJoin_13 rfl (lv_at hl 3 rfl) ?_
    have hPc := hP.sub (ws' := [(a, .inr (3, [.int 0, .int 0, .ref aL, .ref aK, .ref aV, .ref aN, .ref aS, .ref aB, .int 0])), (aV, .inl (cI, 10, .inl (fun _ => 0)))]) [0, 1] rfl
    have hDc := hD.sub (ws' := [(a, .inr (3, [.int 0, .int 0, .ref aL, .ref aK, .ref aV, .ref aN, .ref aS, .ref aB, .int 0])), (aV, .inl (cI, 10, .inl (fun _ => 0)))]) [0, 1] (by decide) rfl
    have hKc := hK.sub (tys' := [(cI, .int)]) [0] rfl
    have hFc := va_free (wc := [(a, .inr (3, [.int 0, .int 0, .ref aL, .ref aK, .ref aV, .ref aN, .ref aS, .ref aB, .int 0])), (aV, .inl (cI, 10, .inl (fun _ => 0)))]) hD hS hA [0, 1] rfl
    refine va_calli (va_runV (As := [.int p1]) (rest := [.int 45]) ⟨hx, hb, hml, hown, hts⟩ (kX0_kindAt l dC dI a aL aK aV aN aS aB cI p1 H.size) (cwV 1 hts gX0_wayToJoin_X0_kindAt rfl rfl rfl (by decide +kernel) ⟨Nat.le_of_ble_eq_true rfl, Nat.le_of_ble_eq_true rfl⟩) (fPreV hN hZ hS (fun q h => hFc q h) hPc hKc hDc (ci := 3) (q0 := 0) rfl rfl) rfl rfl hl.1 rfl (lv_room (Nat.le_of_ble_eq_true rfl)) dX0_wayToJoin_14 ⟨Nat.le_of_ble_eq_true rfl, Nat.le_of_ble_eq_true rfl⟩) hS (fun q _ h => hFc q h) hFc (fun r u t H1 locs ht hvm hw hB hz1 hk1 hS => ?_)
    obtain ⟨hP1, hK1, hD1⟩ := hB
    rw [ht] at hP1
    have hK1 := va_K.moved hvm.symm hK1
    obtain ⟨hP, hD⟩ := va_join (wr := []) (w1 := [(a, .inr (3, [.int 0, .int 0, .ref aL, .ref aK, .ref aV, .ref aN, .ref aS, .ref aB, .int 0])), (aV, .inl (cI, 10, .inl (fun _ => 0)))]) hP hD [0, 1] [] rfl rfl (by decide) (by decide) hk1 hFc hP1 hD1
    generalize H1 = H at hP hS ⊢
    have hP : va_P (dC, dI) vwCl [(a, .inr (3, [.int 0, .int 0, .ref aL, .ref aK, .ref aV, .ref aN, .ref aS, .ref aB, .int 0])), (aV, .inl (cI, 10, .inl (fun _ => 0)))] _ := hP
    have hD : va_D A [(a, .inr (3, [.int 0, .int 0, .ref aL, .ref aK, .ref aV, .ref aN, .ref aS, .ref aB, .int 0])), (aV, .inl (cI, 10, .inl (fun _ => 0)))] := hD
    subst hw
    refine lv_icmp_ne (tgt := 32) hx hb dX0_wayToJoin_17 (by decide) (fun h9 => absurd (by decide) h9) (fun _ => ?_)
    refine lv_iload_n hx hb dX0_wayToJoin_20 rfl (lv_at hl 0 rfl) ?_
    refine lv_bipush (v := 114) hx hb dX0_wayToJoin_21 (by decide) ?_
    refine lv_icmp_eq (tgt := 35) hx hb dX0_wayToJoin_23 (by decide) (fun h9 => absurd h9 (by decide)) (fun _ => ?_)
    refine lv_iload_n hx hb dX0_wayToJoin_26 rfl (lv_at hl 0 rfl) ?_
    refine lv_bipush (v := 99) hx hb dX0_wayToJoin_27 (by decide) ?_
    refine lv_icmp_eq (tgt := 35) hx hb dX0_wayToJoin_29 (by decide) (fun h9 => absurd h9 (by decide)) (fun _ => ?_)
    refine lv_bipush (v := 45) hx hb dX0_wayToJoin_32 (by decide) ?_
    exact ret _ () _ _ _ _ _ _ (rfl) (rfl) (hP.sub [0, 1] rfl) (hK.sub [0] rfl) (hD.sub [0, 1] (by decide) rfl) hS (Nat.le_of_ble_eq_true rfl) (Nat.le_of_ble_eq_true rfl) dX0_wayToJoin_34

set_option maxHeartbeats 4000000 in
set_option maxRecDepth 100000 in
/-- joinPair of an empty circuit -/
theorem kX0_joinPair (l : Launch) (dC : Nat → ClassId) (dI : Nat → Nat → Nat) (a aL aK aV aN aS aB : Nat) (cI : ClassId) (p0 p1 : Int32) (sz : Nat) : fMi l yX0_joinPair wsX0_joinPair ({ frames := 2, cells := 0, slots := 0, locals := 44 } : Room) dC dI [.ref a, .int p0, .int p1] [(a, .inr (3, [.int 0, .int 0, .ref aL, .ref aK, .ref aV, .ref aN, .ref aS, .ref aB, .int 0])), (aV, .inl (cI, 10, .inl (fun _ => 0)))] [(cI, .int)] sz (fun (r : Int32) (u : Unit) => r = 0) (fun u => [(a, .inr (3, [.int 0, .int 0, .ref aL, .ref aK, .ref aV, .ref aN, .ref aS, .ref aB, .int 0])), (aV, .inl (cI, 10, .inl (fun _ => 0)))]) (fun u => [(cI, .int)]) := by
  refine oP_i (y := yX0_joinPair) (cc := cX0_joinPair) (maxL := 8) (by decide) rfl (Nat.le_of_ble_eq_true rfl) ?_
  intro p e s m args below meth c ls A Q hx hb hr hml hown hts hN hZ hA hin hlk hP hK hD hl ret
  have hS : va_S A s.heap s.heap [] := va_S.rf
  have hl : lv_has ls 8 [(0, .ref a), (1, .int p0), (2, .int p1)] := hl
  have hP : va_P (dC, dI) vwCl [(a, .inr (3, [.int 0, .int 0, .ref aL, .ref aK, .ref aV, .ref aN, .ref aS, .ref aB, .int 0])), (aV, .inl (cI, 10, .inl (fun _ => 0)))] _ := hP
  have hD : va_D A [(a, .inr (3, [.int 0, .int 0, .ref aL, .ref aK, .ref aV, .ref aN, .ref aS, .ref aB, .int 0])), (aV, .inl (cI, 10, .inl (fun _ => 0)))] := hD
  refine lv_aload_n hx hb dX0_joinPair_0 rfl (lv_at hl 0 rfl) ?_
  refine lv_iload_n hx hb dX0_joinPair_1 rfl (lv_at hl 1 rfl) ?_
  refine lv_iload_n hx hb dX0_joinPair_2 rfl (lv_at hl 2 rfl) ?_
  have hPc := hP.sub (ws' := [(a, .inr (3, [.int 0, .int 0, .ref aL, .ref aK, .ref aV, .ref aN, .ref aS, .ref aB, .int 0])), (aV, .inl (cI, 10, .inl (fun _ => 0)))]) [0, 1] rfl
  have hDc := hD.sub (ws' := [(a, .inr (3, [.int 0, .int 0, .ref aL, .ref aK, .ref aV, .ref aN, .ref aS, .ref aB, .int 0])), (aV, .inl (cI, 10, .inl (fun _ => 0)))]) [0, 1] (by decide) rfl
  have hKc := hK.sub (tys' := [(cI, .int)]) [0] rfl
  have hFc := va_free (wc := [(a, .inr (3, [.int 0, .int 0, .ref aL, .ref aK, .ref aV, .ref aN, .ref aS, .ref aB, .int 0])), (aV, .inl (cI, 10, .inl (fun _ => 0)))]) hD hS hA [0, 1] rfl
  refine va_calli (va_runV (As := [.int p0, .int p1]) (rest := []) ⟨hx, hb, hml, hown, hts⟩ (kX0_wayToJoin l dC dI a aL aK aV aN aS aB cI p0 p1 s.heap.size) (cwV 2 hts gX0_joinPair_X0_wayToJoin rfl rfl rfl (by decide +kernel) ⟨Nat.le_of_ble_eq_true rfl, Nat.le_of_ble_eq_true rfl⟩) (fPreV hN hZ hS (fun q h => hFc q h) hPc hKc hDc (ci := 3) (q0 := 0) rfl rfl) rfl rfl hl.1 rfl (lv_room (Nat.le_of_ble_eq_true rfl)) dX0_joinPair_3 ⟨Nat.le_of_ble_eq_true rfl, Nat.le_of_ble_eq_true rfl⟩) hS (fun q _ h => hFc q h) hFc (fun r u t H1 locs ht hvm hw hB hz1 hk1 hS => ?_)
  obtain ⟨hP1, hK1, hD1⟩ := hB
  rw [ht] at hP1
  have hK1 := va_K.moved hvm.symm hK1
  obtain ⟨hP, hD⟩ := va_join (wr := []) (w1 := [(a, .inr (3, [.int 0, .int 0, .ref aL, .ref aK, .ref aV, .ref aN, .ref aS, .ref aB, .int 0])), (aV, .inl (cI, 10, .inl (fun _ => 0)))]) hP hD [0, 1] [] rfl rfl (by decide) (by decide) hk1 hFc hP1 hD1
  generalize H1 = H at hP hS ⊢
  have hP : va_P (dC, dI) vwCl [(a, .inr (3, [.int 0, .int 0, .ref aL, .ref aK, .ref aV, .ref aN, .ref aS, .ref aB, .int 0])), (aV, .inl (cI, 10, .inl (fun _ => 0)))] _ := hP
  have hD : va_D A [(a, .inr (3, [.int 0, .int 0, .ref aL, .ref aK, .ref aV, .ref aN, .ref aS, .ref aB, .int 0])), (aV, .inl (cI, 10, .inl (fun _ => 0)))] := hD
  subst hw
  refine lv_istore_n (lv' := [(3, .int 45), (0, .ref a), (1, .int p0), (2, .int p1)]) hx hb dX0_joinPair_6 rfl hl (Nat.le_of_ble_eq_true rfl) rfl (fun ls hl => ?_)
  refine lv_iload_n hx hb dX0_joinPair_7 rfl (lv_at hl 0 rfl) ?_
  refine lv_bipush (v := 45) hx hb dX0_joinPair_8 (by decide) ?_
  refine lv_icmp_ne (tgt := 15) hx hb dX0_joinPair_10 (by decide) (fun h9 => absurd (by decide) h9) (fun _ => ?_)
  refine lv_iconst (v := 0) hx hb dX0_joinPair_13 (by decide) ?_
  exact ret _ () _ _ _ _ _ _ (rfl) (hP.sub [0, 1] rfl) (hK.sub [0] rfl) (hD.sub [0, 1] (by decide) rfl) hS (Nat.le_of_ble_eq_true rfl) (Nat.le_of_ble_eq_true rfl) dX0_joinPair_14

set_option maxHeartbeats 4000000 in
set_option maxRecDepth 100000 in
/-- joinFirstPair of an empty circuit -/
theorem kX0_joinFirstPair (l : Launch) (dC : Nat → ClassId) (dI : Nat → Nat → Nat) (a aL aK aV aN aS aB : Nat) (cI : ClassId) (sz : Nat) : fMi l yX0_joinFirstPair wsX0_joinFirstPair ({ frames := 3, cells := 0, slots := 0, locals := 71 } : Room) dC dI [.ref a] [(a, .inr (3, [.int 0, .int 0, .ref aL, .ref aK, .ref aV, .ref aN, .ref aS, .ref aB, .int 0])), (aV, .inl (cI, 10, .inl (fun _ => 0)))] [(cI, .int)] sz (fun (r : Int32) (u : Unit) => r = 0) (fun u => [(a, .inr (3, [.int 0, .int 0, .ref aL, .ref aK, .ref aV, .ref aN, .ref aS, .ref aB, .int 0])), (aV, .inl (cI, 10, .inl (fun _ => 0)))]) (fun u => [(cI, .int)]) := by
  refine oP_z (y := yX0_joinFirstPair) (cc := cX0_joinFirstPair) (maxL := 3) (by decide) rfl (Nat.le_of_ble_eq_true rfl) ?_
  intro p e s m args below meth c ls A Q hx hb hr hml hown hts hN hZ hA hin hlk hP hK hD hl ret
  have hS : va_S A s.heap s.heap [] := va_S.rf
  have hl : lv_has ls 3 [(0, .ref a)] := hl
  have hP : va_P (dC, dI) vwCl [(a, .inr (3, [.int 0, .int 0, .ref aL, .ref aK, .ref aV, .ref aN, .ref aS, .ref aB, .int 0])), (aV, .inl (cI, 10, .inl (fun _ => 0)))] _ := hP
  have hD : va_D A [(a, .inr (3, [.int 0, .int 0, .ref aL, .ref aK, .ref aV, .ref aN, .ref aS, .ref aB, .int 0])), (aV, .inl (cI, 10, .inl (fun _ => 0)))] := hD
  refine lv_iconst (v := 0) hx hb dX0_joinFirstPair_0 (by decide) ?_
  refine lv_istore_n (lv' := [(1, .int 0), (0, .ref a)]) hx hb dX0_joinFirstPair_1 rfl hl (Nat.le_of_ble_eq_true rfl) rfl (fun ls hl => ?_)
  have lp2 : ∀ (n i : Nat), i ≤ 10 → 10 - i < n → ∀  (ls : Array Slot) (H : Heap) (locs : List Loc), lv_has ls 3 [(1, .int (nI i)), (0, .ref a)] → va_P (dC, dI) vwCl [(a, .inr (3, [.int 0, .int 0, .ref aL, .ref aK, .ref aV, .ref aN, .ref aS, .ref aB, .int 0])), (aV, .inl (cI, 10, .inl (fun _ => 0)))] H → va_D A [(a, .inr (3, [.int 0, .int 0, .ref aL, .ref aK, .ref aV, .ref aN, .ref aS, .ref aB, .int 0])), (aV, .inl (cI, 10, .inl (fun _ => 0)))] → va_S A s.heap H locs → W p l e ({ frames := 3, cells := 0, slots := 0, locals := 71 } : Room) s m args below meth c H locs 0 0 Q (F0 m 2 ls []) := by
    intro n
    induction n with
    | zero => intro i _ h9; exact absurd h9 (Nat.not_lt_zero _)
    | succ n ih =>
      intro i hi ni  ls H locs hl hP hD hS
      rcases Nat.lt_or_ge i 10 with hlt | hge
      · skip
        refine lv_iload_n hx hb dX0_joinFirstPair_2 rfl (lv_at hl 0 rfl) ?_
        refine lv_bipush (v := 10) hx hb dX0_joinFirstPair_3 (by decide) ?_
        refine lv_icmp_ge (tgt := 41) hx hb dX0_joinFirstPair_5 (by decide) (fun h9 => absurd h9 (show ¬ nI 10 ≤ nI i from nI_ge hlt (by decide))) (fun _ => ?_)
        refine lv_iload_n hx hb dX0_joinFirstPair_8 rfl (lv_at hl 0 rfl) ?_
        refine lv_iconst (v := 1) hx hb dX0_joinFirstPair_9 (by decide) ?_
        refine lv_iadd hx hb dX0_joinFirstPair_10 ?_
        refine lv_topi (fun y1 ey1 => ?_)
        obtain rfl : y1 = nI (i + 1) := ey1.trans (nI_1 _)
        refine lv_istore_n (lv' := [(2, .int (nI (i + 1))), (1, .int (nI i)), (0, .ref a)]) hx hb dX0_joinFirstPair_11 rfl hl (Nat.le_of_ble_eq_true rfl) rfl (fun ls hl => ?_)
        have lp12 : ∀ (nj0 j : Nat), j ≤ 10 → 10 - j < nj0 → ∀  (ls : Array Slot) (H : Heap) (locs : List Loc), lv_has ls 3 [(2, .int (nI j)), (1, .int (nI i)), (0, .ref a)] → va_P (dC, dI) vwCl [(a, .inr (3, [.int 0, .int 0, .ref aL, .ref aK, .ref aV, .ref aN, .ref aS, .ref aB, .int 0])), (aV, .inl (cI, 10, .inl (fun _ => 0)))] H → va_D A [(a, .inr (3, [.int 0, .int 0, .ref aL, .ref aK, .ref aV, .ref aN, .ref aS, .ref aB, .int 0])), (aV, .inl (cI, 10, .inl (fun _ => 0)))] → va_S A s.heap H locs → W p l e ({ frames := 3, cells := 0, slots := 0, locals := 71 } : Room) s m args below meth c H locs 0 0 Q (F0 m 12 ls []) := by
          intro nj0
          induction nj0 with
          | zero => intro j _ h9; exact absurd h9 (Nat.not_lt_zero _)
          | succ nj0 ihj =>
            intro j hj nj  ls H locs hl hP hD hS
            rcases Nat.lt_or_ge j 10 with hltj | hgej
            · skip
              refine lv_iload_n hx hb dX0_joinFirstPair_12 rfl (lv_at hl 0 rfl) ?_
              refine lv_bipush (v := 10) hx hb dX0_joinFirstPair_13 (by decide) ?_
              refine lv_icmp_ge (tgt := 35) hx hb dX0_joinFirstPair_15 (by decide) (fun h9 => absurd h9 (show ¬ nI 10 ≤ nI j from nI_ge hltj (by decide))) (fun _ => ?_)
              refine lv_aload_n hx hb dX0_joinFirstPair_18 rfl (lv_at hl 2 rfl) ?_
              refine lv_iload_n hx hb dX0_joinFirstPair_19 rfl (lv_at hl 1 rfl) ?_
              refine lv_iload_n hx hb dX0_joinFirstPair_20 rfl (lv_at hl 0 rfl) ?_
              have hPc := hP.sub (ws' := [(a, .inr (3, [.int 0, .int 0, .ref aL, .ref aK, .ref aV, .ref aN, .ref aS, .ref aB, .int 0])), (aV, .inl (cI, 10, .inl (fun _ => 0)))]) [0, 1] rfl
              have hDc := hD.sub (ws' := [(a, .inr (3, [.int 0, .int 0, .ref aL, .ref aK, .ref aV, .ref aN, .ref aS, .ref aB, .int 0])), (aV, .inl (cI, 10, .inl (fun _ => 0)))]) [0, 1] (by decide) rfl
              have hKc := hK.sub (tys' := [(cI, .int)]) [0] rfl
              have hFc := va_free (wc := [(a, .inr (3, [.int 0, .int 0, .ref aL, .ref aK, .ref aV, .ref aN, .ref aS, .ref aB, .int 0])), (aV, .inl (cI, 10, .inl (fun _ => 0)))]) hD hS hA [0, 1] rfl
              refine va_calli (va_runV (As := [.int (nI i), .int (nI j)]) (rest := []) ⟨hx, hb, hml, hown, hts⟩ (kX0_joinPair l dC dI a aL aK aV aN aS aB cI (nI i) (nI j) H.size) (cwV 2 hts gX0_joinFirstPair_X0_joinPair rfl rfl rfl (by decide +kernel) ⟨Nat.le_of_ble_eq_true rfl, Nat.le_of_ble_eq_true rfl⟩) (fPreV hN hZ hS (fun q h => hFc q h) hPc hKc hDc (ci := 3) (q0 := 0) rfl rfl) rfl rfl hl.1 rfl (lv_room (Nat.le_of_ble_eq_true rfl)) dX0_joinFirstPair_21 ⟨Nat.le_of_ble_eq_true rfl, Nat.le_of_ble_eq_true rfl⟩) hS (fun q _ h => hFc q h) hFc (fun r u t H1 locs ht hvm hw hB hz1 hk1 hS => ?_)
              obtain ⟨hP1, hK1, hD1⟩ := hB
              rw [ht] at hP1
              have hK1 := va_K.moved hvm.symm hK1
              obtain ⟨hP, hD⟩ := va_join (wr := []) (w1 := [(a, .inr (3, [.int 0, .int 0, .ref aL, .ref aK, .ref aV, .ref aN, .ref aS, .ref aB, .int 0])), (aV, .inl (cI, 10, .inl (fun _ => 0)))]) hP hD [0, 1] [] rfl rfl (by decide) (by decide) hk1 hFc hP1 hD1
              generalize H1 = H at hP hS ⊢
              have hP : va_P (dC, dI) vwCl [(a, .inr (3, [.int 0, .int 0, .ref aL, .ref aK, .ref aV, .ref aN, .ref aS, .ref aB, .int 0])), (aV, .inl (cI, 10, .inl (fun _ => 0)))] _ := hP
              have hD : va_D A [(a, .inr (3, [.int 0, .int 0, .ref aL, .ref aK, .ref aV, .ref aN, .ref aS, .ref aB, .int 0])), (aV, .inl (cI, 10, .inl (fun _ => 0)))] := hD
              subst hw
              refine lv_if_eq (tgt := 29) hx hb dX0_joinFirstPair_24 (by decide) (fun _ => ?_) (fun h9 => absurd (by decide) h9)
              refine lv_iinc (v := (nI (j + 1))) (lv' := [(2, .int (nI (j + 1))), (1, .int (nI i)), (0, .ref a)]) hx hb dX0_joinFirstPair_29 hl (k := 0) rfl (nI_1 _) (Nat.le_of_ble_eq_true rfl) rfl (fun ls hl => ?_)
              refine lv_goto (tgt := 12) hx hb dX0_joinFirstPair_32 (by decide) ?_
              exact ihj (j + 1) hltj (by omega) _ _ _ (lv_sub hl [0, 1, 2] rfl) (hP.sub [0, 1] rfl) (hD.sub [0, 1] (by decide) rfl) hS
            · skip
              refine lv_iload_n hx hb dX0_joinFirstPair_12 rfl (lv_at hl 0 rfl) ?_
              refine lv_bipush (v := 10) hx hb dX0_joinFirstPair_13 (by decide) ?_
              refine lv_icmp_ge (tgt := 35) hx hb dX0_joinFirstPair_15 (by decide) (fun _ => ?_) (fun h9 => absurd (show nI 10 ≤ nI j from nI_le hgej (Nat.lt_of_le_of_lt hj (by decide))) h9)
              refine lv_iinc (v := (nI (i + 1))) (lv' := [(1, .int (nI (i + 1))), (2, .int (nI j)), (0, .ref a)]) hx hb dX0_joinFirstPair_35 hl (k := 1) rfl (nI_1 _) (Nat.le_of_ble_eq_true rfl) rfl (fun ls hl => ?_)
              refine lv_goto (tgt := 2) hx hb dX0_joinFirstPair_38 (by decide) ?_
              exact ih (i + 1) hlt (by omega) _ _ _ (lv_sub hl [0, 2] rfl) (hP.sub [0, 1] rfl) (hD.sub [0, 1] (by decide) rfl) hS
        exact lp12 (10 + 1) (i + 1) (by omega) (by omega) _ _ _ (lv_sub hl [0, 1, 2] rfl) (hP.sub [0, 1] rfl) (hD.sub [0, 1] (by decide) rfl) hS
      · skip
        refine lv_iload_n hx hb dX0_joinFirstPair_2 rfl (lv_at hl 0 rfl) ?_
        refine lv_bipush (v := 10) hx hb dX0_joinFirstPair_3 (by decide) ?_
        refine lv_icmp_ge (tgt := 41) hx hb dX0_joinFirstPair_5 (by decide) (fun _ => ?_) (fun h9 => absurd (show nI 10 ≤ nI i from nI_le hge (Nat.lt_of_le_of_lt hi (by decide))) h9)
        refine lv_iconst (v := 0) hx hb dX0_joinFirstPair_41 (by decide) ?_
        exact ret _ () _ _ _ _ _ _ (rfl) (rfl) (hP.sub [0, 1] rfl) (hK.sub [0] rfl) (hD.sub [0, 1] (by decide) rfl) hS (Nat.le_of_ble_eq_true rfl) (Nat.le_of_ble_eq_true rfl) dX0_joinFirstPair_42
  exact lp2 (10 + 1) 0 (Nat.le_of_ble_eq_true rfl) (by decide) _ _ _ (lv_sub hl [0, 1] rfl) (hP.sub [0, 1] rfl) (hD.sub [0, 1] (by decide) rfl) hS

set_option maxHeartbeats 4000000 in
set_option maxRecDepth 100000 in
/-- joinWhilePossible of an empty circuit -/
theorem kX0_joinWhilePossible (l : Launch) (dC : Nat → ClassId) (dI : Nat → Nat → Nat) (a aL aK aV aN aS aB : Nat) (cI : ClassId) (sz : Nat) : fMi l yX0_joinWhilePossible wsX0_joinWhilePossible ({ frames := 4, cells := 0, slots := 0, locals := 93 } : Room) dC dI [.ref a] [(a, .inr (3, [.int 0, .int 0, .ref aL, .ref aK, .ref aV, .ref aN, .ref aS, .ref aB, .int 0])), (aV, .inl (cI, 10, .inl (fun _ => 0)))] [(cI, .int)] sz (fun (r : Int32) (u : Unit) => r = 0) (fun u => [(a, .inr (3, [.int 0, .int 0, .ref aL, .ref aK, .ref aV, .ref aN, .ref aS, .ref aB, .int 0])), (aV, .inl (cI, 10, .inl (fun _ => 0)))]) (fun u => [(cI, .int)]) := by
  refine oP_i (y := yX0_joinWhilePossible) (cc := cX0_joinWhilePossible) (maxL := 2) (by decide) rfl (Nat.le_of_ble_eq_true rfl) ?_
  intro p e s m args below meth c ls A Q hx hb hr hml hown hts hN hZ hA hin hlk hP hK hD hl ret
  have hS : va_S A s.heap s.heap [] := va_S.rf
  have hl : lv_has ls 2 [(0, .ref a)] := hl
  have hP : va_P (dC, dI) vwCl [(a, .inr (3, [.int 0, .int 0, .ref aL, .ref aK, .ref aV, .ref aN, .ref aS, .ref aB, .int 0])), (aV, .inl (cI, 10, .inl (fun _ => 0)))] _ := hP
  have hD : va_D A [(a, .inr (3, [.int 0, .int 0, .ref aL, .ref aK, .ref aV, .ref aN, .ref aS, .ref aB, .int 0])), (aV, .inl (cI, 10, .inl (fun _ => 0)))] := hD
  refine lv_iconst (v := 0) hx hb dX0_joinWhilePossible_0 (by decide) ?_
  refine lv_istore_n (lv' := [(1, .int 0), (0, .ref a)]) hx hb dX0_joinWhilePossible_1 rfl hl (Nat.le_of_ble_eq_true rfl) rfl (fun ls hl => ?_)
  refine lv_iload_n hx hb dX0_joinWhilePossible_2 rfl (lv_at hl 0 rfl) ?_
  refine lv_bipush (v := 10) hx hb dX0_joinWhilePossible_3 (by decide) ?_
  refine lv_icmp_ge (tgt := 21) hx hb dX0_joinWhilePossible_5 (by decide) (fun h9 => absurd h9 (by decide)) (fun _ => ?_)
  refine lv_aload_n hx hb dX0_joinWhilePossible_8 rfl (lv_at hl 1 rfl) ?_
  have hPc := hP.sub (ws' := [(a, .inr (3, [.int 0, .int 0, .ref aL, .ref aK, .ref aV, .ref aN, .ref aS, .ref aB, .int 0])), (aV, .inl (cI, 10, .inl (fun _ => 0)))]) [0, 1] rfl
  have hDc := hD.sub (ws' := [(a, .inr (3, [.int 0, .int 0, .ref aL, .ref aK, .ref aV, .ref aN, .ref aS, .ref aB, .int 0])), (aV, .inl (cI, 10, .inl (fun _ => 0)))]) [0, 1] (by decide) rfl
  have hKc := hK.sub (tys' := [(cI, .int)]) [0] rfl
  have hFc := va_free (wc := [(a, .inr (3, [.int 0, .int 0, .ref aL, .ref aK, .ref aV, .ref aN, .ref aS, .ref aB, .int 0])), (aV, .inl (cI, 10, .inl (fun _ => 0)))]) hD hS hA [0, 1] rfl
  refine va_calli (va_runV (As := []) (rest := []) ⟨hx, hb, hml, hown, hts⟩ (kX0_joinFirstPair l dC dI a aL aK aV aN aS aB cI s.heap.size) (cwV 0 hts gX0_joinWhilePossible_X0_joinFirstPair rfl rfl rfl (by decide +kernel) ⟨Nat.le_of_ble_eq_true rfl, Nat.le_of_ble_eq_true rfl⟩) (fPreV hN hZ hS (fun q h => hFc q h) hPc hKc hDc (ci := 3) (q0 := 0) rfl rfl) rfl rfl hl.1 rfl (lv_room (Nat.le_of_ble_eq_true rfl)) dX0_joinWhilePossible_9 ⟨Nat.le_of_ble_eq_true rfl, Nat.le_of_ble_eq_true rfl⟩) hS (fun q _ h => hFc q h) hFc (fun r u t H1 locs ht hvm hw hB hz1 hk1 hS => ?_)
  obtain ⟨hP1, hK1, hD1⟩ := hB
  rw [ht] at hP1
  have hK1 := va_K.moved hvm.symm hK1
  obtain ⟨hP, hD⟩ := va_join (wr := []) (w1 := [(a, .inr (3, [.int 0, .int 0, .ref aL, .ref aK, .ref aV, .ref aN, .ref aS, .ref aB, .int 0])), (aV, .inl (cI, 10, .inl (fun _ => 0)))]) hP hD [0, 1] [] rfl rfl (by decide) (by decide) hk1 hFc hP1 hD1
  generalize H1 = H at hP hS ⊢
  have hP : va_P (dC, dI) vwCl [(a, .inr (3, [.int 0, .int 0, .ref aL, .ref aK, .ref aV, .ref aN, .ref aS, .ref aB, .int 0])), (aV, .inl (cI, 10, .inl (fun _ => 0)))] _ := hP
  have hD : va_D A [(a, .inr (3, [.int 0, .int 0, .ref aL, .ref aK, .ref aV, .ref aN, .ref aS, .ref aB, .int 0])), (aV, .inl (cI, 10, .inl (fun _ => 0)))] := hD
  subst hw
  refine lv_if_eq (tgt := 21) hx hb dX0_joinWhilePossible_12 (by decide) (fun _ => ?_) (fun h9 => absurd (by decide) h9)
  refine lv_iload_n hx hb dX0_joinWhilePossible_21 rfl (lv_at hl 0 rfl) ?_
  exact ret _ () _ _ _ _ _ _ (rfl) (hP.sub [0, 1] rfl) (hK.sub [0] rfl) (hD.sub [0, 1] (by decide) rfl) hS (Nat.le_of_ble_eq_true rfl) (Nat.le_of_ble_eq_true rfl) dX0_joinWhilePossible_22

set_option maxHeartbeats 4000000 in
set_option maxRecDepth 100000 in
/-- requireNet: throws on fresh objects -/
theorem kX5_requireNet (l : Launch) (hfl : l.stackTraces = false) (dC : Nat → ClassId) (dI : Nat → Nat → Nat) (h0 pr ma tm : Nat) (w d on op un : Nat) (wL wK wV wN wS wB dL dK dV dN dS dB : Nat) (p0 p1 : Int32) (sz : Nat) : fXv l yX5_requireNet wsX5_requireNet ({ frames := 8, cells := 2, slots := 12, locals := 123 } : Room) dC dI [.ref h0, .int p0, .int p1] [(h0, .inr (8, [.ref pr, .ref ma, .ref tm])), (pr, .inr (7, [.ref w, .ref d, .ref on, .ref op, .ref un, .int 0, .int 0])), (w, .inr (3, [.int 0, .int 0, .ref wL, .ref wK, .ref wV, .ref wN, .ref wS, .ref wB, .int 0])), (d, .inr (3, [.int 0, .int 0, .ref dL, .ref dK, .ref dV, .ref dN, .ref dS, .ref dB, .int 0]))] [] sz (fun E : String => E = "java/lang/IllegalArgumentException" ∧ (¬ ((p0 = 0) ∨ (p0 = 1))) ∨ E = "java/util/NoSuchElementException" ∧ ((p0 = 0) ∨ (p0 = 1))) (fun (u : Unit) => False) (fun u => [(h0, .inr (8, [.ref pr, .ref ma, .ref tm])), (pr, .inr (7, [.ref w, .ref d, .ref on, .ref op, .ref un, .int 0, .int 0])), (w, .inr (3, [.int 0, .int 0, .ref wL, .ref wK, .ref wV, .ref wN, .ref wS, .ref wB, .int 0])), (d, .inr (3, [.int 0, .int 0, .ref dL, .ref dK, .ref dV, .ref dN, .ref dS, .ref dB, .int 0]))]) (fun u => []) := by
  refine oN_v hfl (y := yX5_requireNet) (cc := cX5_requireNet) (maxL := 3) (by decide) rfl (Nat.le_of_ble_eq_true rfl) ?_
  intro p e s m args below meth c ls A Q hx hb hr hml hown hts hN hZ hA hin hlk hP hK hD hl ret thr thn
  have hS : va_S A s.heap s.heap [] := va_S.rf
  have hl : lv_has ls 3 [(0, .ref h0), (1, .int p0), (2, .int p1)] := hl
  have hP : va_P (dC, dI) vwCl [(h0, .inr (8, [.ref pr, .ref ma, .ref tm])), (pr, .inr (7, [.ref w, .ref d, .ref on, .ref op, .ref un, .int 0, .int 0])), (w, .inr (3, [.int 0, .int 0, .ref wL, .ref wK, .ref wV, .ref wN, .ref wS, .ref wB, .int 0])), (d, .inr (3, [.int 0, .int 0, .ref dL, .ref dK, .ref dV, .ref dN, .ref dS, .ref dB, .int 0]))] _ := hP
  have hD : va_D A [(h0, .inr (8, [.ref pr, .ref ma, .ref tm])), (pr, .inr (7, [.ref w, .ref d, .ref on, .ref op, .ref un, .int 0, .int 0])), (w, .inr (3, [.int 0, .int 0, .ref wL, .ref wK, .ref wV, .ref wN, .ref wS, .ref wB, .int 0])), (d, .inr (3, [.int 0, .int 0, .ref dL, .ref dK, .ref dV, .ref dN, .ref dS, .ref dB, .int 0]))] := hD
  refine lv_aload_n hx hb dX5_requireNet_0 rfl (lv_at hl 0 rfl) ?_
  refine lv_iload_n hx hb dX5_requireNet_1 rfl (lv_at hl 1 rfl) ?_
  have hPc := hP.sub (ws' := [(h0, .inr (8, [.ref pr, .ref ma, .ref tm])), (pr, .inr (7, [.ref w, .ref d, .ref on, .ref op, .ref un, .int 0, .int 0]))]) [0, 1] rfl
  have hDc := hD.sub (ws' := [(h0, .inr (8, [.ref pr, .ref ma, .ref tm])), (pr, .inr (7, [.ref w, .ref d, .ref on, .ref op, .ref un, .int 0, .int 0]))]) [0, 1] (by decide) rfl
  have hKc := hK.sub (tys' := []) [] rfl
  have hFc := va_free (wc := [(h0, .inr (8, [.ref pr, .ref ma, .ref tm])), (pr, .inr (7, [.ref w, .ref d, .ref on, .ref op, .ref un, .int 0, .int 0]))]) hD hS hA [0, 1] rfl
  refine vx_callq (vx_runV (As := [.int p0]) (rest := []) ⟨hx, hb, hml, hown, hts⟩ (kX5_circuitAt l hfl dC dI h0 pr ma tm w d on op un p0 s.heap.size) (cwV 1 hts gX5_requireNet_X5_circuitAt rfl rfl rfl (by decide +kernel) ⟨Nat.le_of_ble_eq_true rfl, Nat.le_of_ble_eq_true rfl⟩) (fPreV hN hZ hS (fun q h => hFc q h) hPc hKc hDc (ci := 8) (q0 := 0) rfl rfl) rfl rfl hl.1 rfl (lv_room (Nat.le_of_ble_eq_true rfl)) dX5_requireNet_2 ⟨Nat.le_of_ble_eq_true rfl, Nat.le_of_ble_eq_true rfl⟩) hS (fun q _ h => hFc q h) hFc (fun q _ h => hFc q h) (fun E ce q9 u t H locs ht hvm hpx hE hz1 hk1 hS hq9 hv9 hc9 => ?_) (fun r u t H1 locs ht hvm hw hB hz1 hk1 hS => ?_)
  · skip
    exact thr E ce q9 _ _ _ _ _ _ _ (Or.inl (⟨hE.1, hE.2⟩)) hq9 hv9 hc9 hS (Nat.le_of_ble_eq_true rfl) (Nat.le_of_ble_eq_true rfl)
  · skip
    obtain ⟨hP1, hK1, hD1⟩ := hB
    rw [ht] at hP1
    have hK1 := va_K.moved hvm.symm hK1
    obtain ⟨hP, hD⟩ := va_join (wr := [(w, .inr (3, [.int 0, .int 0, .ref wL, .ref wK, .ref wV, .ref wN, .ref wS, .ref wB, .int 0])), (d, .inr (3, [.int 0, .int 0, .ref dL, .ref dK, .ref dV, .ref dN, .ref dS, .ref dB, .int 0]))]) (w1 := [(h0, .inr (8, [.ref pr, .ref ma, .ref tm])), (pr, .inr (7, [.ref w, .ref d, .ref on, .ref op, .ref un, .int 0, .int 0]))]) hP hD [0, 1] [2, 3] rfl rfl (by decide) (by decide) hk1 hFc hP1 hD1
    generalize H1 = H at hP hS ⊢
    have hP : va_P (dC, dI) vwCl [(w, .inr (3, [.int 0, .int 0, .ref wL, .ref wK, .ref wV, .ref wN, .ref wS, .ref wB, .int 0])), (d, .inr (3, [.int 0, .int 0, .ref dL, .ref dK, .ref dV, .ref dN, .ref dS, .ref dB, .int 0])), (h0, .inr (8, [.ref pr, .ref ma, .ref tm])), (pr, .inr (7, [.ref w, .ref d, .ref on, .ref op, .ref un, .int 0, .int 0]))] _ := hP
    have hD : va_D A [(w, .inr (3, [.int 0, .int 0, .ref wL, .ref wK, .ref wV, .ref wN, .ref wS, .ref wB, .int 0])), (d, .inr (3, [.int 0, .int 0, .ref dL, .ref dK, .ref dV, .ref dN, .ref dS, .ref dB, .int 0])), (h0, .inr (8, [.ref pr, .ref ma, .ref tm])), (pr, .inr (7, [.ref w, .ref d, .ref on, .ref op, .ref un, .int 0, .int 0]))] := hD
    refine W.widen (k := 1) (n := 6) (Nat.le_of_ble_eq_true rfl) (Nat.le_of_ble_eq_true rfl) ?_
    rcases hw with ⟨hc1, rfl⟩ | ⟨hc2, rfl⟩
    · skip
      refine W.eq (g2 := F0 m 5 ls [.ref w]) rfl ?_
      refine lv_iload_n hx hb dX5_requireNet_5 rfl (lv_at hl 2 rfl) ?_
      have hPc := hP.sub (ws' := [(w, .inr (3, [.int 0, .int 0, .ref wL, .ref wK, .ref wV, .ref wN, .ref wS, .ref wB, .int 0]))]) [0] rfl
      have hDc := hD.sub (ws' := [(w, .inr (3, [.int 0, .int 0, .ref wL, .ref wK, .ref wV, .ref wN, .ref wS, .ref wB, .int 0]))]) [0] (by decide) rfl
      have hKc := hK.sub (tys' := []) [] rfl
      have hFc := va_free (wc := [(w, .inr (3, [.int 0, .int 0, .ref wL, .ref wK, .ref wV, .ref wN, .ref wS, .ref wB, .int 0]))]) hD hS hA [0] rfl
      refine va_calli (va_runV (As := [.int p1]) (rest := []) ⟨hx, hb, hml, hown, hts⟩ (kX0_hasNet l dC dI w wL wK wV wN wS wB p1 H.size) (cwV 1 hts gX5_requireNet_X0_hasNet rfl rfl rfl (by decide +kernel) ⟨Nat.le_of_ble_eq_true rfl, Nat.le_of_ble_eq_true rfl⟩) (fPreV hN hZ hS (fun q h => hFc q h) hPc hKc hDc (ci := 3) (q0 := 0) rfl rfl) rfl rfl hl.1 rfl (lv_room (Nat.le_of_ble_eq_true rfl)) dX5_requireNet_6 ⟨Nat.le_of_ble_eq_true rfl, Nat.le_of_ble_eq_true rfl⟩) hS (fun q _ h => hFc q h) hFc (fun r u t H1 locs ht hvm hw hB hz1 hk1 hS => ?_)
      obtain ⟨hP1, hK1, hD1⟩ := hB
      rw [ht] at hP1
      have hK1 := va_K.moved hvm.symm hK1
      obtain ⟨hP, hD⟩ := va_join (wr := [(d, .inr (3, [.int 0, .int 0, .ref dL, .ref dK, .ref dV, .ref dN, .ref dS, .ref dB, .int 0])), (h0, .inr (8, [.ref pr, .ref ma, .ref tm])), (pr, .inr (7, [.ref w, .ref d, .ref on, .ref op, .ref un, .int 0, .int 0]))]) (w1 := [(w, .inr (3, [.int 0, .int 0, .ref wL, .ref wK, .ref wV, .ref wN, .ref wS, .ref wB, .int 0]))]) hP hD [0] [1, 2, 3] rfl rfl (by decide) (by decide) hk1 hFc hP1 hD1
      generalize H1 = H at hP hS ⊢
      have hP : va_P (dC, dI) vwCl [(d, .inr (3, [.int 0, .int 0, .ref dL, .ref dK, .ref dV, .ref dN, .ref dS, .ref dB, .int 0])), (h0, .inr (8, [.ref pr, .ref ma, .ref tm])), (pr, .inr (7, [.ref w, .ref d, .ref on, .ref op, .ref un, .int 0, .int 0])), (w, .inr (3, [.int 0, .int 0, .ref wL, .ref wK, .ref wV, .ref wN, .ref wS, .ref wB, .int 0]))] _ := hP
      have hD : va_D A [(d, .inr (3, [.int 0, .int 0, .ref dL, .ref dK, .ref dV, .ref dN, .ref dS, .ref dB, .int 0])), (h0, .inr (8, [.ref pr, .ref ma, .ref tm])), (pr, .inr (7, [.ref w, .ref d, .ref on, .ref op, .ref un, .int 0, .int 0])), (w, .inr (3, [.int 0, .int 0, .ref wL, .ref wK, .ref wV, .ref wN, .ref wS, .ref wB, .int 0]))] := hD
      subst hw
      refine lv_if_ne (tgt := 22) hx hb dX5_requireNet_9 (by decide) (fun h9 => absurd (by decide) h9) (fun _ => ?_)
      exact thn _ 285 106 287 _ _ _ _ 12 _ (Or.inr (⟨rfl, Or.inl (hc1)⟩)) (hts (.classLink RX5 285 "java/util/NoSuchElementException") (List.mem_cons_of_mem _ (List.mem_append_left _ (List.mem_append_left _ (List.mem_append_left _ (List.mem_append_left _ (List.mem_append_left _ (List.mem_append_left _ (List.mem_of_getElem? (i := 0) rfl))))))))) (hts (.initialized "java/util/NoSuchElementException") (List.mem_cons_of_mem _ (List.mem_append_left _ (List.mem_append_left _ (List.mem_append_left _ (List.mem_append_left _ (List.mem_append_left _ (List.mem_append_left _ (List.mem_of_getElem? (i := 1) rfl))))))))) (hN.2 _ (List.mem_of_getElem? (i := 3) rfl)) (vx_hat (fun w h => hts w ((fun w h => List.mem_cons_of_mem _ (List.mem_append_left _ (List.mem_append_right _ (h)))) w h)) (B := [.castable "java/util/NoSuchElementException" "java/util/NoSuchElementException", .declares ⟨"java/lang/RuntimeException", "<init>", "(Ljava/lang/String;)V"⟩, .declares ⟨"java/lang/Exception", "<init>", "(Ljava/lang/String;)V"⟩, .declares ⟨"java/lang/Throwable", "<init>", "(Ljava/lang/String;)V"⟩]) (by decide +kernel) (vx_c (va_Nw.use rfl (hN.1 _ (List.mem_of_getElem? (i := 27) rfl))) (vx_c (va_Nw.use rfl (hN.1 _ (List.mem_of_getElem? (i := 23) rfl))) (vx_c (va_Nw.use rfl (hN.1 _ (List.mem_of_getElem? (i := 24) rfl))) (vx_c (va_Nw.use rfl (hN.1 _ (List.mem_of_getElem? (i := 25) rfl))) vx_n))))) (by decide +kernel) hS hl.1 (Nat.le_of_ble_eq_true rfl) (Nat.le_of_ble_eq_true rfl) (Nat.le_of_ble_eq_true rfl) (Nat.le_of_ble_eq_true rfl) dX5_requireNet_12 dX5_requireNet_15 (Or.inl ⟨dX5_requireNet_16, dX5_requireNet_18, dX5_requireNet_21⟩)
    · skip
      refine W.eq (g2 := F0 m 5 ls [.ref d]) rfl ?_
      refine lv_iload_n hx hb dX5_requireNet_5 rfl (lv_at hl 2 rfl) ?_
      have hPc := hP.sub (ws' := [(d, .inr (3, [.int 0, .int 0, .ref dL, .ref dK, .ref dV, .ref dN, .ref dS, .ref dB, .int 0]))]) [1] rfl
      have hDc := hD.sub (ws' := [(d, .inr (3, [.int 0, .int 0, .ref dL, .ref dK, .ref dV, .ref dN, .ref dS, .ref dB, .int 0]))]) [1] (by decide) rfl
      have hKc := hK.sub (tys' := []) [] rfl
      have hFc := va_free (wc := [(d, .inr (3, [.int 0, .int 0, .ref dL, .ref dK, .ref dV, .ref dN, .ref dS, .ref dB, .int 0]))]) hD hS hA [1] rfl
      refine va_calli (va_runV (As := [.int p1]) (rest := []) ⟨hx, hb, hml, hown, hts⟩ (kX0_hasNet l dC dI d dL dK dV dN dS dB p1 H.size) (cwV 1 hts gX5_requireNet_X0_hasNet rfl rfl rfl (by decide +kernel) ⟨Nat.le_of_ble_eq_true rfl, Nat.le_of_ble_eq_true rfl⟩) (fPreV hN hZ hS (fun q h => hFc q h) hPc hKc hDc (ci := 3) (q0 := 0) rfl rfl) rfl rfl hl.1 rfl (lv_room (Nat.le_of_ble_eq_true rfl)) dX5_requireNet_6 ⟨Nat.le_of_ble_eq_true rfl, Nat.le_of_ble_eq_true rfl⟩) hS (fun q _ h => hFc q h) hFc (fun r u t H1 locs ht hvm hw hB hz1 hk1 hS => ?_)
      obtain ⟨hP1, hK1, hD1⟩ := hB
      rw [ht] at hP1
      have hK1 := va_K.moved hvm.symm hK1
      obtain ⟨hP, hD⟩ := va_join (wr := [(w, .inr (3, [.int 0, .int 0, .ref wL, .ref wK, .ref wV, .ref wN, .ref wS, .ref wB, .int 0])), (h0, .inr (8, [.ref pr, .ref ma, .ref tm])), (pr, .inr (7, [.ref w, .ref d, .ref on, .ref op, .ref un, .int 0, .int 0]))]) (w1 := [(d, .inr (3, [.int 0, .int 0, .ref dL, .ref dK, .ref dV, .ref dN, .ref dS, .ref dB, .int 0]))]) hP hD [1] [0, 2, 3] rfl rfl (by decide) (by decide) hk1 hFc hP1 hD1
      generalize H1 = H at hP hS ⊢
      have hP : va_P (dC, dI) vwCl [(w, .inr (3, [.int 0, .int 0, .ref wL, .ref wK, .ref wV, .ref wN, .ref wS, .ref wB, .int 0])), (h0, .inr (8, [.ref pr, .ref ma, .ref tm])), (pr, .inr (7, [.ref w, .ref d, .ref on, .ref op, .ref un, .int 0, .int 0])), (d, .inr (3, [.int 0, .int 0, .ref dL, .ref dK, .ref dV, .ref dN, .ref dS, .ref dB, .int 0]))] _ := hP
      have hD : va_D A [(w, .inr (3, [.int 0, .int 0, .ref wL, .ref wK, .ref wV, .ref wN, .ref wS, .ref wB, .int 0])), (h0, .inr (8, [.ref pr, .ref ma, .ref tm])), (pr, .inr (7, [.ref w, .ref d, .ref on, .ref op, .ref un, .int 0, .int 0])), (d, .inr (3, [.int 0, .int 0, .ref dL, .ref dK, .ref dV, .ref dN, .ref dS, .ref dB, .int 0]))] := hD
      subst hw
      refine lv_if_ne (tgt := 22) hx hb dX5_requireNet_9 (by decide) (fun h9 => absurd (by decide) h9) (fun _ => ?_)
      exact thn _ 285 106 287 _ _ _ _ 12 _ (Or.inr (⟨rfl, Or.inr (hc2)⟩)) (hts (.classLink RX5 285 "java/util/NoSuchElementException") (List.mem_cons_of_mem _ (List.mem_append_left _ (List.mem_append_left _ (List.mem_append_left _ (List.mem_append_left _ (List.mem_append_left _ (List.mem_append_left _ (List.mem_of_getElem? (i := 0) rfl))))))))) (hts (.initialized "java/util/NoSuchElementException") (List.mem_cons_of_mem _ (List.mem_append_left _ (List.mem_append_left _ (List.mem_append_left _ (List.mem_append_left _ (List.mem_append_left _ (List.mem_append_left _ (List.mem_of_getElem? (i := 1) rfl))))))))) (hN.2 _ (List.mem_of_getElem? (i := 3) rfl)) (vx_hat (fun w h => hts w ((fun w h => List.mem_cons_of_mem _ (List.mem_append_left _ (List.mem_append_right _ (h)))) w h)) (B := [.castable "java/util/NoSuchElementException" "java/util/NoSuchElementException", .declares ⟨"java/lang/RuntimeException", "<init>", "(Ljava/lang/String;)V"⟩, .declares ⟨"java/lang/Exception", "<init>", "(Ljava/lang/String;)V"⟩, .declares ⟨"java/lang/Throwable", "<init>", "(Ljava/lang/String;)V"⟩]) (by decide +kernel) (vx_c (va_Nw.use rfl (hN.1 _ (List.mem_of_getElem? (i := 27) rfl))) (vx_c (va_Nw.use rfl (hN.1 _ (List.mem_of_getElem? (i := 23) rfl))) (vx_c (va_Nw.use rfl (hN.1 _ (List.mem_of_getElem? (i := 24) rfl))) (vx_c (va_Nw.use rfl (hN.1 _ (List.mem_of_getElem? (i := 25) rfl))) vx_n))))) (by decide +kernel) hS hl.1 (Nat.le_of_ble_eq_true rfl) (Nat.le_of_ble_eq_true rfl) (Nat.le_of_ble_eq_true rfl) (Nat.le_of_ble_eq_true rfl) dX5_requireNet_12 dX5_requireNet_15 (Or.inl ⟨dX5_requireNet_16, dX5_requireNet_18, dX5_requireNet_21⟩)

set_option maxHeartbeats 4000000 in
set_option maxRecDepth 100000 in
/-- requirePart: throws on fresh objects -/
theorem kX5_requirePart (l : Launch) (hfl : l.stackTraces = false) (dC : Nat → ClassId) (dI : Nat → Nat → Nat) (h0 pr ma tm : Nat) (w d on op un : Nat) (wL wK wV wN wS wB dL dK dV dN dS dB : Nat) (cI : ClassId) (p0 p1 : Int32) (sz : Nat) : fXv l yX5_requirePart wsX5_requirePart ({ frames := 8, cells := 2, slots := 12, locals := 123 } : Room) dC dI [.ref h0, .int p0, .int p1] [(h0, .inr (8, [.ref pr, .ref ma, .ref tm])), (pr, .inr (7, [.ref w, .ref d, .ref on, .ref op, .ref un, .int 0, .int 0])), (w, .inr (3, [.int 0, .int 0, .ref wL, .ref wK, .ref wV, .ref wN, .ref wS, .ref wB, .int 0])), (d, .inr (3, [.int 0, .int 0, .ref dL, .ref dK, .ref dV, .ref dN, .ref dS, .ref dB, .int 0])), (wV, .inl (cI, 10, .inl (fun _ => 0))), (dV, .inl (cI, 10, .inl (fun _ => 0)))] [(cI, .int)] sz (fun E : String => E = "java/lang/IllegalArgumentException" ∧ (¬ ((p0 = 0) ∨ (p0 = 1))) ∨ E = "java/util/NoSuchElementException" ∧ ((p0 = 0) ∨ (p0 = 1))) (fun (u : Unit) => False) (fun u => [(h0, .inr (8, [.ref pr, .ref ma, .ref tm])), (pr, .inr (7, [.ref w, .ref d, .ref on, .ref op, .ref un, .int 0, .int 0])), (w, .inr (3, [.int 0, .int 0, .ref wL, .ref wK, .ref wV, .ref wN, .ref wS, .ref wB, .int 0])), (d, .inr (3, [.int 0, .int 0, .ref dL, .ref dK, .ref dV, .ref dN, .ref dS, .ref dB, .int 0])), (wV, .inl (cI, 10, .inl (fun _ => 0))), (dV, .inl (cI, 10, .inl (fun _ => 0)))]) (fun u => [(cI, .int)]) := by
  refine oN_v hfl (y := yX5_requirePart) (cc := cX5_requirePart) (maxL := 3) (by decide) rfl (Nat.le_of_ble_eq_true rfl) ?_
  intro p e s m args below meth c ls A Q hx hb hr hml hown hts hN hZ hA hin hlk hP hK hD hl ret thr thn
  have hS : va_S A s.heap s.heap [] := va_S.rf
  have hl : lv_has ls 3 [(0, .ref h0), (1, .int p0), (2, .int p1)] := hl
  have hP : va_P (dC, dI) vwCl [(h0, .inr (8, [.ref pr, .ref ma, .ref tm])), (pr, .inr (7, [.ref w, .ref d, .ref on, .ref op, .ref un, .int 0, .int 0])), (w, .inr (3, [.int 0, .int 0, .ref wL, .ref wK, .ref wV, .ref wN, .ref wS, .ref wB, .int 0])), (d, .inr (3, [.int 0, .int 0, .ref dL, .ref dK, .ref dV, .ref dN, .ref dS, .ref dB, .int 0])), (wV, .inl (cI, 10, .inl (fun _ => 0))), (dV, .inl (cI, 10, .inl (fun _ => 0)))] _ := hP
  have hD : va_D A [(h0, .inr (8, [.ref pr, .ref ma, .ref tm])), (pr, .inr (7, [.ref w, .ref d, .ref on, .ref op, .ref un, .int 0, .int 0])), (w, .inr (3, [.int 0, .int 0, .ref wL, .ref wK, .ref wV, .ref wN, .ref wS, .ref wB, .int 0])), (d, .inr (3, [.int 0, .int 0, .ref dL, .ref dK, .ref dV, .ref dN, .ref dS, .ref dB, .int 0])), (wV, .inl (cI, 10, .inl (fun _ => 0))), (dV, .inl (cI, 10, .inl (fun _ => 0)))] := hD
  refine lv_aload_n hx hb dX5_requirePart_0 rfl (lv_at hl 0 rfl) ?_
  refine lv_iload_n hx hb dX5_requirePart_1 rfl (lv_at hl 1 rfl) ?_
  have hPc := hP.sub (ws' := [(h0, .inr (8, [.ref pr, .ref ma, .ref tm])), (pr, .inr (7, [.ref w, .ref d, .ref on, .ref op, .ref un, .int 0, .int 0]))]) [0, 1] rfl
  have hDc := hD.sub (ws' := [(h0, .inr (8, [.ref pr, .ref ma, .ref tm])), (pr, .inr (7, [.ref w, .ref d, .ref on, .ref op, .ref un, .int 0, .int 0]))]) [0, 1] (by decide) rfl
  have hKc := hK.sub (tys' := []) [] rfl
  have hFc := va_free (wc := [(h0, .inr (8, [.ref pr, .ref ma, .ref tm])), (pr, .inr (7, [.ref w, .ref d, .ref on, .ref op, .ref un, .int 0, .int 0]))]) hD hS hA [0, 1] rfl
  refine vx_callq (vx_runV (As := [.int p0]) (rest := []) ⟨hx, hb, hml, hown, hts⟩ (kX5_circuitAt l hfl dC dI h0 pr ma tm w d on op un p0 s.heap.size) (cwV 1 hts gX5_requirePart_X5_circuitAt rfl rfl rfl (by decide +kernel) ⟨Nat.le_of_ble_eq_true rfl, Nat.le_of_ble_eq_true rfl⟩) (fPreV hN hZ hS (fun q h => hFc q h) hPc hKc hDc (ci := 8) (q0 := 0) rfl rfl) rfl rfl hl.1 rfl (lv_room (Nat.le_of_ble_eq_true rfl)) dX5_requirePart_2 ⟨Nat.le_of_ble_eq_true rfl, Nat.le_of_ble_eq_true rfl⟩) hS (fun q _ h => hFc q h) hFc (fun q _ h => hFc q h) (fun E ce q9 u t H locs ht hvm hpx hE hz1 hk1 hS hq9 hv9 hc9 => ?_) (fun r u t H1 locs ht hvm hw hB hz1 hk1 hS => ?_)
  · skip
    exact thr E ce q9 _ _ _ _ _ _ _ (Or.inl (⟨hE.1, hE.2⟩)) hq9 hv9 hc9 hS (Nat.le_of_ble_eq_true rfl) (Nat.le_of_ble_eq_true rfl)
  · skip
    obtain ⟨hP1, hK1, hD1⟩ := hB
    rw [ht] at hP1
    have hK1 := va_K.moved hvm.symm hK1
    obtain ⟨hP, hD⟩ := va_join (wr := [(w, .inr (3, [.int 0, .int 0, .ref wL, .ref wK, .ref wV, .ref wN, .ref wS, .ref wB, .int 0])), (d, .inr (3, [.int 0, .int 0, .ref dL, .ref dK, .ref dV, .ref dN, .ref dS, .ref dB, .int 0])), (wV, .inl (cI, 10, .inl (fun _ => 0))), (dV, .inl (cI, 10, .inl (fun _ => 0)))]) (w1 := [(h0, .inr (8, [.ref pr, .ref ma, .ref tm])), (pr, .inr (7, [.ref w, .ref d, .ref on, .ref op, .ref un, .int 0, .int 0]))]) hP hD [0, 1] [2, 3, 4, 5] rfl rfl (by decide) (by decide) hk1 hFc hP1 hD1
    generalize H1 = H at hP hS ⊢
    have hP : va_P (dC, dI) vwCl [(w, .inr (3, [.int 0, .int 0, .ref wL, .ref wK, .ref wV, .ref wN, .ref wS, .ref wB, .int 0])), (d, .inr (3, [.int 0, .int 0, .ref dL, .ref dK, .ref dV, .ref dN, .ref dS, .ref dB, .int 0])), (wV, .inl (cI, 10, .inl (fun _ => 0))), (dV, .inl (cI, 10, .inl (fun _ => 0))), (h0, .inr (8, [.ref pr, .ref ma, .ref tm])), (pr, .inr (7, [.ref w, .ref d, .ref on, .ref op, .ref un, .int 0, .int 0]))] _ := hP
    have hD : va_D A [(w, .inr (3, [.int 0, .int 0, .ref wL, .ref wK, .ref wV, .ref wN, .ref wS, .ref wB, .int 0])), (d, .inr (3, [.int 0, .int 0, .ref dL, .ref dK, .ref dV, .ref dN, .ref dS, .ref dB, .int 0])), (wV, .inl (cI, 10, .inl (fun _ => 0))), (dV, .inl (cI, 10, .inl (fun _ => 0))), (h0, .inr (8, [.ref pr, .ref ma, .ref tm])), (pr, .inr (7, [.ref w, .ref d, .ref on, .ref op, .ref un, .int 0, .int 0]))] := hD
    refine W.widen (k := 1) (n := 6) (Nat.le_of_ble_eq_true rfl) (Nat.le_of_ble_eq_true rfl) ?_
    rcases hw with ⟨hc1, rfl⟩ | ⟨hc2, rfl⟩
    · skip
      refine W.eq (g2 := F0 m 5 ls [.ref w]) rfl ?_
      refine lv_iload_n hx hb dX5_requirePart_5 rfl (lv_at hl 2 rfl) ?_
      have hPc := hP.sub (ws' := [(w, .inr (3, [.int 0, .int 0, .ref wL, .ref wK, .ref wV, .ref wN, .ref wS, .ref wB, .int 0])), (wV, .inl (cI, 10, .inl (fun _ => 0)))]) [0, 2] rfl
      have hDc := hD.sub (ws' := [(w, .inr (3, [.int 0, .int 0, .ref wL, .ref wK, .ref wV, .ref wN, .ref wS, .ref wB, .int 0])), (wV, .inl (cI, 10, .inl (fun _ => 0)))]) [0, 2] (by decide) rfl
      have hKc := hK.sub (tys' := [(cI, .int)]) [0] rfl
      have hFc := va_free (wc := [(w, .inr (3, [.int 0, .int 0, .ref wL, .ref wK, .ref wV, .ref wN, .ref wS, .ref wB, .int 0])), (wV, .inl (cI, 10, .inl (fun _ => 0)))]) hD hS hA [0, 2] rfl
      refine va_calli (va_runV (As := [.int p1]) (rest := []) ⟨hx, hb, hml, hown, hts⟩ (kX0_hasPart l dC dI w wL wK wV wN wS wB cI p1 H.size) (cwV 1 hts gX5_requirePart_X0_hasPart rfl rfl rfl (by decide +kernel) ⟨Nat.le_of_ble_eq_true rfl, Nat.le_of_ble_eq_true rfl⟩) (fPreV hN hZ hS (fun q h => hFc q h) hPc hKc hDc (ci := 3) (q0 := 0) rfl rfl) rfl rfl hl.1 rfl (lv_room (Nat.le_of_ble_eq_true rfl)) dX5_requirePart_6 ⟨Nat.le_of_ble_eq_true rfl, Nat.le_of_ble_eq_true rfl⟩) hS (fun q _ h => hFc q h) hFc (fun r u t H1 locs ht hvm hw hB hz1 hk1 hS => ?_)
      obtain ⟨hP1, hK1, hD1⟩ := hB
      rw [ht] at hP1
      have hK1 := va_K.moved hvm.symm hK1
      obtain ⟨hP, hD⟩ := va_join (wr := [(d, .inr (3, [.int 0, .int 0, .ref dL, .ref dK, .ref dV, .ref dN, .ref dS, .ref dB, .int 0])), (dV, .inl (cI, 10, .inl (fun _ => 0))), (h0, .inr (8, [.ref pr, .ref ma, .ref tm])), (pr, .inr (7, [.ref w, .ref d, .ref on, .ref op, .ref un, .int 0, .int 0]))]) (w1 := [(w, .inr (3, [.int 0, .int 0, .ref wL, .ref wK, .ref wV, .ref wN, .ref wS, .ref wB, .int 0])), (wV, .inl (cI, 10, .inl (fun _ => 0)))]) hP hD [0, 2] [1, 3, 4, 5] rfl rfl (by decide) (by decide) hk1 hFc hP1 hD1
      generalize H1 = H at hP hS ⊢
      have hP : va_P (dC, dI) vwCl [(d, .inr (3, [.int 0, .int 0, .ref dL, .ref dK, .ref dV, .ref dN, .ref dS, .ref dB, .int 0])), (dV, .inl (cI, 10, .inl (fun _ => 0))), (h0, .inr (8, [.ref pr, .ref ma, .ref tm])), (pr, .inr (7, [.ref w, .ref d, .ref on, .ref op, .ref un, .int 0, .int 0])), (w, .inr (3, [.int 0, .int 0, .ref wL, .ref wK, .ref wV, .ref wN, .ref wS, .ref wB, .int 0])), (wV, .inl (cI, 10, .inl (fun _ => 0)))] _ := hP
      have hD : va_D A [(d, .inr (3, [.int 0, .int 0, .ref dL, .ref dK, .ref dV, .ref dN, .ref dS, .ref dB, .int 0])), (dV, .inl (cI, 10, .inl (fun _ => 0))), (h0, .inr (8, [.ref pr, .ref ma, .ref tm])), (pr, .inr (7, [.ref w, .ref d, .ref on, .ref op, .ref un, .int 0, .int 0])), (w, .inr (3, [.int 0, .int 0, .ref wL, .ref wK, .ref wV, .ref wN, .ref wS, .ref wB, .int 0])), (wV, .inl (cI, 10, .inl (fun _ => 0)))] := hD
      subst hw
      refine lv_if_ne (tgt := 23) hx hb dX5_requirePart_9 (by decide) (fun h9 => absurd (by decide) h9) (fun _ => ?_)
      exact thn _ 285 291 287 _ _ _ _ 12 _ (Or.inr (⟨rfl, Or.inl (hc1)⟩)) (hts (.classLink RX5 285 "java/util/NoSuchElementException") (List.mem_cons_of_mem _ (List.mem_append_left _ (List.mem_append_left _ (List.mem_append_left _ (List.mem_append_left _ (List.mem_append_left _ (List.mem_append_left _ (List.mem_append_left _ (List.mem_of_getElem? (i := 0) rfl)))))))))) (hts (.initialized "java/util/NoSuchElementException") (List.mem_cons_of_mem _ (List.mem_append_left _ (List.mem_append_left _ (List.mem_append_left _ (List.mem_append_left _ (List.mem_append_left _ (List.mem_append_left _ (List.mem_append_left _ (List.mem_of_getElem? (i := 1) rfl)))))))))) (hN.2 _ (List.mem_of_getElem? (i := 9) rfl)) (vx_hat (fun w h => hts w ((fun w h => List.mem_cons_of_mem _ (List.mem_append_left _ (List.mem_append_left _ (List.mem_append_right _ (h))))) w h)) (B := [.castable "java/util/NoSuchElementException" "java/util/NoSuchElementException", .declares ⟨"java/lang/RuntimeException", "<init>", "(Ljava/lang/String;)V"⟩, .declares ⟨"java/lang/Exception", "<init>", "(Ljava/lang/String;)V"⟩, .declares ⟨"java/lang/Throwable", "<init>", "(Ljava/lang/String;)V"⟩]) (by decide +kernel) (vx_c (va_Nw.use rfl (hN.1 _ (List.mem_of_getElem? (i := 27) rfl))) (vx_c (va_Nw.use rfl (hN.1 _ (List.mem_of_getElem? (i := 23) rfl))) (vx_c (va_Nw.use rfl (hN.1 _ (List.mem_of_getElem? (i := 24) rfl))) (vx_c (va_Nw.use rfl (hN.1 _ (List.mem_of_getElem? (i := 25) rfl))) vx_n))))) (by decide +kernel) hS hl.1 (Nat.le_of_ble_eq_true rfl) (Nat.le_of_ble_eq_true rfl) (Nat.le_of_ble_eq_true rfl) (Nat.le_of_ble_eq_true rfl) dX5_requirePart_12 dX5_requirePart_15 (Or.inr ⟨dX5_requirePart_16, dX5_requirePart_19, dX5_requirePart_22⟩)
    · skip
      refine W.eq (g2 := F0 m 5 ls [.ref d]) rfl ?_
      refine lv_iload_n hx hb dX5_requirePart_5 rfl (lv_at hl 2 rfl) ?_
      have hPc := hP.sub (ws' := [(d, .inr (3, [.int 0, .int 0, .ref dL, .ref dK, .ref dV, .ref dN, .ref dS, .ref dB, .int 0])), (dV, .inl (cI, 10, .inl (fun _ => 0)))]) [1, 3] rfl
      have hDc := hD.sub (ws' := [(d, .inr (3, [.int 0, .int 0, .ref dL, .ref dK, .ref dV, .ref dN, .ref dS, .ref dB, .int 0])), (dV, .inl (cI, 10, .inl (fun _ => 0)))]) [1, 3] (by decide) rfl
      have hKc := hK.sub (tys' := [(cI, .int)]) [0] rfl
      have hFc := va_free (wc := [(d, .inr (3, [.int 0, .int 0, .ref dL, .ref dK, .ref dV, .ref dN, .ref dS, .ref dB, .int 0])), (dV, .inl (cI, 10, .inl (fun _ => 0)))]) hD hS hA [1, 3] rfl
      refine va_calli (va_runV (As := [.int p1]) (rest := []) ⟨hx, hb, hml, hown, hts⟩ (kX0_hasPart l dC dI d dL dK dV dN dS dB cI p1 H.size) (cwV 1 hts gX5_requirePart_X0_hasPart rfl rfl rfl (by decide +kernel) ⟨Nat.le_of_ble_eq_true rfl, Nat.le_of_ble_eq_true rfl⟩) (fPreV hN hZ hS (fun q h => hFc q h) hPc hKc hDc (ci := 3) (q0 := 0) rfl rfl) rfl rfl hl.1 rfl (lv_room (Nat.le_of_ble_eq_true rfl)) dX5_requirePart_6 ⟨Nat.le_of_ble_eq_true rfl, Nat.le_of_ble_eq_true rfl⟩) hS (fun q _ h => hFc q h) hFc (fun r u t H1 locs ht hvm hw hB hz1 hk1 hS => ?_)
      obtain ⟨hP1, hK1, hD1⟩ := hB
      rw [ht] at hP1
      have hK1 := va_K.moved hvm.symm hK1
      obtain ⟨hP, hD⟩ := va_join (wr := [(w, .inr (3, [.int 0, .int 0, .ref wL, .ref wK, .ref wV, .ref wN, .ref wS, .ref wB, .int 0])), (wV, .inl (cI, 10, .inl (fun _ => 0))), (h0, .inr (8, [.ref pr, .ref ma, .ref tm])), (pr, .inr (7, [.ref w, .ref d, .ref on, .ref op, .ref un, .int 0, .int 0]))]) (w1 := [(d, .inr (3, [.int 0, .int 0, .ref dL, .ref dK, .ref dV, .ref dN, .ref dS, .ref dB, .int 0])), (dV, .inl (cI, 10, .inl (fun _ => 0)))]) hP hD [1, 3] [0, 2, 4, 5] rfl rfl (by decide) (by decide) hk1 hFc hP1 hD1
      generalize H1 = H at hP hS ⊢
      have hP : va_P (dC, dI) vwCl [(w, .inr (3, [.int 0, .int 0, .ref wL, .ref wK, .ref wV, .ref wN, .ref wS, .ref wB, .int 0])), (wV, .inl (cI, 10, .inl (fun _ => 0))), (h0, .inr (8, [.ref pr, .ref ma, .ref tm])), (pr, .inr (7, [.ref w, .ref d, .ref on, .ref op, .ref un, .int 0, .int 0])), (d, .inr (3, [.int 0, .int 0, .ref dL, .ref dK, .ref dV, .ref dN, .ref dS, .ref dB, .int 0])), (dV, .inl (cI, 10, .inl (fun _ => 0)))] _ := hP
      have hD : va_D A [(w, .inr (3, [.int 0, .int 0, .ref wL, .ref wK, .ref wV, .ref wN, .ref wS, .ref wB, .int 0])), (wV, .inl (cI, 10, .inl (fun _ => 0))), (h0, .inr (8, [.ref pr, .ref ma, .ref tm])), (pr, .inr (7, [.ref w, .ref d, .ref on, .ref op, .ref un, .int 0, .int 0])), (d, .inr (3, [.int 0, .int 0, .ref dL, .ref dK, .ref dV, .ref dN, .ref dS, .ref dB, .int 0])), (dV, .inl (cI, 10, .inl (fun _ => 0)))] := hD
      subst hw
      refine lv_if_ne (tgt := 23) hx hb dX5_requirePart_9 (by decide) (fun h9 => absurd (by decide) h9) (fun _ => ?_)
      exact thn _ 285 291 287 _ _ _ _ 12 _ (Or.inr (⟨rfl, Or.inr (hc2)⟩)) (hts (.classLink RX5 285 "java/util/NoSuchElementException") (List.mem_cons_of_mem _ (List.mem_append_left _ (List.mem_append_left _ (List.mem_append_left _ (List.mem_append_left _ (List.mem_append_left _ (List.mem_append_left _ (List.mem_append_left _ (List.mem_of_getElem? (i := 0) rfl)))))))))) (hts (.initialized "java/util/NoSuchElementException") (List.mem_cons_of_mem _ (List.mem_append_left _ (List.mem_append_left _ (List.mem_append_left _ (List.mem_append_left _ (List.mem_append_left _ (List.mem_append_left _ (List.mem_append_left _ (List.mem_of_getElem? (i := 1) rfl)))))))))) (hN.2 _ (List.mem_of_getElem? (i := 9) rfl)) (vx_hat (fun w h => hts w ((fun w h => List.mem_cons_of_mem _ (List.mem_append_left _ (List.mem_append_left _ (List.mem_append_right _ (h))))) w h)) (B := [.castable "java/util/NoSuchElementException" "java/util/NoSuchElementException", .declares ⟨"java/lang/RuntimeException", "<init>", "(Ljava/lang/String;)V"⟩, .declares ⟨"java/lang/Exception", "<init>", "(Ljava/lang/String;)V"⟩, .declares ⟨"java/lang/Throwable", "<init>", "(Ljava/lang/String;)V"⟩]) (by decide +kernel) (vx_c (va_Nw.use rfl (hN.1 _ (List.mem_of_getElem? (i := 27) rfl))) (vx_c (va_Nw.use rfl (hN.1 _ (List.mem_of_getElem? (i := 23) rfl))) (vx_c (va_Nw.use rfl (hN.1 _ (List.mem_of_getElem? (i := 24) rfl))) (vx_c (va_Nw.use rfl (hN.1 _ (List.mem_of_getElem? (i := 25) rfl))) vx_n))))) (by decide +kernel) hS hl.1 (Nat.le_of_ble_eq_true rfl) (Nat.le_of_ble_eq_true rfl) (Nat.le_of_ble_eq_true rfl) (Nat.le_of_ble_eq_true rfl) dX5_requirePart_12 dX5_requirePart_15 (Or.inr ⟨dX5_requirePart_16, dX5_requirePart_19, dX5_requirePart_22⟩)
