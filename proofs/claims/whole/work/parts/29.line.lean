abbrev b_Lexer_endOfLine : ByteArray := prog_4_method_8_code
theorem d_Lexer_endOfLine_2 : decode b_Lexer_endOfLine 2 = .ok (.iload_n 2, 1) := by decide +kernel
theorem d_Lexer_endOfLine_3 : decode b_Lexer_endOfLine 3 = .ok (.aload_n 0, 1) := by decide +kernel
theorem d_Lexer_endOfLine_4 : decode b_Lexer_endOfLine 4 = .ok (.getfield 19, 3) := by decide +kernel
theorem d_Lexer_endOfLine_7 : decode b_Lexer_endOfLine 7 = .ok (.if_icmp .ge 20, 3) := by decide +kernel
theorem d_Lexer_endOfLine_10 : decode b_Lexer_endOfLine 10 = .ok (.aload_n 0, 1) := by decide +kernel
theorem d_Lexer_endOfLine_11 : decode b_Lexer_endOfLine 11 = .ok (.getfield 15, 3) := by decide +kernel
theorem d_Lexer_endOfLine_14 : decode b_Lexer_endOfLine 14 = .ok (.iload_n 2, 1) := by decide +kernel
theorem d_Lexer_endOfLine_15 : decode b_Lexer_endOfLine 15 = .ok (.baload, 1) := by decide +kernel
theorem d_Lexer_endOfLine_16 : decode b_Lexer_endOfLine 16 = .ok (.bipush 10, 2) := by decide +kernel
theorem d_Lexer_endOfLine_18 : decode b_Lexer_endOfLine 18 = .ok (.if_icmp .eq 9, 3) := by decide +kernel
theorem d_Lexer_endOfLine_21 : decode b_Lexer_endOfLine 21 = .ok (.iinc 2 1, 3) := by decide +kernel
theorem d_Lexer_endOfLine_24 : decode b_Lexer_endOfLine 24 = .ok (.goto (-22), 3) := by decide +kernel
set_option maxHeartbeats 2000000 in
set_option maxRecDepth 100000 in
theorem lp_endOfLineT {p : Program} {l : Launch} {e : Env} {R : Room} {s : State} {m : MethodId} {args : Array Value} {below : List Frame} {meth : Method} {c : Code} {H0 : Heap} {cells slots : Nat} {Q : State → Prop} {A : Nat → Prop} {D : va_G} {cI cB cZ cS : ClassId} (hx : p.tables.exec = Jvm.exec) (hb : c.code = b_Lexer_endOfLine) (hts : ∀ w ∈ zw, w.before args s = true) (hN : zN s) (hown : s.vm.findClass "ProofDesk$Lexer" = some m.cls) (hK : va_K D zcl (zty cI cB cZ cS) s) (h0 : Nat) (q : Nat) (n : Nat) (f : Nat → Int32) (g0 : Value) (g3 : Value) (g4 : Value) (g5 : Value) (g6 : Value) (g7 : Value) (L : Nat) (x : Nat) (N : Nat) (hL : L ≤ n) (hM : n ≤ 33554432) (hb9 : x + N ≤ L) (hnl : ∀ j, j < N → ¬ f (x + j) = 10) (hz : x + N = L)
    (kk : ∀ (H : Heap) (locs : List Loc) (ls : Array Slot), va_P D zcl [(h0, .inr (3, [g0, .ref q, .int (nI L), g3, g4, g5, g6, g7])), (q, .inl (cB, n, .inl f))] H → va_D A [(h0, .inr (3, [g0, .ref q, .int (nI L), g3, g4, g5, g6, g7])), (q, .inl (cB, n, .inl f))] → va_S A H0 H locs → lv_has ls 3 [(2, .int (nI (x + N))), (0, .ref h0), (1, .int (nI x))] → W p l e R s m args below meth c H locs cells slots Q (F0 m 27 ls [])) :
    ∀ (d j : Nat) (H : Heap) (locs : List Loc) (ls : Array Slot), j + d = N → va_P D zcl [(h0, .inr (3, [g0, .ref q, .int (nI L), g3, g4, g5, g6, g7])), (q, .inl (cB, n, .inl f))] H → va_D A [(h0, .inr (3, [g0, .ref q, .int (nI L), g3, g4, g5, g6, g7])), (q, .inl (cB, n, .inl f))] → va_S A H0 H locs → lv_has ls 3 [(2, .int (nI (x + j))), (0, .ref h0), (1, .int (nI x))] → W p l e R s m args below meth c H locs cells slots Q (F0 m 2 ls []) := by
  intro d
  induction d with
  | zero =>
    intro j H locs ls hj hP hD hS hl
    obtain rfl : N = j := by omega
    have hl : lv_has ls 3 [(2, .int (nI (x + N))), (0, .ref h0), (1, .int (nI x))] := hl
    refine lv_iload_n hx hb d_Lexer_endOfLine_2 rfl (lv_at hl 0 rfl) ?_
    refine lv_aload_n hx hb d_Lexer_endOfLine_3 rfl (lv_at hl 1 rfl) ?_
    refine va_get (D := D) (ci := 3) (v := .int (nI L)) (C := "ProofDesk$Lexer") (T := F_Lexer) (N := 8) hx hb hts in_Lexer hown hK hP 0 rfl rfl 2 (by decide) (hts _ kw_263) (fun _ h9 => h9) rfl d_Lexer_endOfLine_4 ?_
    have hc_1 : ((nI L) : Int32) ≤ (nI (x + N)) := nI_le (by omega) (by omega)
    refine lv_icmp_ge hx hb d_Lexer_endOfLine_7 rfl (fun _ => ?_) (fun h => absurd hc_1 h)
    exact kk H locs ls hP hD hS hl
  | succ d ih =>
    intro j H locs ls hj hP hD hS hl
    have hl : lv_has ls 3 [(2, .int (nI (x + j))), (0, .ref h0), (1, .int (nI x))] := hl
    refine lv_iload_n hx hb d_Lexer_endOfLine_2 rfl (lv_at hl 0 rfl) ?_
    refine lv_aload_n hx hb d_Lexer_endOfLine_3 rfl (lv_at hl 1 rfl) ?_
    refine va_get (D := D) (ci := 3) (v := .int (nI L)) (C := "ProofDesk$Lexer") (T := F_Lexer) (N := 8) hx hb hts in_Lexer hown hK hP 0 rfl rfl 2 (by decide) (hts _ kw_263) (fun _ h9 => h9) rfl d_Lexer_endOfLine_4 ?_
    have hc_1 : ¬ ((nI L) : Int32) ≤ (nI (x + j)) := nI_ge (by omega) (by omega)
    refine lv_icmp_ge hx hb d_Lexer_endOfLine_7 rfl (fun h => absurd h hc_1) (fun _ => ?_)
    refine lv_aload_n hx hb d_Lexer_endOfLine_10 rfl (lv_at hl 1 rfl) ?_
    refine va_get (D := D) (ci := 3) (v := .ref q) (C := "ProofDesk$Lexer") (T := F_Lexer) (N := 8) hx hb hts in_Lexer hown hK hP 0 rfl rfl 1 (by decide) (hts _ kw_262) (fun _ h9 => h9) rfl d_Lexer_endOfLine_11 ?_
    refine lv_iload_n hx hb d_Lexer_endOfLine_14 rfl (lv_at hl 0 rfl) ?_
    refine zz_bald (v := (f (x + j))) hx hb hK hP 1 1 rfl rfl (i := (nI (x + j))) (x + j) (zix_nI (by omega) (by omega)) (rfl) d_Lexer_endOfLine_15 ?_
    refine lv_bipush (v := 10) hx hb d_Lexer_endOfLine_16 (by decide) ?_
    have hc_2 : ¬ ((f (x + j)) : Int32) = 10 := hnl j (by omega)
    refine lv_icmp_eq hx hb d_Lexer_endOfLine_18 rfl (fun h => absurd h hc_2) (fun _ => ?_)
    refine lv_iinc (k := 0) (v := (nI (x + (j + 1)))) (lv' := [(2, .int (nI (x + (j + 1)))), (0, .ref h0), (1, .int (nI x))]) hx hb d_Lexer_endOfLine_21 hl rfl (nI_1 (x + j)) (by decide) rfl (fun ls hl => ?_)
    refine lv_goto hx hb d_Lexer_endOfLine_24 rfl ?_
    have hl : lv_has ls 3 [(2, .int (nI (x + (j + 1)))), (0, .ref h0), (1, .int (nI x))] := lv_sub hl [0, 1, 2] rfl
    exact ih (j + 1) H locs ls (by omega) hP hD hS hl
abbrev y_Lexer_endOfLine : MethodName := ⟨"ProofDesk$Lexer", "endOfLine", "(I)I"⟩
theorem d_Lexer_endOfLine_0 : decode b_Lexer_endOfLine 0 = .ok (.iload_n 1, 1) := by decide +kernel
theorem d_Lexer_endOfLine_1 : decode b_Lexer_endOfLine 1 = .ok (.istore_n 2, 1) := by decide +kernel
theorem d_Lexer_endOfLine_27 : decode b_Lexer_endOfLine 27 = .ok (.iload_n 2, 1) := by decide +kernel
theorem d_Lexer_endOfLine_28 : decode b_Lexer_endOfLine 28 = .ok (.ireturn, 1) := by decide +kernel
set_option maxHeartbeats 4000000 in
set_option maxRecDepth 100000 in
theorem g_Lexer_endOfLineT (l : Launch) (D : va_G) (cI cB cZ cS : ClassId) (sz : Nat) (h0 : Nat) (q : Nat) (n : Nat) (f : Nat → Int32) (g0 : Value) (g3 : Value) (g4 : Value) (g5 : Value) (g6 : Value) (g7 : Value) (L : Nat) (x : Nat) (N : Nat) (hL : L ≤ n) (hM : n ≤ 33554432) (hb9 : x + N ≤ L) (hnl : ∀ j, j < N → ¬ f (x + j) = 10) (hz : x + N = L) : Met l y_Lexer_endOfLine (zc y_Lexer_endOfLine b_Lexer_endOfLine 3 (some .int)) ({ frames := 0, cells := 0, slots := 0, locals := 0 }) (zPc D (zty cI cB cZ cS) [(h0, .inr (3, [g0, .ref q, .int (nI L), g3, g4, g5, g6, g7])), (q, .inl (cB, n, .inl f))] sz [.ref h0, .int (nI x)]) (va_Qi (fun (r : Int32) (_ : Unit) => r = (nI (x + N))) (fun _ t => va_P D zcl [(h0, .inr (3, [g0, .ref q, .int (nI L), g3, g4, g5, g6, g7])), (q, .inl (cB, n, .inl f))] t.heap ∧ va_D (va_A [(h0, .inr (3, [g0, .ref q, .int (nI L), g3, g4, g5, g6, g7])), (q, .inl (cB, n, .inl f))] sz) [(h0, .inr (3, [g0, .ref q, .int (nI L), g3, g4, g5, g6, g7])), (q, .inl (cB, n, .inl f))]) (va_A [(h0, .inr (3, [g0, .ref q, .int (nI L), g3, g4, g5, g6, g7])), (q, .inl (cB, n, .inl f))] sz)) 0 0 (va_A [(h0, .inr (3, [g0, .ref q, .int (nI L), g3, g4, g5, g6, g7])), (q, .inl (cB, n, .inl f))] sz) := by
  refine Met.ofW (cc := b_Lexer_endOfLine) (maxL := 3) (ret := (some .int)) (by decide) rfl ?_
  intro p e s m args below meth c s₁ B hml hv
  obtain ⟨rfl, hsz, hP, ⟨hK, hN⟩, hD0⟩ := hv
  have hx := B.exec
  have hb := B.bytes
  have hr := B.returns
  have hts0 := atoms_spec (ws := zc y_Lexer_endOfLine b_Lexer_endOfLine 3 (some .int)) B.pre
  have hts : ∀ w ∈ zw, w.before _ s = true := fun w hw => hts0 w (List.mem_cons_of_mem _ hw)
  have hown : s.vm.findClass "ProofDesk$Lexer" = some m.cls := findClass_of_methodNamed B.named
  have hlocks := B.notSynchronized
  subst hsz
  have hD := hD0.self (sz := s.heap.size)
  generalize hAe : va_A [(h0, .inr (3, [g0, .ref q, .int (nI L), g3, g4, g5, g6, g7])), (q, .inl (cB, n, .inl f))] s.heap.size = A at hD ⊢
  have hA : ∀ q : Nat, s.heap.size ≤ q → A q := fun q h => by rw [← hAe]; exact Or.inr h
  have hS : va_S A s.heap s.heap [] := va_S.rf
  have hP : va_P D zcl [(h0, .inr (3, [g0, .ref q, .int (nI L), g3, g4, g5, g6, g7])), (q, .inl (cB, n, .inl f))] s.heap := hP
  have hl := lv_entry ([.ref h0, .int (nI x)]) (n := 3) (Nat.le_of_ble_eq_true rfl)
  rw [lg_entry_eq]
  generalize (lg_sl ([.ref h0, .int (nI x)]) ++ List.replicate (3 - (lg_sl ([.ref h0, .int (nI x)])).length) Slot.unset).toArray = ls at hl ⊢
  have hl : lv_has ls 3 [(0, .ref h0), (1, .int (nI x))] := hl
  refine lv_iload_n hx hb d_Lexer_endOfLine_0 rfl (lv_at hl 1 rfl) ?_
  refine lv_istore_n (lv' := [(2, .int (nI x)), (0, .ref h0), (1, .int (nI x))]) hx hb d_Lexer_endOfLine_1 rfl hl (by decide) rfl (fun ls hl => ?_)
  have hl : lv_has ls 3 [(2, .int (nI (x + 0))), (0, .ref h0), (1, .int (nI x))] := lv_sub hl [0, 1, 2] rfl
  have hP : va_P D zcl [(h0, .inr (3, [g0, .ref q, .int (nI L), g3, g4, g5, g6, g7])), (q, .inl (cB, n, .inl f))] s.heap := hP
  have hD : va_D A [(h0, .inr (3, [g0, .ref q, .int (nI L), g3, g4, g5, g6, g7])), (q, .inl (cB, n, .inl f))] := hD
  refine lp_endOfLineT hx hb hts hN hown hK h0 q n f g0 g3 g4 g5 g6 g7 L x N hL hM hb9 hnl hz (fun H locs ls hP hD hS hl => ?_) N 0 _ _ _ (by omega) hP hD hS hl
  refine lv_iload_n hx hb d_Lexer_endOfLine_27 rfl (lv_at hl 0 rfl) ?_
  have hP9 := hP.sub (ws' := [(h0, .inr (3, [g0, .ref q, .int (nI L), g3, g4, g5, g6, g7])), (q, .inl (cB, n, .inl f))]) [0, 1] rfl
  have hD9 := hD.sub (ws' := [(h0, .inr (3, [g0, .ref q, .int (nI L), g3, g4, g5, g6, g7])), (q, .inl (cB, n, .inl f))]) [0, 1] (by decide +kernel) rfl
  refine W.widen (k := 0) (n := 0) (by omega) (by omega) ?_
  exact W.iret (v := (nI (x + N))) hx hb hr (fun t ht hW => ⟨⟨(nI (x + N)), (), rfl, rfl, by rw [ht]; exact hP9, hD9⟩, hS.F ht⟩) hS.2.2 d_Lexer_endOfLine_28
set_option maxHeartbeats 2000000 in
set_option maxRecDepth 100000 in
theorem lp_endOfLineL {p : Program} {l : Launch} {e : Env} {R : Room} {s : State} {m : MethodId} {args : Array Value} {below : List Frame} {meth : Method} {c : Code} {H0 : Heap} {cells slots : Nat} {Q : State → Prop} {A : Nat → Prop} {D : va_G} {cI cB cZ cS : ClassId} (hx : p.tables.exec = Jvm.exec) (hb : c.code = b_Lexer_endOfLine) (hts : ∀ w ∈ zw, w.before args s = true) (hN : zN s) (hown : s.vm.findClass "ProofDesk$Lexer" = some m.cls) (hK : va_K D zcl (zty cI cB cZ cS) s) (h0 : Nat) (q : Nat) (n : Nat) (f : Nat → Int32) (g0 : Value) (g3 : Value) (g4 : Value) (g5 : Value) (g6 : Value) (g7 : Value) (L : Nat) (x : Nat) (N : Nat) (hL : L ≤ n) (hM : n ≤ 33554432) (hb9 : x + N ≤ L) (hnl : ∀ j, j < N → ¬ f (x + j) = 10) (hz : x + N < L) (hy : f (x + N) = 10)
    (kk : ∀ (H : Heap) (locs : List Loc) (ls : Array Slot), va_P D zcl [(h0, .inr (3, [g0, .ref q, .int (nI L), g3, g4, g5, g6, g7])), (q, .inl (cB, n, .inl f))] H → va_D A [(h0, .inr (3, [g0, .ref q, .int (nI L), g3, g4, g5, g6, g7])), (q, .inl (cB, n, .inl f))] → va_S A H0 H locs → lv_has ls 3 [(2, .int (nI (x + N))), (0, .ref h0), (1, .int (nI x))] → W p l e R s m args below meth c H locs cells slots Q (F0 m 27 ls [])) :
    ∀ (d j : Nat) (H : Heap) (locs : List Loc) (ls : Array Slot), j + d = N → va_P D zcl [(h0, .inr (3, [g0, .ref q, .int (nI L), g3, g4, g5, g6, g7])), (q, .inl (cB, n, .inl f))] H → va_D A [(h0, .inr (3, [g0, .ref q, .int (nI L), g3, g4, g5, g6, g7])), (q, .inl (cB, n, .inl f))] → va_S A H0 H locs → lv_has ls 3 [(2, .int (nI (x + j))), (0, .ref h0), (1, .int (nI x))] → W p l e R s m args below meth c H locs cells slots Q (F0 m 2 ls []) := by
  intro d
  induction d with
  | zero =>
    intro j H locs ls hj hP hD hS hl
    obtain rfl : N = j := by omega
    have hl : lv_has ls 3 [(2, .int (nI (x + N))), (0, .ref h0), (1, .int (nI x))] := hl
    refine lv_iload_n hx hb d_Lexer_endOfLine_2 rfl (lv_at hl 0 rfl) ?_
    refine lv_aload_n hx hb d_Lexer_endOfLine_3 rfl (lv_at hl 1 rfl) ?_
    refine va_get (D := D) (ci := 3) (v := .int (nI L)) (C := "ProofDesk$Lexer") (T := F_Lexer) (N := 8) hx hb hts in_Lexer hown hK hP 0 rfl rfl 2 (by decide) (hts _ kw_263) (fun _ h9 => h9) rfl d_Lexer_endOfLine_4 ?_
    have hc_1 : ¬ ((nI L) : Int32) ≤ (nI (x + N)) := nI_ge (by omega) (by omega)
    refine lv_icmp_ge hx hb d_Lexer_endOfLine_7 rfl (fun h => absurd h hc_1) (fun _ => ?_)
    refine lv_aload_n hx hb d_Lexer_endOfLine_10 rfl (lv_at hl 1 rfl) ?_
    refine va_get (D := D) (ci := 3) (v := .ref q) (C := "ProofDesk$Lexer") (T := F_Lexer) (N := 8) hx hb hts in_Lexer hown hK hP 0 rfl rfl 1 (by decide) (hts _ kw_262) (fun _ h9 => h9) rfl d_Lexer_endOfLine_11 ?_
    refine lv_iload_n hx hb d_Lexer_endOfLine_14 rfl (lv_at hl 0 rfl) ?_
    refine zz_bald (v := (f (x + N))) hx hb hK hP 1 1 rfl rfl (i := (nI (x + N))) (x + N) (zix_nI (by omega) (by omega)) (rfl) d_Lexer_endOfLine_15 ?_
    refine lv_bipush (v := 10) hx hb d_Lexer_endOfLine_16 (by decide) ?_
    have hc_2 : ((f (x + N)) : Int32) = 10 := hy
    refine lv_icmp_eq hx hb d_Lexer_endOfLine_18 rfl (fun _ => ?_) (fun h => absurd hc_2 h)
    exact kk H locs ls hP hD hS hl
  | succ d ih =>
    intro j H locs ls hj hP hD hS hl
    have hl : lv_has ls 3 [(2, .int (nI (x + j))), (0, .ref h0), (1, .int (nI x))] := hl
    refine lv_iload_n hx hb d_Lexer_endOfLine_2 rfl (lv_at hl 0 rfl) ?_
    refine lv_aload_n hx hb d_Lexer_endOfLine_3 rfl (lv_at hl 1 rfl) ?_
    refine va_get (D := D) (ci := 3) (v := .int (nI L)) (C := "ProofDesk$Lexer") (T := F_Lexer) (N := 8) hx hb hts in_Lexer hown hK hP 0 rfl rfl 2 (by decide) (hts _ kw_263) (fun _ h9 => h9) rfl d_Lexer_endOfLine_4 ?_
    have hc_1 : ¬ ((nI L) : Int32) ≤ (nI (x + j)) := nI_ge (by omega) (by omega)
    refine lv_icmp_ge hx hb d_Lexer_endOfLine_7 rfl (fun h => absurd h hc_1) (fun _ => ?_)
    refine lv_aload_n hx hb d_Lexer_endOfLine_10 rfl (lv_at hl 1 rfl) ?_
    refine va_get (D := D) (ci := 3) (v := .ref q) (C := "ProofDesk$Lexer") (T := F_Lexer) (N := 8) hx hb hts in_Lexer hown hK hP 0 rfl rfl 1 (by decide) (hts _ kw_262) (fun _ h9 => h9) rfl d_Lexer_endOfLine_11 ?_
    refine lv_iload_n hx hb d_Lexer_endOfLine_14 rfl (lv_at hl 0 rfl) ?_
    refine zz_bald (v := (f (x + j))) hx hb hK hP 1 1 rfl rfl (i := (nI (x + j))) (x + j) (zix_nI (by omega) (by omega)) (rfl) d_Lexer_endOfLine_15 ?_
    refine lv_bipush (v := 10) hx hb d_Lexer_endOfLine_16 (by decide) ?_
    have hc_2 : ¬ ((f (x + j)) : Int32) = 10 := hnl j (by omega)
    refine lv_icmp_eq hx hb d_Lexer_endOfLine_18 rfl (fun h => absurd h hc_2) (fun _ => ?_)
    refine lv_iinc (k := 0) (v := (nI (x + (j + 1)))) (lv' := [(2, .int (nI (x + (j + 1)))), (0, .ref h0), (1, .int (nI x))]) hx hb d_Lexer_endOfLine_21 hl rfl (nI_1 (x + j)) (by decide) rfl (fun ls hl => ?_)
    refine lv_goto hx hb d_Lexer_endOfLine_24 rfl ?_
    have hl : lv_has ls 3 [(2, .int (nI (x + (j + 1)))), (0, .ref h0), (1, .int (nI x))] := lv_sub hl [0, 1, 2] rfl
    exact ih (j + 1) H locs ls (by omega) hP hD hS hl
set_option maxHeartbeats 4000000 in
set_option maxRecDepth 100000 in
theorem g_Lexer_endOfLineL (l : Launch) (D : va_G) (cI cB cZ cS : ClassId) (sz : Nat) (h0 : Nat) (q : Nat) (n : Nat) (f : Nat → Int32) (g0 : Value) (g3 : Value) (g4 : Value) (g5 : Value) (g6 : Value) (g7 : Value) (L : Nat) (x : Nat) (N : Nat) (hL : L ≤ n) (hM : n ≤ 33554432) (hb9 : x + N ≤ L) (hnl : ∀ j, j < N → ¬ f (x + j) = 10) (hz : x + N < L) (hy : f (x + N) = 10) : Met l y_Lexer_endOfLine (zc y_Lexer_endOfLine b_Lexer_endOfLine 3 (some .int)) ({ frames := 0, cells := 0, slots := 0, locals := 0 }) (zPc D (zty cI cB cZ cS) [(h0, .inr (3, [g0, .ref q, .int (nI L), g3, g4, g5, g6, g7])), (q, .inl (cB, n, .inl f))] sz [.ref h0, .int (nI x)]) (va_Qi (fun (r : Int32) (_ : Unit) => r = (nI (x + N))) (fun _ t => va_P D zcl [(h0, .inr (3, [g0, .ref q, .int (nI L), g3, g4, g5, g6, g7])), (q, .inl (cB, n, .inl f))] t.heap ∧ va_D (va_A [(h0, .inr (3, [g0, .ref q, .int (nI L), g3, g4, g5, g6, g7])), (q, .inl (cB, n, .inl f))] sz) [(h0, .inr (3, [g0, .ref q, .int (nI L), g3, g4, g5, g6, g7])), (q, .inl (cB, n, .inl f))]) (va_A [(h0, .inr (3, [g0, .ref q, .int (nI L), g3, g4, g5, g6, g7])), (q, .inl (cB, n, .inl f))] sz)) 0 0 (va_A [(h0, .inr (3, [g0, .ref q, .int (nI L), g3, g4, g5, g6, g7])), (q, .inl (cB, n, .inl f))] sz) := by
  refine Met.ofW (cc := b_Lexer_endOfLine) (maxL := 3) (ret := (some .int)) (by decide) rfl ?_
  intro p e s m args below meth c s₁ B hml hv
  obtain ⟨rfl, hsz, hP, ⟨hK, hN⟩, hD0⟩ := hv
  have hx := B.exec
  have hb := B.bytes
  have hr := B.returns
  have hts0 := atoms_spec (ws := zc y_Lexer_endOfLine b_Lexer_endOfLine 3 (some .int)) B.pre
  have hts : ∀ w ∈ zw, w.before _ s = true := fun w hw => hts0 w (List.mem_cons_of_mem _ hw)
  have hown : s.vm.findClass "ProofDesk$Lexer" = some m.cls := findClass_of_methodNamed B.named
  have hlocks := B.notSynchronized
  subst hsz
  have hD := hD0.self (sz := s.heap.size)
  generalize hAe : va_A [(h0, .inr (3, [g0, .ref q, .int (nI L), g3, g4, g5, g6, g7])), (q, .inl (cB, n, .inl f))] s.heap.size = A at hD ⊢
  have hA : ∀ q : Nat, s.heap.size ≤ q → A q := fun q h => by rw [← hAe]; exact Or.inr h
  have hS : va_S A s.heap s.heap [] := va_S.rf
  have hP : va_P D zcl [(h0, .inr (3, [g0, .ref q, .int (nI L), g3, g4, g5, g6, g7])), (q, .inl (cB, n, .inl f))] s.heap := hP
  have hl := lv_entry ([.ref h0, .int (nI x)]) (n := 3) (Nat.le_of_ble_eq_true rfl)
  rw [lg_entry_eq]
  generalize (lg_sl ([.ref h0, .int (nI x)]) ++ List.replicate (3 - (lg_sl ([.ref h0, .int (nI x)])).length) Slot.unset).toArray = ls at hl ⊢
  have hl : lv_has ls 3 [(0, .ref h0), (1, .int (nI x))] := hl
  refine lv_iload_n hx hb d_Lexer_endOfLine_0 rfl (lv_at hl 1 rfl) ?_
  refine lv_istore_n (lv' := [(2, .int (nI x)), (0, .ref h0), (1, .int (nI x))]) hx hb d_Lexer_endOfLine_1 rfl hl (by decide) rfl (fun ls hl => ?_)
  have hl : lv_has ls 3 [(2, .int (nI (x + 0))), (0, .ref h0), (1, .int (nI x))] := lv_sub hl [0, 1, 2] rfl
  have hP : va_P D zcl [(h0, .inr (3, [g0, .ref q, .int (nI L), g3, g4, g5, g6, g7])), (q, .inl (cB, n, .inl f))] s.heap := hP
  have hD : va_D A [(h0, .inr (3, [g0, .ref q, .int (nI L), g3, g4, g5, g6, g7])), (q, .inl (cB, n, .inl f))] := hD
  refine lp_endOfLineL hx hb hts hN hown hK h0 q n f g0 g3 g4 g5 g6 g7 L x N hL hM hb9 hnl hz hy (fun H locs ls hP hD hS hl => ?_) N 0 _ _ _ (by omega) hP hD hS hl
  refine lv_iload_n hx hb d_Lexer_endOfLine_27 rfl (lv_at hl 0 rfl) ?_
  have hP9 := hP.sub (ws' := [(h0, .inr (3, [g0, .ref q, .int (nI L), g3, g4, g5, g6, g7])), (q, .inl (cB, n, .inl f))]) [0, 1] rfl
  have hD9 := hD.sub (ws' := [(h0, .inr (3, [g0, .ref q, .int (nI L), g3, g4, g5, g6, g7])), (q, .inl (cB, n, .inl f))]) [0, 1] (by decide +kernel) rfl
  refine W.widen (k := 0) (n := 0) (by omega) (by omega) ?_
  exact W.iret (v := (nI (x + N))) hx hb hr (fun t ht hW => ⟨⟨(nI (x + N)), (), rfl, rfl, by rw [ht]; exact hP9, hD9⟩, hS.F ht⟩) hS.2.2 d_Lexer_endOfLine_28
