abbrev b_Lexer_byteAt : ByteArray := prog_4_method_4_code
abbrev y_Lexer_byteAt : MethodName := ⟨"ProofDesk$Lexer", "byteAt", "(I)I"⟩
theorem d_Lexer_byteAt_0 : decode b_Lexer_byteAt 0 = .ok (.iload_n 1, 1) := by decide +kernel
theorem d_Lexer_byteAt_1 : decode b_Lexer_byteAt 1 = .ok (.aload_n 0, 1) := by decide +kernel
theorem d_Lexer_byteAt_2 : decode b_Lexer_byteAt 2 = .ok (.getfield 19, 3) := by decide +kernel
theorem d_Lexer_byteAt_5 : decode b_Lexer_byteAt 5 = .ok (.if_icmp .ge 12, 3) := by decide +kernel
theorem d_Lexer_byteAt_8 : decode b_Lexer_byteAt 8 = .ok (.aload_n 0, 1) := by decide +kernel
theorem d_Lexer_byteAt_9 : decode b_Lexer_byteAt 9 = .ok (.getfield 15, 3) := by decide +kernel
theorem d_Lexer_byteAt_12 : decode b_Lexer_byteAt 12 = .ok (.iload_n 1, 1) := by decide +kernel
theorem d_Lexer_byteAt_13 : decode b_Lexer_byteAt 13 = .ok (.baload, 1) := by decide +kernel
theorem d_Lexer_byteAt_14 : decode b_Lexer_byteAt 14 = .ok (.goto 4, 3) := by decide +kernel
theorem d_Lexer_byteAt_18 : decode b_Lexer_byteAt 18 = .ok (.ireturn, 1) := by decide +kernel
set_option maxHeartbeats 4000000 in
set_option maxRecDepth 100000 in
theorem g_Lexer_byteAt1 (l : Launch) (D : va_G) (cI cB cZ cS : ClassId) (sz : Nat) (h0 : Nat) (q : Nat) (n : Nat) (f : Nat → Int32) (g0 : Value) (g3 : Value) (g4 : Value) (g5 : Value) (g6 : Value) (g7 : Value) (L : Nat) (x : Nat) (hL : L ≤ n) (hM : n ≤ 33554432) (hx9 : x < L) : Met l y_Lexer_byteAt (zc y_Lexer_byteAt b_Lexer_byteAt 2 (some .int)) ({ frames := 0, cells := 0, slots := 0, locals := 0 }) (zPc D (zty cI cB cZ cS) [(h0, .inr (3, [g0, .ref q, .int (nI L), g3, g4, g5, g6, g7])), (q, .inl (cB, n, .inl f))] sz [.ref h0, .int (nI x)]) (va_Qi (fun (r : Int32) (_ : Unit) => r = (f x)) (fun _ t => va_P D zcl [(h0, .inr (3, [g0, .ref q, .int (nI L), g3, g4, g5, g6, g7])), (q, .inl (cB, n, .inl f))] t.heap ∧ va_D (va_A [(h0, .inr (3, [g0, .ref q, .int (nI L), g3, g4, g5, g6, g7])), (q, .inl (cB, n, .inl f))] sz) [(h0, .inr (3, [g0, .ref q, .int (nI L), g3, g4, g5, g6, g7])), (q, .inl (cB, n, .inl f))]) (va_A [(h0, .inr (3, [g0, .ref q, .int (nI L), g3, g4, g5, g6, g7])), (q, .inl (cB, n, .inl f))] sz)) 0 0 (va_A [(h0, .inr (3, [g0, .ref q, .int (nI L), g3, g4, g5, g6, g7])), (q, .inl (cB, n, .inl f))] sz) := by
  refine Met.ofW (cc := b_Lexer_byteAt) (maxL := 2) (ret := (some .int)) (by decide) rfl ?_
  intro p e s m args below meth c s₁ B hml hv
  obtain ⟨rfl, hsz, hP, ⟨hK, hN⟩, hD0⟩ := hv
  have hx := B.exec
  have hb := B.bytes
  have hr := B.returns
  have hts0 := atoms_spec (ws := zc y_Lexer_byteAt b_Lexer_byteAt 2 (some .int)) B.pre
  have hts : ∀ w ∈ zw, w.before _ s = true := fun w hw => hts0 w (List.mem_cons_of_mem _ hw)
  have hown : s.vm.findClass "ProofDesk$Lexer" = some m.cls := findClass_of_methodNamed B.named
  have hlocks := B.notSynchronized
  subst hsz
  have hD := hD0.self (sz := s.heap.size)
  generalize hAe : va_A [(h0, .inr (3, [g0, .ref q, .int (nI L), g3, g4, g5, g6, g7])), (q, .inl (cB, n, .inl f))] s.heap.size = A at hD ⊢
  have hA : ∀ q : Nat, s.heap.size ≤ q → A q := fun q h => by rw [← hAe]; exact Or.inr h
  have hS : va_S A s.heap s.heap [] := va_S.rf
  have hP : va_P D zcl [(h0, .inr (3, [g0, .ref q, .int (nI L), g3, g4, g5, g6, g7])), (q, .inl (cB, n, .inl f))] s.heap := hP
  have hl := lv_entry ([.ref h0, .int (nI x)]) (n := 2) (Nat.le_of_ble_eq_true rfl)
  rw [lg_entry_eq]
  generalize (lg_sl ([.ref h0, .int (nI x)]) ++ List.replicate (2 - (lg_sl ([.ref h0, .int (nI x)])).length) Slot.unset).toArray = ls at hl ⊢
  have hl : lv_has ls 2 [(0, .ref h0), (1, .int (nI x))] := hl
  refine lv_iload_n hx hb d_Lexer_byteAt_0 rfl (lv_at hl 1 rfl) ?_
  refine lv_aload_n hx hb d_Lexer_byteAt_1 rfl (lv_at hl 0 rfl) ?_
  refine va_get (D := D) (ci := 3) (v := .int (nI L)) (C := "ProofDesk$Lexer") (T := F_Lexer) (N := 8) hx hb hts in_Lexer hown hK hP 0 rfl rfl 2 (by decide) (hts _ kw_263) (fun _ h9 => h9) rfl d_Lexer_byteAt_2 ?_
  have hc_1 : ¬ ((nI L) : Int32) ≤ (nI x) := nI_ge (by omega) (by omega)
  refine lv_icmp_ge hx hb d_Lexer_byteAt_5 rfl (fun h => absurd h hc_1) (fun _ => ?_)
  refine lv_aload_n hx hb d_Lexer_byteAt_8 rfl (lv_at hl 0 rfl) ?_
  refine va_get (D := D) (ci := 3) (v := .ref q) (C := "ProofDesk$Lexer") (T := F_Lexer) (N := 8) hx hb hts in_Lexer hown hK hP 0 rfl rfl 1 (by decide) (hts _ kw_262) (fun _ h9 => h9) rfl d_Lexer_byteAt_9 ?_
  refine lv_iload_n hx hb d_Lexer_byteAt_12 rfl (lv_at hl 1 rfl) ?_
  refine zz_bald (v := (f x)) hx hb hK hP 1 1 rfl rfl (i := (nI x)) x (zix_nI (by omega) (by omega)) (rfl) d_Lexer_byteAt_13 ?_
  refine lv_goto hx hb d_Lexer_byteAt_14 rfl ?_
  have hP9 := hP.sub (ws' := [(h0, .inr (3, [g0, .ref q, .int (nI L), g3, g4, g5, g6, g7])), (q, .inl (cB, n, .inl f))]) [0, 1] rfl
  have hD9 := hD.sub (ws' := [(h0, .inr (3, [g0, .ref q, .int (nI L), g3, g4, g5, g6, g7])), (q, .inl (cB, n, .inl f))]) [0, 1] (by decide +kernel) rfl
  refine W.widen (k := 0) (n := 0) (by omega) (by omega) ?_
  exact W.iret (v := (f x)) hx hb hr (fun t ht hW => ⟨⟨(f x), (), rfl, rfl, by rw [ht]; exact hP9, hD9⟩, hS.F ht⟩) hS.2.2 d_Lexer_byteAt_18
theorem d_Lexer_byteAt_17 : decode b_Lexer_byteAt 17 = .ok (.iconst 0, 1) := by decide +kernel
set_option maxHeartbeats 4000000 in
set_option maxRecDepth 100000 in
theorem g_Lexer_byteAt0 (l : Launch) (D : va_G) (cI cB cZ cS : ClassId) (sz : Nat) (h0 : Nat) (q : Nat) (n : Nat) (f : Nat → Int32) (g0 : Value) (g3 : Value) (g4 : Value) (g5 : Value) (g6 : Value) (g7 : Value) (L : Nat) (x : Nat) (hL : L ≤ n) (hM : n ≤ 33554432) (hx9 : L ≤ x) (hx8 : x ≤ 33554432) : Met l y_Lexer_byteAt (zc y_Lexer_byteAt b_Lexer_byteAt 2 (some .int)) ({ frames := 0, cells := 0, slots := 0, locals := 0 }) (zPc D (zty cI cB cZ cS) [(h0, .inr (3, [g0, .ref q, .int (nI L), g3, g4, g5, g6, g7])), (q, .inl (cB, n, .inl f))] sz [.ref h0, .int (nI x)]) (va_Qi (fun (r : Int32) (_ : Unit) => r = 0) (fun _ t => va_P D zcl [(h0, .inr (3, [g0, .ref q, .int (nI L), g3, g4, g5, g6, g7])), (q, .inl (cB, n, .inl f))] t.heap ∧ va_D (va_A [(h0, .inr (3, [g0, .ref q, .int (nI L), g3, g4, g5, g6, g7])), (q, .inl (cB, n, .inl f))] sz) [(h0, .inr (3, [g0, .ref q, .int (nI L), g3, g4, g5, g6, g7])), (q, .inl (cB, n, .inl f))]) (va_A [(h0, .inr (3, [g0, .ref q, .int (nI L), g3, g4, g5, g6, g7])), (q, .inl (cB, n, .inl f))] sz)) 0 0 (va_A [(h0, .inr (3, [g0, .ref q, .int (nI L), g3, g4, g5, g6, g7])), (q, .inl (cB, n, .inl f))] sz) := by
  refine Met.ofW (cc := b_Lexer_byteAt) (maxL := 2) (ret := (some .int)) (by decide) rfl ?_
  intro p e s m args below meth c s₁ B hml hv
  obtain ⟨rfl, hsz, hP, ⟨hK, hN⟩, hD0⟩ := hv
  have hx := B.exec
  have hb := B.bytes
  have hr := B.returns
  have hts0 := atoms_spec (ws := zc y_Lexer_byteAt b_Lexer_byteAt 2 (some .int)) B.pre
  have hts : ∀ w ∈ zw, w.before _ s = true := fun w hw => hts0 w (List.mem_cons_of_mem _ hw)
  have hown : s.vm.findClass "ProofDesk$Lexer" = some m.cls := findClass_of_methodNamed B.named
  have hlocks := B.notSynchronized
  subst hsz
  have hD := hD0.self (sz := s.heap.size)
  generalize hAe : va_A [(h0, .inr (3, [g0, .ref q, .int (nI L), g3, g4, g5, g6, g7])), (q, .inl (cB, n, .inl f))] s.heap.size = A at hD ⊢
  have hA : ∀ q : Nat, s.heap.size ≤ q → A q := fun q h => by rw [← hAe]; exact Or.inr h
  have hS : va_S A s.heap s.heap [] := va_S.rf
  have hP : va_P D zcl [(h0, .inr (3, [g0, .ref q, .int (nI L), g3, g4, g5, g6, g7])), (q, .inl (cB, n, .inl f))] s.heap := hP
  have hl := lv_entry ([.ref h0, .int (nI x)]) (n := 2) (Nat.le_of_ble_eq_true rfl)
  rw [lg_entry_eq]
  generalize (lg_sl ([.ref h0, .int (nI x)]) ++ List.replicate (2 - (lg_sl ([.ref h0, .int (nI x)])).length) Slot.unset).toArray = ls at hl ⊢
  have hl : lv_has ls 2 [(0, .ref h0), (1, .int (nI x))] := hl
  refine lv_iload_n hx hb d_Lexer_byteAt_0 rfl (lv_at hl 1 rfl) ?_
  refine lv_aload_n hx hb d_Lexer_byteAt_1 rfl (lv_at hl 0 rfl) ?_
  refine va_get (D := D) (ci := 3) (v := .int (nI L)) (C := "ProofDesk$Lexer") (T := F_Lexer) (N := 8) hx hb hts in_Lexer hown hK hP 0 rfl rfl 2 (by decide) (hts _ kw_263) (fun _ h9 => h9) rfl d_Lexer_byteAt_2 ?_
  have hc_1 : ((nI L) : Int32) ≤ (nI x) := nI_le (by omega) (by omega)
  refine lv_icmp_ge hx hb d_Lexer_byteAt_5 rfl (fun _ => ?_) (fun h => absurd hc_1 h)
  refine lv_iconst (v := 0) hx hb d_Lexer_byteAt_17 (by decide) ?_
  have hP9 := hP.sub (ws' := [(h0, .inr (3, [g0, .ref q, .int (nI L), g3, g4, g5, g6, g7])), (q, .inl (cB, n, .inl f))]) [0, 1] rfl
  have hD9 := hD.sub (ws' := [(h0, .inr (3, [g0, .ref q, .int (nI L), g3, g4, g5, g6, g7])), (q, .inl (cB, n, .inl f))]) [0, 1] (by decide +kernel) rfl
  refine W.widen (k := 0) (n := 0) (by omega) (by omega) ?_
  exact W.iret (v := 0) hx hb hr (fun t ht hW => ⟨⟨0, (), rfl, rfl, by rw [ht]; exact hP9, hD9⟩, hS.F ht⟩) hS.2.2 d_Lexer_byteAt_18
