abbrev b_Shelf_kindOf : ByteArray := prog_10_method_5_code
abbrev y_Shelf_kindOf : MethodName := ⟨"ProofDesk$Shelf", "kindOf", "(I)I"⟩
theorem d_Shelf_kindOf_0 : decode b_Shelf_kindOf 0 = .ok (.aload_n 0, 1) := by decide +kernel
theorem d_Shelf_kindOf_1 : decode b_Shelf_kindOf 1 = .ok (.getfield 11, 3) := by decide +kernel
theorem d_Shelf_kindOf_4 : decode b_Shelf_kindOf 4 = .ok (.bipush 20, 2) := by decide +kernel
theorem d_Shelf_kindOf_6 : decode b_Shelf_kindOf 6 = .ok (.iload_n 1, 1) := by decide +kernel
theorem d_Shelf_kindOf_7 : decode b_Shelf_kindOf 7 = .ok (.imul, 1) := by decide +kernel
theorem d_Shelf_kindOf_8 : decode b_Shelf_kindOf 8 = .ok (.iconst 0, 1) := by decide +kernel
theorem d_Shelf_kindOf_9 : decode b_Shelf_kindOf 9 = .ok (.iadd, 1) := by decide +kernel
theorem d_Shelf_kindOf_10 : decode b_Shelf_kindOf 10 = .ok (.iaload, 1) := by decide +kernel
theorem d_Shelf_kindOf_11 : decode b_Shelf_kindOf 11 = .ok (.ireturn, 1) := by decide +kernel
set_option maxHeartbeats 4000000 in
set_option maxRecDepth 100000 in
theorem g_Shelf_kindOf (l : Launch) (D : va_G) (cI cB cZ cS : ClassId) (sz : Nat) (h0 : Nat) (q : Nat) (n : Nat) (f : Nat → Int32) (g0 : Value) (g1 : Value) (g3 : Value) (g4 : Value) (g5 : Value) (g6 : Value) (g7 : Value) (g8 : Value) (g9 : Value) (g10 : Value) (x : Nat) (hx9 : 20 * x + 0 < n) (hN : n ≤ 33554432) : Met l y_Shelf_kindOf (zc y_Shelf_kindOf b_Shelf_kindOf 2 (some .int)) ({ frames := 0, cells := 0, slots := 0, locals := 0 }) (zPc D (zty cI cB cZ cS) [(h0, .inr (5, [g0, g1, .ref q, g3, g4, g5, g6, g7, g8, g9, g10])), (q, .inl (cI, n, .inl f))] sz [.ref h0, .int (nI x)]) (va_Qi (fun (r : Int32) (_ : Unit) => r = (f (20 * x + 0))) (fun _ t => va_P D zcl [(h0, .inr (5, [g0, g1, .ref q, g3, g4, g5, g6, g7, g8, g9, g10])), (q, .inl (cI, n, .inl f))] t.heap ∧ va_D (va_A [(h0, .inr (5, [g0, g1, .ref q, g3, g4, g5, g6, g7, g8, g9, g10])), (q, .inl (cI, n, .inl f))] sz) [(h0, .inr (5, [g0, g1, .ref q, g3, g4, g5, g6, g7, g8, g9, g10])), (q, .inl (cI, n, .inl f))]) (va_A [(h0, .inr (5, [g0, g1, .ref q, g3, g4, g5, g6, g7, g8, g9, g10])), (q, .inl (cI, n, .inl f))] sz)) 0 0 (va_A [(h0, .inr (5, [g0, g1, .ref q, g3, g4, g5, g6, g7, g8, g9, g10])), (q, .inl (cI, n, .inl f))] sz) := by
  refine Met.ofW (cc := b_Shelf_kindOf) (maxL := 2) (ret := (some .int)) (by decide) rfl ?_
  intro p e s m args below meth c s₁ B hml hv
  obtain ⟨rfl, hsz, hP, ⟨hK, hN⟩, hD0⟩ := hv
  have hx := B.exec
  have hb := B.bytes
  have hr := B.returns
  have hts0 := atoms_spec (ws := zc y_Shelf_kindOf b_Shelf_kindOf 2 (some .int)) B.pre
  have hts : ∀ w ∈ zw, w.before _ s = true := fun w hw => hts0 w (List.mem_cons_of_mem _ hw)
  have hown : s.vm.findClass "ProofDesk$Shelf" = some m.cls := findClass_of_methodNamed B.named
  have hlocks := B.notSynchronized
  subst hsz
  have hD := hD0.self (sz := s.heap.size)
  generalize hAe : va_A [(h0, .inr (5, [g0, g1, .ref q, g3, g4, g5, g6, g7, g8, g9, g10])), (q, .inl (cI, n, .inl f))] s.heap.size = A at hD ⊢
  have hA : ∀ q : Nat, s.heap.size ≤ q → A q := fun q h => by rw [← hAe]; exact Or.inr h
  have hS : va_S A s.heap s.heap [] := va_S.rf
  have hP : va_P D zcl [(h0, .inr (5, [g0, g1, .ref q, g3, g4, g5, g6, g7, g8, g9, g10])), (q, .inl (cI, n, .inl f))] s.heap := hP
  have hl := lv_entry ([.ref h0, .int (nI x)]) (n := 2) (Nat.le_of_ble_eq_true rfl)
  rw [lg_entry_eq]
  generalize (lg_sl ([.ref h0, .int (nI x)]) ++ List.replicate (2 - (lg_sl ([.ref h0, .int (nI x)])).length) Slot.unset).toArray = ls at hl ⊢
  have hl : lv_has ls 2 [(0, .ref h0), (1, .int (nI x))] := hl
  refine lv_aload_n hx hb d_Shelf_kindOf_0 rfl (lv_at hl 0 rfl) ?_
  refine va_get (D := D) (ci := 5) (v := .ref q) (C := "ProofDesk$Shelf") (T := F_Shelf) (N := 11) hx hb hts in_Shelf hown hK hP 0 rfl rfl 2 (by decide) (hts _ kw_219) (fun _ h9 => h9) rfl d_Shelf_kindOf_1 ?_
  refine lv_bipush (v := 20) hx hb d_Shelf_kindOf_4 (by decide) ?_
  refine lv_iload_n hx hb d_Shelf_kindOf_6 rfl (lv_at hl 1 rfl) ?_
  refine lv_imul hx hb d_Shelf_kindOf_7 ?_
  refine zz_i (y := nI (20 * x)) (pk_mul 20 x) ?_
  refine lv_iconst (v := 0) hx hb d_Shelf_kindOf_8 (by decide) ?_
  refine lv_iadd hx hb d_Shelf_kindOf_9 ?_
  refine zz_i (y := nI (20 * x + 0)) (nI_add (20 * x) 0) ?_
  refine zz_iald (v := (f (20 * x + 0))) hx hb hK hP 1 0 rfl rfl (i := (nI (20 * x + 0))) (20 * x + 0) (zix_nI (by omega) (by omega)) (rfl) d_Shelf_kindOf_10 ?_
  have hP9 := hP.sub (ws' := [(h0, .inr (5, [g0, g1, .ref q, g3, g4, g5, g6, g7, g8, g9, g10])), (q, .inl (cI, n, .inl f))]) [0, 1] rfl
  have hD9 := hD.sub (ws' := [(h0, .inr (5, [g0, g1, .ref q, g3, g4, g5, g6, g7, g8, g9, g10])), (q, .inl (cI, n, .inl f))]) [0, 1] (by decide +kernel) rfl
  refine W.widen (k := 0) (n := 0) (by omega) (by omega) ?_
  exact W.iret (v := (f (20 * x + 0))) hx hb hr (fun t ht hW => ⟨⟨(f (20 * x + 0)), (), rfl, rfl, by rw [ht]; exact hP9, hD9⟩, hS.F ht⟩) hS.2.2 d_Shelf_kindOf_11
abbrev b_Shelf_nameOf : ByteArray := prog_10_method_6_code
abbrev y_Shelf_nameOf : MethodName := ⟨"ProofDesk$Shelf", "nameOf", "(I)I"⟩
theorem d_Shelf_nameOf_0 : decode b_Shelf_nameOf 0 = .ok (.aload_n 0, 1) := by decide +kernel
theorem d_Shelf_nameOf_1 : decode b_Shelf_nameOf 1 = .ok (.getfield 11, 3) := by decide +kernel
theorem d_Shelf_nameOf_4 : decode b_Shelf_nameOf 4 = .ok (.bipush 20, 2) := by decide +kernel
theorem d_Shelf_nameOf_6 : decode b_Shelf_nameOf 6 = .ok (.iload_n 1, 1) := by decide +kernel
theorem d_Shelf_nameOf_7 : decode b_Shelf_nameOf 7 = .ok (.imul, 1) := by decide +kernel
theorem d_Shelf_nameOf_8 : decode b_Shelf_nameOf 8 = .ok (.iconst 1, 1) := by decide +kernel
theorem d_Shelf_nameOf_9 : decode b_Shelf_nameOf 9 = .ok (.iadd, 1) := by decide +kernel
theorem d_Shelf_nameOf_10 : decode b_Shelf_nameOf 10 = .ok (.iaload, 1) := by decide +kernel
theorem d_Shelf_nameOf_11 : decode b_Shelf_nameOf 11 = .ok (.ireturn, 1) := by decide +kernel
set_option maxHeartbeats 4000000 in
set_option maxRecDepth 100000 in
theorem g_Shelf_nameOf (l : Launch) (D : va_G) (cI cB cZ cS : ClassId) (sz : Nat) (h0 : Nat) (q : Nat) (n : Nat) (f : Nat → Int32) (g0 : Value) (g1 : Value) (g3 : Value) (g4 : Value) (g5 : Value) (g6 : Value) (g7 : Value) (g8 : Value) (g9 : Value) (g10 : Value) (x : Nat) (hx9 : 20 * x + 1 < n) (hN : n ≤ 33554432) : Met l y_Shelf_nameOf (zc y_Shelf_nameOf b_Shelf_nameOf 2 (some .int)) ({ frames := 0, cells := 0, slots := 0, locals := 0 }) (zPc D (zty cI cB cZ cS) [(h0, .inr (5, [g0, g1, .ref q, g3, g4, g5, g6, g7, g8, g9, g10])), (q, .inl (cI, n, .inl f))] sz [.ref h0, .int (nI x)]) (va_Qi (fun (r : Int32) (_ : Unit) => r = (f (20 * x + 1))) (fun _ t => va_P D zcl [(h0, .inr (5, [g0, g1, .ref q, g3, g4, g5, g6, g7, g8, g9, g10])), (q, .inl (cI, n, .inl f))] t.heap ∧ va_D (va_A [(h0, .inr (5, [g0, g1, .ref q, g3, g4, g5, g6, g7, g8, g9, g10])), (q, .inl (cI, n, .inl f))] sz) [(h0, .inr (5, [g0, g1, .ref q, g3, g4, g5, g6, g7, g8, g9, g10])), (q, .inl (cI, n, .inl f))]) (va_A [(h0, .inr (5, [g0, g1, .ref q, g3, g4, g5, g6, g7, g8, g9, g10])), (q, .inl (cI, n, .inl f))] sz)) 0 0 (va_A [(h0, .inr (5, [g0, g1, .ref q, g3, g4, g5, g6, g7, g8, g9, g10])), (q, .inl (cI, n, .inl f))] sz) := by
  refine Met.ofW (cc := b_Shelf_nameOf) (maxL := 2) (ret := (some .int)) (by decide) rfl ?_
  intro p e s m args below meth c s₁ B hml hv
  obtain ⟨rfl, hsz, hP, ⟨hK, hN⟩, hD0⟩ := hv
  have hx := B.exec
  have hb := B.bytes
  have hr := B.returns
  have hts0 := atoms_spec (ws := zc y_Shelf_nameOf b_Shelf_nameOf 2 (some .int)) B.pre
  have hts : ∀ w ∈ zw, w.before _ s = true := fun w hw => hts0 w (List.mem_cons_of_mem _ hw)
  have hown : s.vm.findClass "ProofDesk$Shelf" = some m.cls := findClass_of_methodNamed B.named
  have hlocks := B.notSynchronized
  subst hsz
  have hD := hD0.self (sz := s.heap.size)
  generalize hAe : va_A [(h0, .inr (5, [g0, g1, .ref q, g3, g4, g5, g6, g7, g8, g9, g10])), (q, .inl (cI, n, .inl f))] s.heap.size = A at hD ⊢
  have hA : ∀ q : Nat, s.heap.size ≤ q → A q := fun q h => by rw [← hAe]; exact Or.inr h
  have hS : va_S A s.heap s.heap [] := va_S.rf
  have hP : va_P D zcl [(h0, .inr (5, [g0, g1, .ref q, g3, g4, g5, g6, g7, g8, g9, g10])), (q, .inl (cI, n, .inl f))] s.heap := hP
  have hl := lv_entry ([.ref h0, .int (nI x)]) (n := 2) (Nat.le_of_ble_eq_true rfl)
  rw [lg_entry_eq]
  generalize (lg_sl ([.ref h0, .int (nI x)]) ++ List.replicate (2 - (lg_sl ([.ref h0, .int (nI x)])).length) Slot.unset).toArray = ls at hl ⊢
  have hl : lv_has ls 2 [(0, .ref h0), (1, .int (nI x))] := hl
  refine lv_aload_n hx hb d_Shelf_nameOf_0 rfl (lv_at hl 0 rfl) ?_
  refine va_get (D := D) (ci := 5) (v := .ref q) (C := "ProofDesk$Shelf") (T := F_Shelf) (N := 11) hx hb hts in_Shelf hown hK hP 0 rfl rfl 2 (by decide) (hts _ kw_219) (fun _ h9 => h9) rfl d_Shelf_nameOf_1 ?_
  refine lv_bipush (v := 20) hx hb d_Shelf_nameOf_4 (by decide) ?_
  refine lv_iload_n hx hb d_Shelf_nameOf_6 rfl (lv_at hl 1 rfl) ?_
  refine lv_imul hx hb d_Shelf_nameOf_7 ?_
  refine zz_i (y := nI (20 * x)) (pk_mul 20 x) ?_
  refine lv_iconst (v := 1) hx hb d_Shelf_nameOf_8 (by decide) ?_
  refine lv_iadd hx hb d_Shelf_nameOf_9 ?_
  refine zz_i (y := nI (20 * x + 1)) (nI_add (20 * x) 1) ?_
  refine zz_iald (v := (f (20 * x + 1))) hx hb hK hP 1 0 rfl rfl (i := (nI (20 * x + 1))) (20 * x + 1) (zix_nI (by omega) (by omega)) (rfl) d_Shelf_nameOf_10 ?_
  have hP9 := hP.sub (ws' := [(h0, .inr (5, [g0, g1, .ref q, g3, g4, g5, g6, g7, g8, g9, g10])), (q, .inl (cI, n, .inl f))]) [0, 1] rfl
  have hD9 := hD.sub (ws' := [(h0, .inr (5, [g0, g1, .ref q, g3, g4, g5, g6, g7, g8, g9, g10])), (q, .inl (cI, n, .inl f))]) [0, 1] (by decide +kernel) rfl
  refine W.widen (k := 0) (n := 0) (by omega) (by omega) ?_
  exact W.iret (v := (f (20 * x + 1))) hx hb hr (fun t ht hW => ⟨⟨(f (20 * x + 1)), (), rfl, rfl, by rw [ht]; exact hP9, hD9⟩, hS.F ht⟩) hS.2.2 d_Shelf_nameOf_11
abbrev b_Shelf_typeOf : ByteArray := prog_10_method_7_code
abbrev y_Shelf_typeOf : MethodName := ⟨"ProofDesk$Shelf", "typeOf", "(I)I"⟩
theorem d_Shelf_typeOf_0 : decode b_Shelf_typeOf 0 = .ok (.aload_n 0, 1) := by decide +kernel
theorem d_Shelf_typeOf_1 : decode b_Shelf_typeOf 1 = .ok (.getfield 11, 3) := by decide +kernel
theorem d_Shelf_typeOf_4 : decode b_Shelf_typeOf 4 = .ok (.bipush 20, 2) := by decide +kernel
theorem d_Shelf_typeOf_6 : decode b_Shelf_typeOf 6 = .ok (.iload_n 1, 1) := by decide +kernel
theorem d_Shelf_typeOf_7 : decode b_Shelf_typeOf 7 = .ok (.imul, 1) := by decide +kernel
theorem d_Shelf_typeOf_8 : decode b_Shelf_typeOf 8 = .ok (.iconst 2, 1) := by decide +kernel
theorem d_Shelf_typeOf_9 : decode b_Shelf_typeOf 9 = .ok (.iadd, 1) := by decide +kernel
theorem d_Shelf_typeOf_10 : decode b_Shelf_typeOf 10 = .ok (.iaload, 1) := by decide +kernel
theorem d_Shelf_typeOf_11 : decode b_Shelf_typeOf 11 = .ok (.ireturn, 1) := by decide +kernel
set_option maxHeartbeats 4000000 in
set_option maxRecDepth 100000 in
theorem g_Shelf_typeOf (l : Launch) (D : va_G) (cI cB cZ cS : ClassId) (sz : Nat) (h0 : Nat) (q : Nat) (n : Nat) (f : Nat → Int32) (g0 : Value) (g1 : Value) (g3 : Value) (g4 : Value) (g5 : Value) (g6 : Value) (g7 : Value) (g8 : Value) (g9 : Value) (g10 : Value) (x : Nat) (hx9 : 20 * x + 2 < n) (hN : n ≤ 33554432) : Met l y_Shelf_typeOf (zc y_Shelf_typeOf b_Shelf_typeOf 2 (some .int)) ({ frames := 0, cells := 0, slots := 0, locals := 0 }) (zPc D (zty cI cB cZ cS) [(h0, .inr (5, [g0, g1, .ref q, g3, g4, g5, g6, g7, g8, g9, g10])), (q, .inl (cI, n, .inl f))] sz [.ref h0, .int (nI x)]) (va_Qi (fun (r : Int32) (_ : Unit) => r = (f (20 * x + 2))) (fun _ t => va_P D zcl [(h0, .inr (5, [g0, g1, .ref q, g3, g4, g5, g6, g7, g8, g9, g10])), (q, .inl (cI, n, .inl f))] t.heap ∧ va_D (va_A [(h0, .inr (5, [g0, g1, .ref q, g3, g4, g5, g6, g7, g8, g9, g10])), (q, .inl (cI, n, .inl f))] sz) [(h0, .inr (5, [g0, g1, .ref q, g3, g4, g5, g6, g7, g8, g9, g10])), (q, .inl (cI, n, .inl f))]) (va_A [(h0, .inr (5, [g0, g1, .ref q, g3, g4, g5, g6, g7, g8, g9, g10])), (q, .inl (cI, n, .inl f))] sz)) 0 0 (va_A [(h0, .inr (5, [g0, g1, .ref q, g3, g4, g5, g6, g7, g8, g9, g10])), (q, .inl (cI, n, .inl f))] sz) := by
  refine Met.ofW (cc := b_Shelf_typeOf) (maxL := 2) (ret := (some .int)) (by decide) rfl ?_
  intro p e s m args below meth c s₁ B hml hv
  obtain ⟨rfl, hsz, hP, ⟨hK, hN⟩, hD0⟩ := hv
  have hx := B.exec
  have hb := B.bytes
  have hr := B.returns
  have hts0 := atoms_spec (ws := zc y_Shelf_typeOf b_Shelf_typeOf 2 (some .int)) B.pre
  have hts : ∀ w ∈ zw, w.before _ s = true := fun w hw => hts0 w (List.mem_cons_of_mem _ hw)
  have hown : s.vm.findClass "ProofDesk$Shelf" = some m.cls := findClass_of_methodNamed B.named
  have hlocks := B.notSynchronized
  subst hsz
  have hD := hD0.self (sz := s.heap.size)
  generalize hAe : va_A [(h0, .inr (5, [g0, g1, .ref q, g3, g4, g5, g6, g7, g8, g9, g10])), (q, .inl (cI, n, .inl f))] s.heap.size = A at hD ⊢
  have hA : ∀ q : Nat, s.heap.size ≤ q → A q := fun q h => by rw [← hAe]; exact Or.inr h
  have hS : va_S A s.heap s.heap [] := va_S.rf
  have hP : va_P D zcl [(h0, .inr (5, [g0, g1, .ref q, g3, g4, g5, g6, g7, g8, g9, g10])), (q, .inl (cI, n, .inl f))] s.heap := hP
  have hl := lv_entry ([.ref h0, .int (nI x)]) (n := 2) (Nat.le_of_ble_eq_true rfl)
  rw [lg_entry_eq]
  generalize (lg_sl ([.ref h0, .int (nI x)]) ++ List.replicate (2 - (lg_sl ([.ref h0, .int (nI x)])).length) Slot.unset).toArray = ls at hl ⊢
  have hl : lv_has ls 2 [(0, .ref h0), (1, .int (nI x))] := hl
  refine lv_aload_n hx hb d_Shelf_typeOf_0 rfl (lv_at hl 0 rfl) ?_
  refine va_get (D := D) (ci := 5) (v := .ref q) (C := "ProofDesk$Shelf") (T := F_Shelf) (N := 11) hx hb hts in_Shelf hown hK hP 0 rfl rfl 2 (by decide) (hts _ kw_219) (fun _ h9 => h9) rfl d_Shelf_typeOf_1 ?_
  refine lv_bipush (v := 20) hx hb d_Shelf_typeOf_4 (by decide) ?_
  refine lv_iload_n hx hb d_Shelf_typeOf_6 rfl (lv_at hl 1 rfl) ?_
  refine lv_imul hx hb d_Shelf_typeOf_7 ?_
  refine zz_i (y := nI (20 * x)) (pk_mul 20 x) ?_
  refine lv_iconst (v := 2) hx hb d_Shelf_typeOf_8 (by decide) ?_
  refine lv_iadd hx hb d_Shelf_typeOf_9 ?_
  refine zz_i (y := nI (20 * x + 2)) (nI_add (20 * x) 2) ?_
  refine zz_iald (v := (f (20 * x + 2))) hx hb hK hP 1 0 rfl rfl (i := (nI (20 * x + 2))) (20 * x + 2) (zix_nI (by omega) (by omega)) (rfl) d_Shelf_typeOf_10 ?_
  have hP9 := hP.sub (ws' := [(h0, .inr (5, [g0, g1, .ref q, g3, g4, g5, g6, g7, g8, g9, g10])), (q, .inl (cI, n, .inl f))]) [0, 1] rfl
  have hD9 := hD.sub (ws' := [(h0, .inr (5, [g0, g1, .ref q, g3, g4, g5, g6, g7, g8, g9, g10])), (q, .inl (cI, n, .inl f))]) [0, 1] (by decide +kernel) rfl
  refine W.widen (k := 0) (n := 0) (by omega) (by omega) ?_
  exact W.iret (v := (f (20 * x + 2))) hx hb hr (fun t ht hW => ⟨⟨(f (20 * x + 2)), (), rfl, rfl, by rw [ht]; exact hP9, hD9⟩, hS.F ht⟩) hS.2.2 d_Shelf_typeOf_11
abbrev b_Shelf_get : ByteArray := prog_10_method_3_code
abbrev y_Shelf_get : MethodName := ⟨"ProofDesk$Shelf", "get", "(II)I"⟩
theorem d_Shelf_get_0 : decode b_Shelf_get 0 = .ok (.aload_n 0, 1) := by decide +kernel
theorem d_Shelf_get_1 : decode b_Shelf_get 1 = .ok (.getfield 11, 3) := by decide +kernel
theorem d_Shelf_get_4 : decode b_Shelf_get 4 = .ok (.bipush 20, 2) := by decide +kernel
theorem d_Shelf_get_6 : decode b_Shelf_get 6 = .ok (.iload_n 1, 1) := by decide +kernel
theorem d_Shelf_get_7 : decode b_Shelf_get 7 = .ok (.imul, 1) := by decide +kernel
theorem d_Shelf_get_8 : decode b_Shelf_get 8 = .ok (.iload_n 2, 1) := by decide +kernel
theorem d_Shelf_get_9 : decode b_Shelf_get 9 = .ok (.iadd, 1) := by decide +kernel
theorem d_Shelf_get_10 : decode b_Shelf_get 10 = .ok (.iaload, 1) := by decide +kernel
theorem d_Shelf_get_11 : decode b_Shelf_get 11 = .ok (.ireturn, 1) := by decide +kernel
set_option maxHeartbeats 4000000 in
set_option maxRecDepth 100000 in
theorem g_Shelf_get (l : Launch) (D : va_G) (cI cB cZ cS : ClassId) (sz : Nat) (h0 : Nat) (q : Nat) (n : Nat) (f : Nat → Int32) (g0 : Value) (g1 : Value) (g3 : Value) (g4 : Value) (g5 : Value) (g6 : Value) (g7 : Value) (g8 : Value) (g9 : Value) (g10 : Value) (x : Nat) (j : Nat) (hx9 : 20 * x + j < n) (hN : n ≤ 33554432) : Met l y_Shelf_get (zc y_Shelf_get b_Shelf_get 3 (some .int)) ({ frames := 0, cells := 0, slots := 0, locals := 0 }) (zPc D (zty cI cB cZ cS) [(h0, .inr (5, [g0, g1, .ref q, g3, g4, g5, g6, g7, g8, g9, g10])), (q, .inl (cI, n, .inl f))] sz [.ref h0, .int (nI x), .int (nI j)]) (va_Qi (fun (r : Int32) (_ : Unit) => r = (f (20 * x + j))) (fun _ t => va_P D zcl [(h0, .inr (5, [g0, g1, .ref q, g3, g4, g5, g6, g7, g8, g9, g10])), (q, .inl (cI, n, .inl f))] t.heap ∧ va_D (va_A [(h0, .inr (5, [g0, g1, .ref q, g3, g4, g5, g6, g7, g8, g9, g10])), (q, .inl (cI, n, .inl f))] sz) [(h0, .inr (5, [g0, g1, .ref q, g3, g4, g5, g6, g7, g8, g9, g10])), (q, .inl (cI, n, .inl f))]) (va_A [(h0, .inr (5, [g0, g1, .ref q, g3, g4, g5, g6, g7, g8, g9, g10])), (q, .inl (cI, n, .inl f))] sz)) 0 0 (va_A [(h0, .inr (5, [g0, g1, .ref q, g3, g4, g5, g6, g7, g8, g9, g10])), (q, .inl (cI, n, .inl f))] sz) := by
  refine Met.ofW (cc := b_Shelf_get) (maxL := 3) (ret := (some .int)) (by decide) rfl ?_
  intro p e s m args below meth c s₁ B hml hv
  obtain ⟨rfl, hsz, hP, ⟨hK, hN⟩, hD0⟩ := hv
  have hx := B.exec
  have hb := B.bytes
  have hr := B.returns
  have hts0 := atoms_spec (ws := zc y_Shelf_get b_Shelf_get 3 (some .int)) B.pre
  have hts : ∀ w ∈ zw, w.before _ s = true := fun w hw => hts0 w (List.mem_cons_of_mem _ hw)
  have hown : s.vm.findClass "ProofDesk$Shelf" = some m.cls := findClass_of_methodNamed B.named
  have hlocks := B.notSynchronized
  subst hsz
  have hD := hD0.self (sz := s.heap.size)
  generalize hAe : va_A [(h0, .inr (5, [g0, g1, .ref q, g3, g4, g5, g6, g7, g8, g9, g10])), (q, .inl (cI, n, .inl f))] s.heap.size = A at hD ⊢
  have hA : ∀ q : Nat, s.heap.size ≤ q → A q := fun q h => by rw [← hAe]; exact Or.inr h
  have hS : va_S A s.heap s.heap [] := va_S.rf
  have hP : va_P D zcl [(h0, .inr (5, [g0, g1, .ref q, g3, g4, g5, g6, g7, g8, g9, g10])), (q, .inl (cI, n, .inl f))] s.heap := hP
  have hl := lv_entry ([.ref h0, .int (nI x), .int (nI j)]) (n := 3) (Nat.le_of_ble_eq_true rfl)
  rw [lg_entry_eq]
  generalize (lg_sl ([.ref h0, .int (nI x), .int (nI j)]) ++ List.replicate (3 - (lg_sl ([.ref h0, .int (nI x), .int (nI j)])).length) Slot.unset).toArray = ls at hl ⊢
  have hl : lv_has ls 3 [(0, .ref h0), (1, .int (nI x)), (2, .int (nI j))] := hl
  refine lv_aload_n hx hb d_Shelf_get_0 rfl (lv_at hl 0 rfl) ?_
  refine va_get (D := D) (ci := 5) (v := .ref q) (C := "ProofDesk$Shelf") (T := F_Shelf) (N := 11) hx hb hts in_Shelf hown hK hP 0 rfl rfl 2 (by decide) (hts _ kw_219) (fun _ h9 => h9) rfl d_Shelf_get_1 ?_
  refine lv_bipush (v := 20) hx hb d_Shelf_get_4 (by decide) ?_
  refine lv_iload_n hx hb d_Shelf_get_6 rfl (lv_at hl 1 rfl) ?_
  refine lv_imul hx hb d_Shelf_get_7 ?_
  refine zz_i (y := nI (20 * x)) (pk_mul 20 x) ?_
  refine lv_iload_n hx hb d_Shelf_get_8 rfl (lv_at hl 2 rfl) ?_
  refine lv_iadd hx hb d_Shelf_get_9 ?_
  refine zz_i (y := nI (20 * x + j)) (nI_add (20 * x) j) ?_
  refine zz_iald (v := (f (20 * x + j))) hx hb hK hP 1 0 rfl rfl (i := (nI (20 * x + j))) (20 * x + j) (zix_nI (by omega) (by omega)) (rfl) d_Shelf_get_10 ?_
  have hP9 := hP.sub (ws' := [(h0, .inr (5, [g0, g1, .ref q, g3, g4, g5, g6, g7, g8, g9, g10])), (q, .inl (cI, n, .inl f))]) [0, 1] rfl
  have hD9 := hD.sub (ws' := [(h0, .inr (5, [g0, g1, .ref q, g3, g4, g5, g6, g7, g8, g9, g10])), (q, .inl (cI, n, .inl f))]) [0, 1] (by decide +kernel) rfl
  refine W.widen (k := 0) (n := 0) (by omega) (by omega) ?_
  exact W.iret (v := (f (20 * x + j))) hx hb hr (fun t ht hW => ⟨⟨(f (20 * x + j)), (), rfl, rfl, by rw [ht]; exact hP9, hD9⟩, hS.F ht⟩) hS.2.2 d_Shelf_get_11
abbrev b_Shelf_set : ByteArray := prog_10_method_4_code
abbrev y_Shelf_set : MethodName := ⟨"ProofDesk$Shelf", "set", "(III)V"⟩
theorem d_Shelf_set_0 : decode b_Shelf_set 0 = .ok (.aload_n 0, 1) := by decide +kernel
theorem d_Shelf_set_1 : decode b_Shelf_set 1 = .ok (.getfield 11, 3) := by decide +kernel
theorem d_Shelf_set_4 : decode b_Shelf_set 4 = .ok (.bipush 20, 2) := by decide +kernel
theorem d_Shelf_set_6 : decode b_Shelf_set 6 = .ok (.iload_n 1, 1) := by decide +kernel
theorem d_Shelf_set_7 : decode b_Shelf_set 7 = .ok (.imul, 1) := by decide +kernel
theorem d_Shelf_set_8 : decode b_Shelf_set 8 = .ok (.iload_n 2, 1) := by decide +kernel
theorem d_Shelf_set_9 : decode b_Shelf_set 9 = .ok (.iadd, 1) := by decide +kernel
theorem d_Shelf_set_10 : decode b_Shelf_set 10 = .ok (.iload_n 3, 1) := by decide +kernel
theorem d_Shelf_set_11 : decode b_Shelf_set 11 = .ok (.iastore, 1) := by decide +kernel
theorem d_Shelf_set_12 : decode b_Shelf_set 12 = .ok (.return_, 1) := by decide +kernel
set_option maxHeartbeats 4000000 in
set_option maxRecDepth 100000 in
theorem g_Shelf_set (l : Launch) (D : va_G) (cI cB cZ cS : ClassId) (sz : Nat) (h0 : Nat) (q : Nat) (n : Nat) (f : Nat → Int32) (g0 : Value) (g1 : Value) (g3 : Value) (g4 : Value) (g5 : Value) (g6 : Value) (g7 : Value) (g8 : Value) (g9 : Value) (g10 : Value) (x : Nat) (j : Nat) (v : Int32) (hx9 : 20 * x + j < n) (hN : n ≤ 33554432) : Met l y_Shelf_set (zc y_Shelf_set b_Shelf_set 4 none) ({ frames := 0, cells := 0, slots := 0, locals := 0 }) (zPc D (zty cI cB cZ cS) [(h0, .inr (5, [g0, g1, .ref q, g3, g4, g5, g6, g7, g8, g9, g10])), (q, .inl (cI, n, .inl f))] sz [.ref h0, .int (nI x), .int (nI j), .int v]) (va_Qv (fun _ : Unit => True) (fun _ t => va_P D zcl [(h0, .inr (5, [g0, g1, .ref q, g3, g4, g5, g6, g7, g8, g9, g10])), (q, .inl (cI, n, .inl (upd f (20 * x + j) v)))] t.heap ∧ va_D (va_A [(h0, .inr (5, [g0, g1, .ref q, g3, g4, g5, g6, g7, g8, g9, g10])), (q, .inl (cI, n, .inl f))] sz) [(h0, .inr (5, [g0, g1, .ref q, g3, g4, g5, g6, g7, g8, g9, g10])), (q, .inl (cI, n, .inl (upd f (20 * x + j) v)))]) (va_A [(h0, .inr (5, [g0, g1, .ref q, g3, g4, g5, g6, g7, g8, g9, g10])), (q, .inl (cI, n, .inl f))] sz)) 0 0 (va_A [(h0, .inr (5, [g0, g1, .ref q, g3, g4, g5, g6, g7, g8, g9, g10])), (q, .inl (cI, n, .inl f))] sz) := by
  refine Met.ofW (cc := b_Shelf_set) (maxL := 4) (ret := none) (by decide) rfl ?_
  intro p e s m args below meth c s₁ B hml hv
  obtain ⟨rfl, hsz, hP, ⟨hK, hN⟩, hD0⟩ := hv
  have hx := B.exec
  have hb := B.bytes
  have hr := B.returns
  have hts0 := atoms_spec (ws := zc y_Shelf_set b_Shelf_set 4 none) B.pre
  have hts : ∀ w ∈ zw, w.before _ s = true := fun w hw => hts0 w (List.mem_cons_of_mem _ hw)
  have hown : s.vm.findClass "ProofDesk$Shelf" = some m.cls := findClass_of_methodNamed B.named
  have hlocks := B.notSynchronized
  subst hsz
  have hD := hD0.self (sz := s.heap.size)
  generalize hAe : va_A [(h0, .inr (5, [g0, g1, .ref q, g3, g4, g5, g6, g7, g8, g9, g10])), (q, .inl (cI, n, .inl f))] s.heap.size = A at hD ⊢
  have hA : ∀ q : Nat, s.heap.size ≤ q → A q := fun q h => by rw [← hAe]; exact Or.inr h
  have hS : va_S A s.heap s.heap [] := va_S.rf
  have hP : va_P D zcl [(h0, .inr (5, [g0, g1, .ref q, g3, g4, g5, g6, g7, g8, g9, g10])), (q, .inl (cI, n, .inl f))] s.heap := hP
  have hl := lv_entry ([.ref h0, .int (nI x), .int (nI j), .int v]) (n := 4) (Nat.le_of_ble_eq_true rfl)
  rw [lg_entry_eq]
  generalize (lg_sl ([.ref h0, .int (nI x), .int (nI j), .int v]) ++ List.replicate (4 - (lg_sl ([.ref h0, .int (nI x), .int (nI j), .int v])).length) Slot.unset).toArray = ls at hl ⊢
  have hl : lv_has ls 4 [(0, .ref h0), (1, .int (nI x)), (2, .int (nI j)), (3, .int v)] := hl
  refine lv_aload_n hx hb d_Shelf_set_0 rfl (lv_at hl 0 rfl) ?_
  refine va_get (D := D) (ci := 5) (v := .ref q) (C := "ProofDesk$Shelf") (T := F_Shelf) (N := 11) hx hb hts in_Shelf hown hK hP 0 rfl rfl 2 (by decide) (hts _ kw_219) (fun _ h9 => h9) rfl d_Shelf_set_1 ?_
  refine lv_bipush (v := 20) hx hb d_Shelf_set_4 (by decide) ?_
  refine lv_iload_n hx hb d_Shelf_set_6 rfl (lv_at hl 1 rfl) ?_
  refine lv_imul hx hb d_Shelf_set_7 ?_
  refine zz_i (y := nI (20 * x)) (pk_mul 20 x) ?_
  refine lv_iload_n hx hb d_Shelf_set_8 rfl (lv_at hl 2 rfl) ?_
  refine lv_iadd hx hb d_Shelf_set_9 ?_
  refine zz_i (y := nI (20 * x + j)) (nI_add (20 * x) j) ?_
  refine lv_iload_n hx hb d_Shelf_set_10 rfl (lv_at hl 3 rfl) ?_
  refine zz_iast hx hb hK hP hD hS 1 0 rfl rfl (i := (nI (20 * x + j))) (x := v) (20 * x + j) (zix_nI (by omega) (by omega)) d_Shelf_set_11 (fun H locs hP hD hS => ?_)
  have hP : va_P D zcl [(h0, .inr (5, [g0, g1, .ref q, g3, g4, g5, g6, g7, g8, g9, g10])), (q, .inl (cI, n, .inl (upd f (20 * x + j) v)))] H := hP
  have hD : va_D A [(h0, .inr (5, [g0, g1, .ref q, g3, g4, g5, g6, g7, g8, g9, g10])), (q, .inl (cI, n, .inl (upd f (20 * x + j) v)))] := hD
  have hP9 := hP.sub (ws' := [(h0, .inr (5, [g0, g1, .ref q, g3, g4, g5, g6, g7, g8, g9, g10])), (q, .inl (cI, n, .inl (upd f (20 * x + j) v)))]) [0, 1] rfl
  have hD9 := hD.sub (ws' := [(h0, .inr (5, [g0, g1, .ref q, g3, g4, g5, g6, g7, g8, g9, g10])), (q, .inl (cI, n, .inl (upd f (20 * x + j) v)))]) [0, 1] (by decide +kernel) rfl
  refine W.widen (k := 0) (n := 0) (by omega) (by omega) ?_
  exact W.vret hx hb hr (fun t ht hW => ⟨⟨(), rfl, trivial, by rw [ht]; exact hP9, hD9⟩, hS.F ht⟩) hS.2.2 d_Shelf_set_12
