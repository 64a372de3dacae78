abbrev b_Names_lengthOf : ByteArray := prog_5_method_8_code
abbrev y_Names_lengthOf : MethodName := ⟨"ProofDesk$Names", "lengthOf", "(I)I"⟩
theorem d_Names_lengthOf_0 : decode b_Names_lengthOf 0 = .ok (.aload_n 0, 1) := by decide +kernel
theorem d_Names_lengthOf_1 : decode b_Names_lengthOf 1 = .ok (.getfield 15, 3) := by decide +kernel
theorem d_Names_lengthOf_4 : decode b_Names_lengthOf 4 = .ok (.bipush 7, 2) := by decide +kernel
theorem d_Names_lengthOf_6 : decode b_Names_lengthOf 6 = .ok (.iload_n 1, 1) := by decide +kernel
theorem d_Names_lengthOf_7 : decode b_Names_lengthOf 7 = .ok (.imul, 1) := by decide +kernel
theorem d_Names_lengthOf_8 : decode b_Names_lengthOf 8 = .ok (.iconst 1, 1) := by decide +kernel
theorem d_Names_lengthOf_9 : decode b_Names_lengthOf 9 = .ok (.iadd, 1) := by decide +kernel
theorem d_Names_lengthOf_10 : decode b_Names_lengthOf 10 = .ok (.iaload, 1) := by decide +kernel
theorem d_Names_lengthOf_11 : decode b_Names_lengthOf 11 = .ok (.ireturn, 1) := by decide +kernel
set_option maxHeartbeats 4000000 in
set_option maxRecDepth 100000 in
theorem g_Names_lengthOf (l : Launch) (D : va_G) (cI cB cZ cS : ClassId) (sz : Nat) (h0 : Nat) (q : Nat) (n : Nat) (f : Nat → Int32) (g0 : Value) (g1 : Value) (g3 : Value) (g4 : Value) (g5 : Value) (x : Nat) (hx9 : 7 * x + 1 < n) (hN : n ≤ 33554432) : Met l y_Names_lengthOf (zc y_Names_lengthOf b_Names_lengthOf 2 (some .int)) ({ frames := 0, cells := 0, slots := 0, locals := 0 }) (zPc D (zty cI cB cZ cS) [(h0, .inr (2, [g0, g1, .ref q, g3, g4, g5])), (q, .inl (cI, n, .inl f))] sz [.ref h0, .int (nI x)]) (va_Qi (fun (r : Int32) (_ : Unit) => r = (f (7 * x + 1))) (fun _ t => va_P D zcl [(h0, .inr (2, [g0, g1, .ref q, g3, g4, g5])), (q, .inl (cI, n, .inl f))] t.heap ∧ va_D (va_A [(h0, .inr (2, [g0, g1, .ref q, g3, g4, g5])), (q, .inl (cI, n, .inl f))] sz) [(h0, .inr (2, [g0, g1, .ref q, g3, g4, g5])), (q, .inl (cI, n, .inl f))]) (va_A [(h0, .inr (2, [g0, g1, .ref q, g3, g4, g5])), (q, .inl (cI, n, .inl f))] sz)) 0 0 (va_A [(h0, .inr (2, [g0, g1, .ref q, g3, g4, g5])), (q, .inl (cI, n, .inl f))] sz) := by
  refine Met.ofW (cc := b_Names_lengthOf) (maxL := 2) (ret := (some .int)) (by decide) rfl ?_
  intro p e s m args below meth c s₁ B hml hv
  obtain ⟨rfl, hsz, hP, ⟨hK, hN⟩, hD0⟩ := hv
  have hx := B.exec
  have hb := B.bytes
  have hr := B.returns
  have hts0 := atoms_spec (ws := zc y_Names_lengthOf b_Names_lengthOf 2 (some .int)) B.pre
  have hts : ∀ w ∈ zw, w.before _ s = true := fun w hw => hts0 w (List.mem_cons_of_mem _ hw)
  have hown : s.vm.findClass "ProofDesk$Names" = some m.cls := findClass_of_methodNamed B.named
  have hlocks := B.notSynchronized
  subst hsz
  have hD := hD0.self (sz := s.heap.size)
  generalize hAe : va_A [(h0, .inr (2, [g0, g1, .ref q, g3, g4, g5])), (q, .inl (cI, n, .inl f))] s.heap.size = A at hD ⊢
  have hA : ∀ q : Nat, s.heap.size ≤ q → A q := fun q h => by rw [← hAe]; exact Or.inr h
  have hS : va_S A s.heap s.heap [] := va_S.rf
  have hP : va_P D zcl [(h0, .inr (2, [g0, g1, .ref q, g3, g4, g5])), (q, .inl (cI, n, .inl f))] s.heap := hP
  have hl := lv_entry ([.ref h0, .int (nI x)]) (n := 2) (Nat.le_of_ble_eq_true rfl)
  rw [lg_entry_eq]
  generalize (lg_sl ([.ref h0, .int (nI x)]) ++ List.replicate (2 - (lg_sl ([.ref h0, .int (nI x)])).length) Slot.unset).toArray = ls at hl ⊢
  have hl : lv_has ls 2 [(0, .ref h0), (1, .int (nI x))] := hl
  refine lv_aload_n hx hb d_Names_lengthOf_0 rfl (lv_at hl 0 rfl) ?_
  refine va_get (D := D) (ci := 2) (v := .ref q) (C := "ProofDesk$Names") (T := F_Names) (N := 6) hx hb hts in_Names hown hK hP 0 rfl rfl 2 (by decide) (hts _ kw_145) (fun _ h9 => h9) rfl d_Names_lengthOf_1 ?_
  refine lv_bipush (v := 7) hx hb d_Names_lengthOf_4 (by decide) ?_
  refine lv_iload_n hx hb d_Names_lengthOf_6 rfl (lv_at hl 1 rfl) ?_
  refine lv_imul hx hb d_Names_lengthOf_7 ?_
  refine zz_i (y := nI (7 * x)) (pk_mul 7 x) ?_
  refine lv_iconst (v := 1) hx hb d_Names_lengthOf_8 (by decide) ?_
  refine lv_iadd hx hb d_Names_lengthOf_9 ?_
  refine zz_i (y := nI (7 * x + 1)) (nI_add (7 * x) 1) ?_
  refine zz_iald (v := (f (7 * x + 1))) hx hb hK hP 1 0 rfl rfl (i := (nI (7 * x + 1))) (7 * x + 1) (zix_nI (by omega) (by omega)) (rfl) d_Names_lengthOf_10 ?_
  have hP9 := hP.sub (ws' := [(h0, .inr (2, [g0, g1, .ref q, g3, g4, g5])), (q, .inl (cI, n, .inl f))]) [0, 1] rfl
  have hD9 := hD.sub (ws' := [(h0, .inr (2, [g0, g1, .ref q, g3, g4, g5])), (q, .inl (cI, n, .inl f))]) [0, 1] (by decide +kernel) rfl
  refine W.widen (k := 0) (n := 0) (by omega) (by omega) ?_
  exact W.iret (v := (f (7 * x + 1))) hx hb hr (fun t ht hW => ⟨⟨(f (7 * x + 1)), (), rfl, rfl, by rw [ht]; exact hP9, hD9⟩, hS.F ht⟩) hS.2.2 d_Names_lengthOf_11
abbrev b_Names_binderOf : ByteArray := prog_5_method_10_code
abbrev y_Names_binderOf : MethodName := ⟨"ProofDesk$Names", "binderOf", "(I)I"⟩
theorem d_Names_binderOf_0 : decode b_Names_binderOf 0 = .ok (.aload_n 0, 1) := by decide +kernel
theorem d_Names_binderOf_1 : decode b_Names_binderOf 1 = .ok (.getfield 15, 3) := by decide +kernel
theorem d_Names_binderOf_4 : decode b_Names_binderOf 4 = .ok (.bipush 7, 2) := by decide +kernel
theorem d_Names_binderOf_6 : decode b_Names_binderOf 6 = .ok (.iload_n 1, 1) := by decide +kernel
theorem d_Names_binderOf_7 : decode b_Names_binderOf 7 = .ok (.imul, 1) := by decide +kernel
theorem d_Names_binderOf_8 : decode b_Names_binderOf 8 = .ok (.iconst 4, 1) := by decide +kernel
theorem d_Names_binderOf_9 : decode b_Names_binderOf 9 = .ok (.iadd, 1) := by decide +kernel
theorem d_Names_binderOf_10 : decode b_Names_binderOf 10 = .ok (.iaload, 1) := by decide +kernel
theorem d_Names_binderOf_11 : decode b_Names_binderOf 11 = .ok (.ireturn, 1) := by decide +kernel
set_option maxHeartbeats 4000000 in
set_option maxRecDepth 100000 in
theorem g_Names_binderOf (l : Launch) (D : va_G) (cI cB cZ cS : ClassId) (sz : Nat) (h0 : Nat) (q : Nat) (n : Nat) (f : Nat → Int32) (g0 : Value) (g1 : Value) (g3 : Value) (g4 : Value) (g5 : Value) (x : Nat) (hx9 : 7 * x + 4 < n) (hN : n ≤ 33554432) : Met l y_Names_binderOf (zc y_Names_binderOf b_Names_binderOf 2 (some .int)) ({ frames := 0, cells := 0, slots := 0, locals := 0 }) (zPc D (zty cI cB cZ cS) [(h0, .inr (2, [g0, g1, .ref q, g3, g4, g5])), (q, .inl (cI, n, .inl f))] sz [.ref h0, .int (nI x)]) (va_Qi (fun (r : Int32) (_ : Unit) => r = (f (7 * x + 4))) (fun _ t => va_P D zcl [(h0, .inr (2, [g0, g1, .ref q, g3, g4, g5])), (q, .inl (cI, n, .inl f))] t.heap ∧ va_D (va_A [(h0, .inr (2, [g0, g1, .ref q, g3, g4, g5])), (q, .inl (cI, n, .inl f))] sz) [(h0, .inr (2, [g0, g1, .ref q, g3, g4, g5])), (q, .inl (cI, n, .inl f))]) (va_A [(h0, .inr (2, [g0, g1, .ref q, g3, g4, g5])), (q, .inl (cI, n, .inl f))] sz)) 0 0 (va_A [(h0, .inr (2, [g0, g1, .ref q, g3, g4, g5])), (q, .inl (cI, n, .inl f))] sz) := by
  refine Met.ofW (cc := b_Names_binderOf) (maxL := 2) (ret := (some .int)) (by decide) rfl ?_
  intro p e s m args below meth c s₁ B hml hv
  obtain ⟨rfl, hsz, hP, ⟨hK, hN⟩, hD0⟩ := hv
  have hx := B.exec
  have hb := B.bytes
  have hr := B.returns
  have hts0 := atoms_spec (ws := zc y_Names_binderOf b_Names_binderOf 2 (some .int)) B.pre
  have hts : ∀ w ∈ zw, w.before _ s = true := fun w hw => hts0 w (List.mem_cons_of_mem _ hw)
  have hown : s.vm.findClass "ProofDesk$Names" = some m.cls := findClass_of_methodNamed B.named
  have hlocks := B.notSynchronized
  subst hsz
  have hD := hD0.self (sz := s.heap.size)
  generalize hAe : va_A [(h0, .inr (2, [g0, g1, .ref q, g3, g4, g5])), (q, .inl (cI, n, .inl f))] s.heap.size = A at hD ⊢
  have hA : ∀ q : Nat, s.heap.size ≤ q → A q := fun q h => by rw [← hAe]; exact Or.inr h
  have hS : va_S A s.heap s.heap [] := va_S.rf
  have hP : va_P D zcl [(h0, .inr (2, [g0, g1, .ref q, g3, g4, g5])), (q, .inl (cI, n, .inl f))] s.heap := hP
  have hl := lv_entry ([.ref h0, .int (nI x)]) (n := 2) (Nat.le_of_ble_eq_true rfl)
  rw [lg_entry_eq]
  generalize (lg_sl ([.ref h0, .int (nI x)]) ++ List.replicate (2 - (lg_sl ([.ref h0, .int (nI x)])).length) Slot.unset).toArray = ls at hl ⊢
  have hl : lv_has ls 2 [(0, .ref h0), (1, .int (nI x))] := hl
  refine lv_aload_n hx hb d_Names_binderOf_0 rfl (lv_at hl 0 rfl) ?_
  refine va_get (D := D) (ci := 2) (v := .ref q) (C := "ProofDesk$Names") (T := F_Names) (N := 6) hx hb hts in_Names hown hK hP 0 rfl rfl 2 (by decide) (hts _ kw_145) (fun _ h9 => h9) rfl d_Names_binderOf_1 ?_
  refine lv_bipush (v := 7) hx hb d_Names_binderOf_4 (by decide) ?_
  refine lv_iload_n hx hb d_Names_binderOf_6 rfl (lv_at hl 1 rfl) ?_
  refine lv_imul hx hb d_Names_binderOf_7 ?_
  refine zz_i (y := nI (7 * x)) (pk_mul 7 x) ?_
  refine lv_iconst (v := 4) hx hb d_Names_binderOf_8 (by decide) ?_
  refine lv_iadd hx hb d_Names_binderOf_9 ?_
  refine zz_i (y := nI (7 * x + 4)) (nI_add (7 * x) 4) ?_
  refine zz_iald (v := (f (7 * x + 4))) hx hb hK hP 1 0 rfl rfl (i := (nI (7 * x + 4))) (7 * x + 4) (zix_nI (by omega) (by omega)) (rfl) d_Names_binderOf_10 ?_
  have hP9 := hP.sub (ws' := [(h0, .inr (2, [g0, g1, .ref q, g3, g4, g5])), (q, .inl (cI, n, .inl f))]) [0, 1] rfl
  have hD9 := hD.sub (ws' := [(h0, .inr (2, [g0, g1, .ref q, g3, g4, g5])), (q, .inl (cI, n, .inl f))]) [0, 1] (by decide +kernel) rfl
  refine W.widen (k := 0) (n := 0) (by omega) (by omega) ?_
  exact W.iret (v := (f (7 * x + 4))) hx hb hr (fun t ht hW => ⟨⟨(f (7 * x + 4)), (), rfl, rfl, by rw [ht]; exact hP9, hD9⟩, hS.F ht⟩) hS.2.2 d_Names_binderOf_11
abbrev b_Names_globalOf : ByteArray := prog_5_method_12_code
abbrev y_Names_globalOf : MethodName := ⟨"ProofDesk$Names", "globalOf", "(I)I"⟩
theorem d_Names_globalOf_0 : decode b_Names_globalOf 0 = .ok (.aload_n 0, 1) := by decide +kernel
theorem d_Names_globalOf_1 : decode b_Names_globalOf 1 = .ok (.getfield 15, 3) := by decide +kernel
theorem d_Names_globalOf_4 : decode b_Names_globalOf 4 = .ok (.bipush 7, 2) := by decide +kernel
theorem d_Names_globalOf_6 : decode b_Names_globalOf 6 = .ok (.iload_n 1, 1) := by decide +kernel
theorem d_Names_globalOf_7 : decode b_Names_globalOf 7 = .ok (.imul, 1) := by decide +kernel
theorem d_Names_globalOf_8 : decode b_Names_globalOf 8 = .ok (.iconst 5, 1) := by decide +kernel
theorem d_Names_globalOf_9 : decode b_Names_globalOf 9 = .ok (.iadd, 1) := by decide +kernel
theorem d_Names_globalOf_10 : decode b_Names_globalOf 10 = .ok (.iaload, 1) := by decide +kernel
theorem d_Names_globalOf_11 : decode b_Names_globalOf 11 = .ok (.ireturn, 1) := by decide +kernel
set_option maxHeartbeats 4000000 in
set_option maxRecDepth 100000 in
theorem g_Names_globalOf (l : Launch) (D : va_G) (cI cB cZ cS : ClassId) (sz : Nat) (h0 : Nat) (q : Nat) (n : Nat) (f : Nat → Int32) (g0 : Value) (g1 : Value) (g3 : Value) (g4 : Value) (g5 : Value) (x : Nat) (hx9 : 7 * x + 5 < n) (hN : n ≤ 33554432) : Met l y_Names_globalOf (zc y_Names_globalOf b_Names_globalOf 2 (some .int)) ({ frames := 0, cells := 0, slots := 0, locals := 0 }) (zPc D (zty cI cB cZ cS) [(h0, .inr (2, [g0, g1, .ref q, g3, g4, g5])), (q, .inl (cI, n, .inl f))] sz [.ref h0, .int (nI x)]) (va_Qi (fun (r : Int32) (_ : Unit) => r = (f (7 * x + 5))) (fun _ t => va_P D zcl [(h0, .inr (2, [g0, g1, .ref q, g3, g4, g5])), (q, .inl (cI, n, .inl f))] t.heap ∧ va_D (va_A [(h0, .inr (2, [g0, g1, .ref q, g3, g4, g5])), (q, .inl (cI, n, .inl f))] sz) [(h0, .inr (2, [g0, g1, .ref q, g3, g4, g5])), (q, .inl (cI, n, .inl f))]) (va_A [(h0, .inr (2, [g0, g1, .ref q, g3, g4, g5])), (q, .inl (cI, n, .inl f))] sz)) 0 0 (va_A [(h0, .inr (2, [g0, g1, .ref q, g3, g4, g5])), (q, .inl (cI, n, .inl f))] sz) := by
  refine Met.ofW (cc := b_Names_globalOf) (maxL := 2) (ret := (some .int)) (by decide) rfl ?_
  intro p e s m args below meth c s₁ B hml hv
  obtain ⟨rfl, hsz, hP, ⟨hK, hN⟩, hD0⟩ := hv
  have hx := B.exec
  have hb := B.bytes
  have hr := B.returns
  have hts0 := atoms_spec (ws := zc y_Names_globalOf b_Names_globalOf 2 (some .int)) B.pre
  have hts : ∀ w ∈ zw, w.before _ s = true := fun w hw => hts0 w (List.mem_cons_of_mem _ hw)
  have hown : s.vm.findClass "ProofDesk$Names" = some m.cls := findClass_of_methodNamed B.named
  have hlocks := B.notSynchronized
  subst hsz
  have hD := hD0.self (sz := s.heap.size)
  generalize hAe : va_A [(h0, .inr (2, [g0, g1, .ref q, g3, g4, g5])), (q, .inl (cI, n, .inl f))] s.heap.size = A at hD ⊢
  have hA : ∀ q : Nat, s.heap.size ≤ q → A q := fun q h => by rw [← hAe]; exact Or.inr h
  have hS : va_S A s.heap s.heap [] := va_S.rf
  have hP : va_P D zcl [(h0, .inr (2, [g0, g1, .ref q, g3, g4, g5])), (q, .inl (cI, n, .inl f))] s.heap := hP
  have hl := lv_entry ([.ref h0, .int (nI x)]) (n := 2) (Nat.le_of_ble_eq_true rfl)
  rw [lg_entry_eq]
  generalize (lg_sl ([.ref h0, .int (nI x)]) ++ List.replicate (2 - (lg_sl ([.ref h0, .int (nI x)])).length) Slot.unset).toArray = ls at hl ⊢
  have hl : lv_has ls 2 [(0, .ref h0), (1, .int (nI x))] := hl
  refine lv_aload_n hx hb d_Names_globalOf_0 rfl (lv_at hl 0 rfl) ?_
  refine va_get (D := D) (ci := 2) (v := .ref q) (C := "ProofDesk$Names") (T := F_Names) (N := 6) hx hb hts in_Names hown hK hP 0 rfl rfl 2 (by decide) (hts _ kw_145) (fun _ h9 => h9) rfl d_Names_globalOf_1 ?_
  refine lv_bipush (v := 7) hx hb d_Names_globalOf_4 (by decide) ?_
  refine lv_iload_n hx hb d_Names_globalOf_6 rfl (lv_at hl 1 rfl) ?_
  refine lv_imul hx hb d_Names_globalOf_7 ?_
  refine zz_i (y := nI (7 * x)) (pk_mul 7 x) ?_
  refine lv_iconst (v := 5) hx hb d_Names_globalOf_8 (by decide) ?_
  refine lv_iadd hx hb d_Names_globalOf_9 ?_
  refine zz_i (y := nI (7 * x + 5)) (nI_add (7 * x) 5) ?_
  refine zz_iald (v := (f (7 * x + 5))) hx hb hK hP 1 0 rfl rfl (i := (nI (7 * x + 5))) (7 * x + 5) (zix_nI (by omega) (by omega)) (rfl) d_Names_globalOf_10 ?_
  have hP9 := hP.sub (ws' := [(h0, .inr (2, [g0, g1, .ref q, g3, g4, g5])), (q, .inl (cI, n, .inl f))]) [0, 1] rfl
  have hD9 := hD.sub (ws' := [(h0, .inr (2, [g0, g1, .ref q, g3, g4, g5])), (q, .inl (cI, n, .inl f))]) [0, 1] (by decide +kernel) rfl
  refine W.widen (k := 0) (n := 0) (by omega) (by omega) ?_
  exact W.iret (v := (f (7 * x + 5))) hx hb hr (fun t ht hW => ⟨⟨(f (7 * x + 5)), (), rfl, rfl, by rw [ht]; exact hP9, hD9⟩, hS.F ht⟩) hS.2.2 d_Names_globalOf_11
abbrev b_Names_setBinder : ByteArray := prog_5_method_11_code
abbrev y_Names_setBinder : MethodName := ⟨"ProofDesk$Names", "setBinder", "(II)V"⟩
theorem d_Names_setBinder_0 : decode b_Names_setBinder 0 = .ok (.aload_n 0, 1) := by decide +kernel
theorem d_Names_setBinder_1 : decode b_Names_setBinder 1 = .ok (.getfield 15, 3) := by decide +kernel
theorem d_Names_setBinder_4 : decode b_Names_setBinder 4 = .ok (.bipush 7, 2) := by decide +kernel
theorem d_Names_setBinder_6 : decode b_Names_setBinder 6 = .ok (.iload_n 1, 1) := by decide +kernel
theorem d_Names_setBinder_7 : decode b_Names_setBinder 7 = .ok (.imul, 1) := by decide +kernel
theorem d_Names_setBinder_8 : decode b_Names_setBinder 8 = .ok (.iconst 4, 1) := by decide +kernel
theorem d_Names_setBinder_9 : decode b_Names_setBinder 9 = .ok (.iadd, 1) := by decide +kernel
theorem d_Names_setBinder_10 : decode b_Names_setBinder 10 = .ok (.iload_n 2, 1) := by decide +kernel
theorem d_Names_setBinder_11 : decode b_Names_setBinder 11 = .ok (.iastore, 1) := by decide +kernel
theorem d_Names_setBinder_12 : decode b_Names_setBinder 12 = .ok (.return_, 1) := by decide +kernel
set_option maxHeartbeats 4000000 in
set_option maxRecDepth 100000 in
theorem g_Names_setBinder (l : Launch) (D : va_G) (cI cB cZ cS : ClassId) (sz : Nat) (h0 : Nat) (q : Nat) (n : Nat) (f : Nat → Int32) (g0 : Value) (g1 : Value) (g3 : Value) (g4 : Value) (g5 : Value) (x : Nat) (v : Int32) (hx9 : 7 * x + 4 < n) (hN : n ≤ 33554432) : Met l y_Names_setBinder (zc y_Names_setBinder b_Names_setBinder 3 none) ({ frames := 0, cells := 0, slots := 0, locals := 0 }) (zPc D (zty cI cB cZ cS) [(h0, .inr (2, [g0, g1, .ref q, g3, g4, g5])), (q, .inl (cI, n, .inl f))] sz [.ref h0, .int (nI x), .int v]) (va_Qv (fun _ : Unit => True) (fun _ t => va_P D zcl [(h0, .inr (2, [g0, g1, .ref q, g3, g4, g5])), (q, .inl (cI, n, .inl (upd f (7 * x + 4) v)))] t.heap ∧ va_D (va_A [(h0, .inr (2, [g0, g1, .ref q, g3, g4, g5])), (q, .inl (cI, n, .inl f))] sz) [(h0, .inr (2, [g0, g1, .ref q, g3, g4, g5])), (q, .inl (cI, n, .inl (upd f (7 * x + 4) v)))]) (va_A [(h0, .inr (2, [g0, g1, .ref q, g3, g4, g5])), (q, .inl (cI, n, .inl f))] sz)) 0 0 (va_A [(h0, .inr (2, [g0, g1, .ref q, g3, g4, g5])), (q, .inl (cI, n, .inl f))] sz) := by
  refine Met.ofW (cc := b_Names_setBinder) (maxL := 3) (ret := none) (by decide) rfl ?_
  intro p e s m args below meth c s₁ B hml hv
  obtain ⟨rfl, hsz, hP, ⟨hK, hN⟩, hD0⟩ := hv
  have hx := B.exec
  have hb := B.bytes
  have hr := B.returns
  have hts0 := atoms_spec (ws := zc y_Names_setBinder b_Names_setBinder 3 none) B.pre
  have hts : ∀ w ∈ zw, w.before _ s = true := fun w hw => hts0 w (List.mem_cons_of_mem _ hw)
  have hown : s.vm.findClass "ProofDesk$Names" = some m.cls := findClass_of_methodNamed B.named
  have hlocks := B.notSynchronized
  subst hsz
  have hD := hD0.self (sz := s.heap.size)
  generalize hAe : va_A [(h0, .inr (2, [g0, g1, .ref q, g3, g4, g5])), (q, .inl (cI, n, .inl f))] s.heap.size = A at hD ⊢
  have hA : ∀ q : Nat, s.heap.size ≤ q → A q := fun q h => by rw [← hAe]; exact Or.inr h
  have hS : va_S A s.heap s.heap [] := va_S.rf
  have hP : va_P D zcl [(h0, .inr (2, [g0, g1, .ref q, g3, g4, g5])), (q, .inl (cI, n, .inl f))] s.heap := hP
  have hl := lv_entry ([.ref h0, .int (nI x), .int v]) (n := 3) (Nat.le_of_ble_eq_true rfl)
  rw [lg_entry_eq]
  generalize (lg_sl ([.ref h0, .int (nI x), .int v]) ++ List.replicate (3 - (lg_sl ([.ref h0, .int (nI x), .int v])).length) Slot.unset).toArray = ls at hl ⊢
  have hl : lv_has ls 3 [(0, .ref h0), (1, .int (nI x)), (2, .int v)] := hl
  refine lv_aload_n hx hb d_Names_setBinder_0 rfl (lv_at hl 0 rfl) ?_
  refine va_get (D := D) (ci := 2) (v := .ref q) (C := "ProofDesk$Names") (T := F_Names) (N := 6) hx hb hts in_Names hown hK hP 0 rfl rfl 2 (by decide) (hts _ kw_145) (fun _ h9 => h9) rfl d_Names_setBinder_1 ?_
  refine lv_bipush (v := 7) hx hb d_Names_setBinder_4 (by decide) ?_
  refine lv_iload_n hx hb d_Names_setBinder_6 rfl (lv_at hl 1 rfl) ?_
  refine lv_imul hx hb d_Names_setBinder_7 ?_
  refine zz_i (y := nI (7 * x)) (pk_mul 7 x) ?_
  refine lv_iconst (v := 4) hx hb d_Names_setBinder_8 (by decide) ?_
  refine lv_iadd hx hb d_Names_setBinder_9 ?_
  refine zz_i (y := nI (7 * x + 4)) (nI_add (7 * x) 4) ?_
  refine lv_iload_n hx hb d_Names_setBinder_10 rfl (lv_at hl 2 rfl) ?_
  refine zz_iast hx hb hK hP hD hS 1 0 rfl rfl (i := (nI (7 * x + 4))) (x := v) (7 * x + 4) (zix_nI (by omega) (by omega)) d_Names_setBinder_11 (fun H locs hP hD hS => ?_)
  have hP : va_P D zcl [(h0, .inr (2, [g0, g1, .ref q, g3, g4, g5])), (q, .inl (cI, n, .inl (upd f (7 * x + 4) v)))] H := hP
  have hD : va_D A [(h0, .inr (2, [g0, g1, .ref q, g3, g4, g5])), (q, .inl (cI, n, .inl (upd f (7 * x + 4) v)))] := hD
  have hP9 := hP.sub (ws' := [(h0, .inr (2, [g0, g1, .ref q, g3, g4, g5])), (q, .inl (cI, n, .inl (upd f (7 * x + 4) v)))]) [0, 1] rfl
  have hD9 := hD.sub (ws' := [(h0, .inr (2, [g0, g1, .ref q, g3, g4, g5])), (q, .inl (cI, n, .inl (upd f (7 * x + 4) v)))]) [0, 1] (by decide +kernel) rfl
  refine W.widen (k := 0) (n := 0) (by omega) (by omega) ?_
  exact W.vret hx hb hr (fun t ht hW => ⟨⟨(), rfl, trivial, by rw [ht]; exact hP9, hD9⟩, hS.F ht⟩) hS.2.2 d_Names_setBinder_12
abbrev b_Names_setGlobal : ByteArray := prog_5_method_13_code
abbrev y_Names_setGlobal : MethodName := ⟨"ProofDesk$Names", "setGlobal", "(II)V"⟩
theorem d_Names_setGlobal_0 : decode b_Names_setGlobal 0 = .ok (.aload_n 0, 1) := by decide +kernel
theorem d_Names_setGlobal_1 : decode b_Names_setGlobal 1 = .ok (.getfield 15, 3) := by decide +kernel
theorem d_Names_setGlobal_4 : decode b_Names_setGlobal 4 = .ok (.bipush 7, 2) := by decide +kernel
theorem d_Names_setGlobal_6 : decode b_Names_setGlobal 6 = .ok (.iload_n 1, 1) := by decide +kernel
theorem d_Names_setGlobal_7 : decode b_Names_setGlobal 7 = .ok (.imul, 1) := by decide +kernel
theorem d_Names_setGlobal_8 : decode b_Names_setGlobal 8 = .ok (.iconst 5, 1) := by decide +kernel
theorem d_Names_setGlobal_9 : decode b_Names_setGlobal 9 = .ok (.iadd, 1) := by decide +kernel
theorem d_Names_setGlobal_10 : decode b_Names_setGlobal 10 = .ok (.iload_n 2, 1) := by decide +kernel
theorem d_Names_setGlobal_11 : decode b_Names_setGlobal 11 = .ok (.iastore, 1) := by decide +kernel
theorem d_Names_setGlobal_12 : decode b_Names_setGlobal 12 = .ok (.return_, 1) := by decide +kernel
set_option maxHeartbeats 4000000 in
set_option maxRecDepth 100000 in
theorem g_Names_setGlobal (l : Launch) (D : va_G) (cI cB cZ cS : ClassId) (sz : Nat) (h0 : Nat) (q : Nat) (n : Nat) (f : Nat → Int32) (g0 : Value) (g1 : Value) (g3 : Value) (g4 : Value) (g5 : Value) (x : Nat) (v : Int32) (hx9 : 7 * x + 5 < n) (hN : n ≤ 33554432) : Met l y_Names_setGlobal (zc y_Names_setGlobal b_Names_setGlobal 3 none) ({ frames := 0, cells := 0, slots := 0, locals := 0 }) (zPc D (zty cI cB cZ cS) [(h0, .inr (2, [g0, g1, .ref q, g3, g4, g5])), (q, .inl (cI, n, .inl f))] sz [.ref h0, .int (nI x), .int v]) (va_Qv (fun _ : Unit => True) (fun _ t => va_P D zcl [(h0, .inr (2, [g0, g1, .ref q, g3, g4, g5])), (q, .inl (cI, n, .inl (upd f (7 * x + 5) v)))] t.heap ∧ va_D (va_A [(h0, .inr (2, [g0, g1, .ref q, g3, g4, g5])), (q, .inl (cI, n, .inl f))] sz) [(h0, .inr (2, [g0, g1, .ref q, g3, g4, g5])), (q, .inl (cI, n, .inl (upd f (7 * x + 5) v)))]) (va_A [(h0, .inr (2, [g0, g1, .ref q, g3, g4, g5])), (q, .inl (cI, n, .inl f))] sz)) 0 0 (va_A [(h0, .inr (2, [g0, g1, .ref q, g3, g4, g5])), (q, .inl (cI, n, .inl f))] sz) := by
  refine Met.ofW (cc := b_Names_setGlobal) (maxL := 3) (ret := none) (by decide) rfl ?_
  intro p e s m args below meth c s₁ B hml hv
  obtain ⟨rfl, hsz, hP, ⟨hK, hN⟩, hD0⟩ := hv
  have hx := B.exec
  have hb := B.bytes
  have hr := B.returns
  have hts0 := atoms_spec (ws := zc y_Names_setGlobal b_Names_setGlobal 3 none) B.pre
  have hts : ∀ w ∈ zw, w.before _ s = true := fun w hw => hts0 w (List.mem_cons_of_mem _ hw)
  have hown : s.vm.findClass "ProofDesk$Names" = some m.cls := findClass_of_methodNamed B.named
  have hlocks := B.notSynchronized
  subst hsz
  have hD := hD0.self (sz := s.heap.size)
  generalize hAe : va_A [(h0, .inr (2, [g0, g1, .ref q, g3, g4, g5])), (q, .inl (cI, n, .inl f))] s.heap.size = A at hD ⊢
  have hA : ∀ q : Nat, s.heap.size ≤ q → A q := fun q h => by rw [← hAe]; exact Or.inr h
  have hS : va_S A s.heap s.heap [] := va_S.rf
  have hP : va_P D zcl [(h0, .inr (2, [g0, g1, .ref q, g3, g4, g5])), (q, .inl (cI, n, .inl f))] s.heap := hP
  have hl := lv_entry ([.ref h0, .int (nI x), .int v]) (n := 3) (Nat.le_of_ble_eq_true rfl)
  rw [lg_entry_eq]
  generalize (lg_sl ([.ref h0, .int (nI x), .int v]) ++ List.replicate (3 - (lg_sl ([.ref h0, .int (nI x), .int v])).length) Slot.unset).toArray = ls at hl ⊢
  have hl : lv_has ls 3 [(0, .ref h0), (1, .int (nI x)), (2, .int v)] := hl
  refine lv_aload_n hx hb d_Names_setGlobal_0 rfl (lv_at hl 0 rfl) ?_
  refine va_get (D := D) (ci := 2) (v := .ref q) (C := "ProofDesk$Names") (T := F_Names) (N := 6) hx hb hts in_Names hown hK hP 0 rfl rfl 2 (by decide) (hts _ kw_145) (fun _ h9 => h9) rfl d_Names_setGlobal_1 ?_
  refine lv_bipush (v := 7) hx hb d_Names_setGlobal_4 (by decide) ?_
  refine lv_iload_n hx hb d_Names_setGlobal_6 rfl (lv_at hl 1 rfl) ?_
  refine lv_imul hx hb d_Names_setGlobal_7 ?_
  refine zz_i (y := nI (7 * x)) (pk_mul 7 x) ?_
  refine lv_iconst (v := 5) hx hb d_Names_setGlobal_8 (by decide) ?_
  refine lv_iadd hx hb d_Names_setGlobal_9 ?_
  refine zz_i (y := nI (7 * x + 5)) (nI_add (7 * x) 5) ?_
  refine lv_iload_n hx hb d_Names_setGlobal_10 rfl (lv_at hl 2 rfl) ?_
  refine zz_iast hx hb hK hP hD hS 1 0 rfl rfl (i := (nI (7 * x + 5))) (x := v) (7 * x + 5) (zix_nI (by omega) (by omega)) d_Names_setGlobal_11 (fun H locs hP hD hS => ?_)
  have hP : va_P D zcl [(h0, .inr (2, [g0, g1, .ref q, g3, g4, g5])), (q, .inl (cI, n, .inl (upd f (7 * x + 5) v)))] H := hP
  have hD : va_D A [(h0, .inr (2, [g0, g1, .ref q, g3, g4, g5])), (q, .inl (cI, n, .inl (upd f (7 * x + 5) v)))] := hD
  have hP9 := hP.sub (ws' := [(h0, .inr (2, [g0, g1, .ref q, g3, g4, g5])), (q, .inl (cI, n, .inl (upd f (7 * x + 5) v)))]) [0, 1] rfl
  have hD9 := hD.sub (ws' := [(h0, .inr (2, [g0, g1, .ref q, g3, g4, g5])), (q, .inl (cI, n, .inl (upd f (7 * x + 5) v)))]) [0, 1] (by decide +kernel) rfl
  refine W.widen (k := 0) (n := 0) (by omega) (by omega) ?_
  exact W.vret hx hb hr (fun t ht hW => ⟨⟨(), rfl, trivial, by rw [ht]; exact hP9, hD9⟩, hS.F ht⟩) hS.2.2 d_Names_setGlobal_12
abbrev b_Names_declare : ByteArray := prog_5_method_15_code
abbrev y_Names_declare : MethodName := ⟨"ProofDesk$Names", "declare", "(I)Z"⟩
theorem d_Names_declare_0 : decode b_Names_declare 0 = .ok (.bipush 7, 2) := by decide +kernel
theorem d_Names_declare_2 : decode b_Names_declare 2 = .ok (.iload_n 1, 1) := by decide +kernel
theorem d_Names_declare_3 : decode b_Names_declare 3 = .ok (.imul, 1) := by decide +kernel
theorem d_Names_declare_4 : decode b_Names_declare 4 = .ok (.istore_n 2, 1) := by decide +kernel
theorem d_Names_declare_5 : decode b_Names_declare 5 = .ok (.aload_n 0, 1) := by decide +kernel
theorem d_Names_declare_6 : decode b_Names_declare 6 = .ok (.getfield 15, 3) := by decide +kernel
theorem d_Names_declare_9 : decode b_Names_declare 9 = .ok (.iload_n 2, 1) := by decide +kernel
theorem d_Names_declare_10 : decode b_Names_declare 10 = .ok (.iconst 5, 1) := by decide +kernel
theorem d_Names_declare_11 : decode b_Names_declare 11 = .ok (.iadd, 1) := by decide +kernel
theorem d_Names_declare_12 : decode b_Names_declare 12 = .ok (.iaload, 1) := by decide +kernel
theorem d_Names_declare_13 : decode b_Names_declare 13 = .ok (.iconst (-1), 1) := by decide +kernel
theorem d_Names_declare_14 : decode b_Names_declare 14 = .ok (.if_icmp .ne 19, 3) := by decide +kernel
theorem d_Names_declare_33 : decode b_Names_declare 33 = .ok (.iconst 1, 1) := by decide +kernel
theorem d_Names_declare_34 : decode b_Names_declare 34 = .ok (.goto 4, 3) := by decide +kernel
theorem d_Names_declare_38 : decode b_Names_declare 38 = .ok (.istore_n 3, 1) := by decide +kernel
theorem d_Names_declare_39 : decode b_Names_declare 39 = .ok (.aload_n 0, 1) := by decide +kernel
theorem d_Names_declare_40 : decode b_Names_declare 40 = .ok (.getfield 15, 3) := by decide +kernel
theorem d_Names_declare_43 : decode b_Names_declare 43 = .ok (.iload_n 2, 1) := by decide +kernel
theorem d_Names_declare_44 : decode b_Names_declare 44 = .ok (.bipush 6, 2) := by decide +kernel
theorem d_Names_declare_46 : decode b_Names_declare 46 = .ok (.iadd, 1) := by decide +kernel
theorem d_Names_declare_47 : decode b_Names_declare 47 = .ok (.aload_n 0, 1) := by decide +kernel
theorem d_Names_declare_48 : decode b_Names_declare 48 = .ok (.getfield 75, 3) := by decide +kernel
theorem d_Names_declare_51 : decode b_Names_declare 51 = .ok (.iastore, 1) := by decide +kernel
theorem d_Names_declare_52 : decode b_Names_declare 52 = .ok (.iload_n 3, 1) := by decide +kernel
theorem d_Names_declare_53 : decode b_Names_declare 53 = .ok (.ireturn, 1) := by decide +kernel
set_option maxHeartbeats 4000000 in
set_option maxRecDepth 100000 in
theorem g_Names_declareG (l : Launch) (D : va_G) (cI cB cZ cS : ClassId) (sz : Nat) (h0 : Nat) (q : Nat) (n : Nat) (f : Nat → Int32) (g0 : Value) (g1 : Value) (g3 : Value) (g4 : Value) (se : Int32) (x : Nat) (hx9 : 7 * x + 6 < n) (hN : n ≤ 33554432) (hg : ¬ f (7 * x + 5) = -1) : Met l y_Names_declare (zc y_Names_declare b_Names_declare 4 (some .boolean)) ({ frames := 0, cells := 0, slots := 0, locals := 0 }) (zPc D (zty cI cB cZ cS) [(h0, .inr (2, [g0, g1, .ref q, g3, g4, .int se])), (q, .inl (cI, n, .inl f))] sz [.ref h0, .int (nI x)]) (va_Qi (fun (r : Int32) (_ : Unit) => r = 1) (fun _ t => va_P D zcl [(h0, .inr (2, [g0, g1, .ref q, g3, g4, .int se])), (q, .inl (cI, n, .inl (upd f (7 * x + 6) se)))] t.heap ∧ va_D (va_A [(h0, .inr (2, [g0, g1, .ref q, g3, g4, .int se])), (q, .inl (cI, n, .inl f))] sz) [(h0, .inr (2, [g0, g1, .ref q, g3, g4, .int se])), (q, .inl (cI, n, .inl (upd f (7 * x + 6) se)))]) (va_A [(h0, .inr (2, [g0, g1, .ref q, g3, g4, .int se])), (q, .inl (cI, n, .inl f))] sz)) 0 0 (va_A [(h0, .inr (2, [g0, g1, .ref q, g3, g4, .int se])), (q, .inl (cI, n, .inl f))] sz) := by
  refine Met.ofW (cc := b_Names_declare) (maxL := 4) (ret := (some .boolean)) (by decide) rfl ?_
  intro p e s m args below meth c s₁ B hml hv
  obtain ⟨rfl, hsz, hP, ⟨hK, hN⟩, hD0⟩ := hv
  have hx := B.exec
  have hb := B.bytes
  have hr := B.returns
  have hts0 := atoms_spec (ws := zc y_Names_declare b_Names_declare 4 (some .boolean)) B.pre
  have hts : ∀ w ∈ zw, w.before _ s = true := fun w hw => hts0 w (List.mem_cons_of_mem _ hw)
  have hown : s.vm.findClass "ProofDesk$Names" = some m.cls := findClass_of_methodNamed B.named
  have hlocks := B.notSynchronized
  subst hsz
  have hD := hD0.self (sz := s.heap.size)
  generalize hAe : va_A [(h0, .inr (2, [g0, g1, .ref q, g3, g4, .int se])), (q, .inl (cI, n, .inl f))] s.heap.size = A at hD ⊢
  have hA : ∀ q : Nat, s.heap.size ≤ q → A q := fun q h => by rw [← hAe]; exact Or.inr h
  have hS : va_S A s.heap s.heap [] := va_S.rf
  have hP : va_P D zcl [(h0, .inr (2, [g0, g1, .ref q, g3, g4, .int se])), (q, .inl (cI, n, .inl f))] s.heap := hP
  have hl := lv_entry ([.ref h0, .int (nI x)]) (n := 4) (Nat.le_of_ble_eq_true rfl)
  rw [lg_entry_eq]
  generalize (lg_sl ([.ref h0, .int (nI x)]) ++ List.replicate (4 - (lg_sl ([.ref h0, .int (nI x)])).length) Slot.unset).toArray = ls at hl ⊢
  have hl : lv_has ls 4 [(0, .ref h0), (1, .int (nI x))] := hl
  refine lv_bipush (v := 7) hx hb d_Names_declare_0 (by decide) ?_
  refine lv_iload_n hx hb d_Names_declare_2 rfl (lv_at hl 1 rfl) ?_
  refine lv_imul hx hb d_Names_declare_3 ?_
  refine zz_i (y := nI (7 * x)) (pk_mul 7 x) ?_
  refine lv_istore_n (lv' := [(2, .int (nI (7 * x))), (0, .ref h0), (1, .int (nI x))]) hx hb d_Names_declare_4 rfl hl (by decide) rfl (fun ls hl => ?_)
  refine lv_aload_n hx hb d_Names_declare_5 rfl (lv_at hl 1 rfl) ?_
  refine va_get (D := D) (ci := 2) (v := .ref q) (C := "ProofDesk$Names") (T := F_Names) (N := 6) hx hb hts in_Names hown hK hP 0 rfl rfl 2 (by decide) (hts _ kw_145) (fun _ h9 => h9) rfl d_Names_declare_6 ?_
  refine lv_iload_n hx hb d_Names_declare_9 rfl (lv_at hl 0 rfl) ?_
  refine lv_iconst (v := 5) hx hb d_Names_declare_10 (by decide) ?_
  refine lv_iadd hx hb d_Names_declare_11 ?_
  refine zz_i (y := nI (7 * x + 5)) (nI_add (7 * x) 5) ?_
  refine zz_iald (v := (f (7 * x + 5))) hx hb hK hP 1 0 rfl rfl (i := (nI (7 * x + 5))) (7 * x + 5) (zix_nI (by omega) (by omega)) (rfl) d_Names_declare_12 ?_
  refine lv_iconst (v := (-1)) hx hb d_Names_declare_13 (by decide) ?_
  have hc_1 : ¬ ((f (7 * x + 5)) : Int32) = (-1) := hg
  refine lv_icmp_ne hx hb d_Names_declare_14 rfl (fun _ => ?_) (fun h => absurd h hc_1)
  refine lv_iconst (v := 1) hx hb d_Names_declare_33 (by decide) ?_
  refine lv_goto hx hb d_Names_declare_34 rfl ?_
  refine lv_istore_n (lv' := [(3, .int 1), (2, .int (nI (7 * x))), (0, .ref h0), (1, .int (nI x))]) hx hb d_Names_declare_38 rfl hl (by decide) rfl (fun ls hl => ?_)
  refine lv_aload_n hx hb d_Names_declare_39 rfl (lv_at hl 2 rfl) ?_
  refine va_get (D := D) (ci := 2) (v := .ref q) (C := "ProofDesk$Names") (T := F_Names) (N := 6) hx hb hts in_Names hown hK hP 0 rfl rfl 2 (by decide) (hts _ kw_145) (fun _ h9 => h9) rfl d_Names_declare_40 ?_
  refine lv_iload_n hx hb d_Names_declare_43 rfl (lv_at hl 1 rfl) ?_
  refine lv_bipush (v := 6) hx hb d_Names_declare_44 (by decide) ?_
  refine lv_iadd hx hb d_Names_declare_46 ?_
  refine zz_i (y := nI (7 * x + 6)) (nI_add (7 * x) 6) ?_
  refine lv_aload_n hx hb d_Names_declare_47 rfl (lv_at hl 2 rfl) ?_
  refine va_get (D := D) (ci := 2) (v := .int se) (C := "ProofDesk$Names") (T := F_Names) (N := 6) hx hb hts in_Names hown hK hP 0 rfl rfl 5 (by decide) (hts _ kw_149) (fun _ h9 => h9) rfl d_Names_declare_48 ?_
  refine zz_iast hx hb hK hP hD hS 1 0 rfl rfl (i := (nI (7 * x + 6))) (x := se) (7 * x + 6) (zix_nI (by omega) (by omega)) d_Names_declare_51 (fun H locs hP hD hS => ?_)
  have hP : va_P D zcl [(h0, .inr (2, [g0, g1, .ref q, g3, g4, .int se])), (q, .inl (cI, n, .inl (upd f (7 * x + 6) se)))] H := hP
  have hD : va_D A [(h0, .inr (2, [g0, g1, .ref q, g3, g4, .int se])), (q, .inl (cI, n, .inl (upd f (7 * x + 6) se)))] := hD
  refine lv_iload_n hx hb d_Names_declare_52 rfl (lv_at hl 0 rfl) ?_
  have hP9 := hP.sub (ws' := [(h0, .inr (2, [g0, g1, .ref q, g3, g4, .int se])), (q, .inl (cI, n, .inl (upd f (7 * x + 6) se)))]) [0, 1] rfl
  have hD9 := hD.sub (ws' := [(h0, .inr (2, [g0, g1, .ref q, g3, g4, .int se])), (q, .inl (cI, n, .inl (upd f (7 * x + 6) se)))]) [0, 1] (by decide +kernel) rfl
  refine W.widen (k := 0) (n := 0) (by omega) (by omega) ?_
  exact W.zret (v := 1) hx hb hr rfl (fun t ht hW => ⟨⟨1, (), rfl, rfl, by rw [ht]; exact hP9, hD9⟩, hS.F ht⟩) hS.2.2 d_Names_declare_53
theorem d_Names_declare_17 : decode b_Names_declare 17 = .ok (.aload_n 0, 1) := by decide +kernel
theorem d_Names_declare_18 : decode b_Names_declare 18 = .ok (.getfield 15, 3) := by decide +kernel
theorem d_Names_declare_21 : decode b_Names_declare 21 = .ok (.iload_n 2, 1) := by decide +kernel
theorem d_Names_declare_22 : decode b_Names_declare 22 = .ok (.bipush 6, 2) := by decide +kernel
theorem d_Names_declare_24 : decode b_Names_declare 24 = .ok (.iadd, 1) := by decide +kernel
theorem d_Names_declare_25 : decode b_Names_declare 25 = .ok (.iaload, 1) := by decide +kernel
theorem d_Names_declare_26 : decode b_Names_declare 26 = .ok (.aload_n 0, 1) := by decide +kernel
theorem d_Names_declare_27 : decode b_Names_declare 27 = .ok (.getfield 75, 3) := by decide +kernel
theorem d_Names_declare_30 : decode b_Names_declare 30 = .ok (.if_icmp .ne 7, 3) := by decide +kernel
set_option maxHeartbeats 4000000 in
set_option maxRecDepth 100000 in
theorem g_Names_declareT (l : Launch) (D : va_G) (cI cB cZ cS : ClassId) (sz : Nat) (h0 : Nat) (q : Nat) (n : Nat) (f : Nat → Int32) (g0 : Value) (g1 : Value) (g3 : Value) (g4 : Value) (se : Int32) (x : Nat) (hx9 : 7 * x + 6 < n) (hN : n ≤ 33554432) (hg : f (7 * x + 5) = -1) (hs : f (7 * x + 6) = se) : Met l y_Names_declare (zc y_Names_declare b_Names_declare 4 (some .boolean)) ({ frames := 0, cells := 0, slots := 0, locals := 0 }) (zPc D (zty cI cB cZ cS) [(h0, .inr (2, [g0, g1, .ref q, g3, g4, .int se])), (q, .inl (cI, n, .inl f))] sz [.ref h0, .int (nI x)]) (va_Qi (fun (r : Int32) (_ : Unit) => r = 1) (fun _ t => va_P D zcl [(h0, .inr (2, [g0, g1, .ref q, g3, g4, .int se])), (q, .inl (cI, n, .inl (upd f (7 * x + 6) se)))] t.heap ∧ va_D (va_A [(h0, .inr (2, [g0, g1, .ref q, g3, g4, .int se])), (q, .inl (cI, n, .inl f))] sz) [(h0, .inr (2, [g0, g1, .ref q, g3, g4, .int se])), (q, .inl (cI, n, .inl (upd f (7 * x + 6) se)))]) (va_A [(h0, .inr (2, [g0, g1, .ref q, g3, g4, .int se])), (q, .inl (cI, n, .inl f))] sz)) 0 0 (va_A [(h0, .inr (2, [g0, g1, .ref q, g3, g4, .int se])), (q, .inl (cI, n, .inl f))] sz) := by
  refine Met.ofW (cc := b_Names_declare) (maxL := 4) (ret := (some .boolean)) (by decide) rfl ?_
  intro p e s m args below meth c s₁ B hml hv
  obtain ⟨rfl, hsz, hP, ⟨hK, hN⟩, hD0⟩ := hv
  have hx := B.exec
  have hb := B.bytes
  have hr := B.returns
  have hts0 := atoms_spec (ws := zc y_Names_declare b_Names_declare 4 (some .boolean)) B.pre
  have hts : ∀ w ∈ zw, w.before _ s = true := fun w hw => hts0 w (List.mem_cons_of_mem _ hw)
  have hown : s.vm.findClass "ProofDesk$Names" = some m.cls := findClass_of_methodNamed B.named
  have hlocks := B.notSynchronized
  subst hsz
  have hD := hD0.self (sz := s.heap.size)
  generalize hAe : va_A [(h0, .inr (2, [g0, g1, .ref q, g3, g4, .int se])), (q, .inl (cI, n, .inl f))] s.heap.size = A at hD ⊢
  have hA : ∀ q : Nat, s.heap.size ≤ q → A q := fun q h => by rw [← hAe]; exact Or.inr h
  have hS : va_S A s.heap s.heap [] := va_S.rf
  have hP : va_P D zcl [(h0, .inr (2, [g0, g1, .ref q, g3, g4, .int se])), (q, .inl (cI, n, .inl f))] s.heap := hP
  have hl := lv_entry ([.ref h0, .int (nI x)]) (n := 4) (Nat.le_of_ble_eq_true rfl)
  rw [lg_entry_eq]
  generalize (lg_sl ([.ref h0, .int (nI x)]) ++ List.replicate (4 - (lg_sl ([.ref h0, .int (nI x)])).length) Slot.unset).toArray = ls at hl ⊢
  have hl : lv_has ls 4 [(0, .ref h0), (1, .int (nI x))] := hl
  refine lv_bipush (v := 7) hx hb d_Names_declare_0 (by decide) ?_
  refine lv_iload_n hx hb d_Names_declare_2 rfl (lv_at hl 1 rfl) ?_
  refine lv_imul hx hb d_Names_declare_3 ?_
  refine zz_i (y := nI (7 * x)) (pk_mul 7 x) ?_
  refine lv_istore_n (lv' := [(2, .int (nI (7 * x))), (0, .ref h0), (1, .int (nI x))]) hx hb d_Names_declare_4 rfl hl (by decide) rfl (fun ls hl => ?_)
  refine lv_aload_n hx hb d_Names_declare_5 rfl (lv_at hl 1 rfl) ?_
  refine va_get (D := D) (ci := 2) (v := .ref q) (C := "ProofDesk$Names") (T := F_Names) (N := 6) hx hb hts in_Names hown hK hP 0 rfl rfl 2 (by decide) (hts _ kw_145) (fun _ h9 => h9) rfl d_Names_declare_6 ?_
  refine lv_iload_n hx hb d_Names_declare_9 rfl (lv_at hl 0 rfl) ?_
  refine lv_iconst (v := 5) hx hb d_Names_declare_10 (by decide) ?_
  refine lv_iadd hx hb d_Names_declare_11 ?_
  refine zz_i (y := nI (7 * x + 5)) (nI_add (7 * x) 5) ?_
  refine zz_iald (v := (f (7 * x + 5))) hx hb hK hP 1 0 rfl rfl (i := (nI (7 * x + 5))) (7 * x + 5) (zix_nI (by omega) (by omega)) (rfl) d_Names_declare_12 ?_
  refine lv_iconst (v := (-1)) hx hb d_Names_declare_13 (by decide) ?_
  have hc_1 : ((f (7 * x + 5)) : Int32) = (-1) := hg
  refine lv_icmp_ne hx hb d_Names_declare_14 rfl (fun h => absurd hc_1 h) (fun _ => ?_)
  refine lv_aload_n hx hb d_Names_declare_17 rfl (lv_at hl 1 rfl) ?_
  refine va_get (D := D) (ci := 2) (v := .ref q) (C := "ProofDesk$Names") (T := F_Names) (N := 6) hx hb hts in_Names hown hK hP 0 rfl rfl 2 (by decide) (hts _ kw_145) (fun _ h9 => h9) rfl d_Names_declare_18 ?_
  refine lv_iload_n hx hb d_Names_declare_21 rfl (lv_at hl 0 rfl) ?_
  refine lv_bipush (v := 6) hx hb d_Names_declare_22 (by decide) ?_
  refine lv_iadd hx hb d_Names_declare_24 ?_
  refine zz_i (y := nI (7 * x + 6)) (nI_add (7 * x) 6) ?_
  refine zz_iald (v := (f (7 * x + 6))) hx hb hK hP 1 0 rfl rfl (i := (nI (7 * x + 6))) (7 * x + 6) (zix_nI (by omega) (by omega)) (rfl) d_Names_declare_25 ?_
  refine lv_aload_n hx hb d_Names_declare_26 rfl (lv_at hl 1 rfl) ?_
  refine va_get (D := D) (ci := 2) (v := .int se) (C := "ProofDesk$Names") (T := F_Names) (N := 6) hx hb hts in_Names hown hK hP 0 rfl rfl 5 (by decide) (hts _ kw_149) (fun _ h9 => h9) rfl d_Names_declare_27 ?_
  have hc_2 : ((f (7 * x + 6)) : Int32) = se := hs
  refine lv_icmp_ne hx hb d_Names_declare_30 rfl (fun h => absurd hc_2 h) (fun _ => ?_)
  refine lv_iconst (v := 1) hx hb d_Names_declare_33 (by decide) ?_
  refine lv_goto hx hb d_Names_declare_34 rfl ?_
  refine lv_istore_n (lv' := [(3, .int 1), (2, .int (nI (7 * x))), (0, .ref h0), (1, .int (nI x))]) hx hb d_Names_declare_38 rfl hl (by decide) rfl (fun ls hl => ?_)
  refine lv_aload_n hx hb d_Names_declare_39 rfl (lv_at hl 2 rfl) ?_
  refine va_get (D := D) (ci := 2) (v := .ref q) (C := "ProofDesk$Names") (T := F_Names) (N := 6) hx hb hts in_Names hown hK hP 0 rfl rfl 2 (by decide) (hts _ kw_145) (fun _ h9 => h9) rfl d_Names_declare_40 ?_
  refine lv_iload_n hx hb d_Names_declare_43 rfl (lv_at hl 1 rfl) ?_
  refine lv_bipush (v := 6) hx hb d_Names_declare_44 (by decide) ?_
  refine lv_iadd hx hb d_Names_declare_46 ?_
  refine zz_i (y := nI (7 * x + 6)) (nI_add (7 * x) 6) ?_
  refine lv_aload_n hx hb d_Names_declare_47 rfl (lv_at hl 2 rfl) ?_
  refine va_get (D := D) (ci := 2) (v := .int se) (C := "ProofDesk$Names") (T := F_Names) (N := 6) hx hb hts in_Names hown hK hP 0 rfl rfl 5 (by decide) (hts _ kw_149) (fun _ h9 => h9) rfl d_Names_declare_48 ?_
  refine zz_iast hx hb hK hP hD hS 1 0 rfl rfl (i := (nI (7 * x + 6))) (x := se) (7 * x + 6) (zix_nI (by omega) (by omega)) d_Names_declare_51 (fun H locs hP hD hS => ?_)
  have hP : va_P D zcl [(h0, .inr (2, [g0, g1, .ref q, g3, g4, .int se])), (q, .inl (cI, n, .inl (upd f (7 * x + 6) se)))] H := hP
  have hD : va_D A [(h0, .inr (2, [g0, g1, .ref q, g3, g4, .int se])), (q, .inl (cI, n, .inl (upd f (7 * x + 6) se)))] := hD
  refine lv_iload_n hx hb d_Names_declare_52 rfl (lv_at hl 0 rfl) ?_
  have hP9 := hP.sub (ws' := [(h0, .inr (2, [g0, g1, .ref q, g3, g4, .int se])), (q, .inl (cI, n, .inl (upd f (7 * x + 6) se)))]) [0, 1] rfl
  have hD9 := hD.sub (ws' := [(h0, .inr (2, [g0, g1, .ref q, g3, g4, .int se])), (q, .inl (cI, n, .inl (upd f (7 * x + 6) se)))]) [0, 1] (by decide +kernel) rfl
  refine W.widen (k := 0) (n := 0) (by omega) (by omega) ?_
  exact W.zret (v := 1) hx hb hr rfl (fun t ht hW => ⟨⟨1, (), rfl, rfl, by rw [ht]; exact hP9, hD9⟩, hS.F ht⟩) hS.2.2 d_Names_declare_53
theorem d_Names_declare_37 : decode b_Names_declare 37 = .ok (.iconst 0, 1) := by decide +kernel
set_option maxHeartbeats 4000000 in
set_option maxRecDepth 100000 in
theorem g_Names_declareN (l : Launch) (D : va_G) (cI cB cZ cS : ClassId) (sz : Nat) (h0 : Nat) (q : Nat) (n : Nat) (f : Nat → Int32) (g0 : Value) (g1 : Value) (g3 : Value) (g4 : Value) (se : Int32) (x : Nat) (hx9 : 7 * x + 6 < n) (hN : n ≤ 33554432) (hg : f (7 * x + 5) = -1) (hs : ¬ f (7 * x + 6) = se) : Met l y_Names_declare (zc y_Names_declare b_Names_declare 4 (some .boolean)) ({ frames := 0, cells := 0, slots := 0, locals := 0 }) (zPc D (zty cI cB cZ cS) [(h0, .inr (2, [g0, g1, .ref q, g3, g4, .int se])), (q, .inl (cI, n, .inl f))] sz [.ref h0, .int (nI x)]) (va_Qi (fun (r : Int32) (_ : Unit) => r = 0) (fun _ t => va_P D zcl [(h0, .inr (2, [g0, g1, .ref q, g3, g4, .int se])), (q, .inl (cI, n, .inl (upd f (7 * x + 6) se)))] t.heap ∧ va_D (va_A [(h0, .inr (2, [g0, g1, .ref q, g3, g4, .int se])), (q, .inl (cI, n, .inl f))] sz) [(h0, .inr (2, [g0, g1, .ref q, g3, g4, .int se])), (q, .inl (cI, n, .inl (upd f (7 * x + 6) se)))]) (va_A [(h0, .inr (2, [g0, g1, .ref q, g3, g4, .int se])), (q, .inl (cI, n, .inl f))] sz)) 0 0 (va_A [(h0, .inr (2, [g0, g1, .ref q, g3, g4, .int se])), (q, .inl (cI, n, .inl f))] sz) := by
  refine Met.ofW (cc := b_Names_declare) (maxL := 4) (ret := (some .boolean)) (by decide) rfl ?_
  intro p e s m args below meth c s₁ B hml hv
  obtain ⟨rfl, hsz, hP, ⟨hK, hN⟩, hD0⟩ := hv
  have hx := B.exec
  have hb := B.bytes
  have hr := B.returns
  have hts0 := atoms_spec (ws := zc y_Names_declare b_Names_declare 4 (some .boolean)) B.pre
  have hts : ∀ w ∈ zw, w.before _ s = true := fun w hw => hts0 w (List.mem_cons_of_mem _ hw)
  have hown : s.vm.findClass "ProofDesk$Names" = some m.cls := findClass_of_methodNamed B.named
  have hlocks := B.notSynchronized
  subst hsz
  have hD := hD0.self (sz := s.heap.size)
  generalize hAe : va_A [(h0, .inr (2, [g0, g1, .ref q, g3, g4, .int se])), (q, .inl (cI, n, .inl f))] s.heap.size = A at hD ⊢
  have hA : ∀ q : Nat, s.heap.size ≤ q → A q := fun q h => by rw [← hAe]; exact Or.inr h
  have hS : va_S A s.heap s.heap [] := va_S.rf
  have hP : va_P D zcl [(h0, .inr (2, [g0, g1, .ref q, g3, g4, .int se])), (q, .inl (cI, n, .inl f))] s.heap := hP
  have hl := lv_entry ([.ref h0, .int (nI x)]) (n := 4) (Nat.le_of_ble_eq_true rfl)
  rw [lg_entry_eq]
  generalize (lg_sl ([.ref h0, .int (nI x)]) ++ List.replicate (4 - (lg_sl ([.ref h0, .int (nI x)])).length) Slot.unset).toArray = ls at hl ⊢
  have hl : lv_has ls 4 [(0, .ref h0), (1, .int (nI x))] := hl
  refine lv_bipush (v := 7) hx hb d_Names_declare_0 (by decide) ?_
  refine lv_iload_n hx hb d_Names_declare_2 rfl (lv_at hl 1 rfl) ?_
  refine lv_imul hx hb d_Names_declare_3 ?_
  refine zz_i (y := nI (7 * x)) (pk_mul 7 x) ?_
  refine lv_istore_n (lv' := [(2, .int (nI (7 * x))), (0, .ref h0), (1, .int (nI x))]) hx hb d_Names_declare_4 rfl hl (by decide) rfl (fun ls hl => ?_)
  refine lv_aload_n hx hb d_Names_declare_5 rfl (lv_at hl 1 rfl) ?_
  refine va_get (D := D) (ci := 2) (v := .ref q) (C := "ProofDesk$Names") (T := F_Names) (N := 6) hx hb hts in_Names hown hK hP 0 rfl rfl 2 (by decide) (hts _ kw_145) (fun _ h9 => h9) rfl d_Names_declare_6 ?_
  refine lv_iload_n hx hb d_Names_declare_9 rfl (lv_at hl 0 rfl) ?_
  refine lv_iconst (v := 5) hx hb d_Names_declare_10 (by decide) ?_
  refine lv_iadd hx hb d_Names_declare_11 ?_
  refine zz_i (y := nI (7 * x + 5)) (nI_add (7 * x) 5) ?_
  refine zz_iald (v := (f (7 * x + 5))) hx hb hK hP 1 0 rfl rfl (i := (nI (7 * x + 5))) (7 * x + 5) (zix_nI (by omega) (by omega)) (rfl) d_Names_declare_12 ?_
  refine lv_iconst (v := (-1)) hx hb d_Names_declare_13 (by decide) ?_
  have hc_1 : ((f (7 * x + 5)) : Int32) = (-1) := hg
  refine lv_icmp_ne hx hb d_Names_declare_14 rfl (fun h => absurd hc_1 h) (fun _ => ?_)
  refine lv_aload_n hx hb d_Names_declare_17 rfl (lv_at hl 1 rfl) ?_
  refine va_get (D := D) (ci := 2) (v := .ref q) (C := "ProofDesk$Names") (T := F_Names) (N := 6) hx hb hts in_Names hown hK hP 0 rfl rfl 2 (by decide) (hts _ kw_145) (fun _ h9 => h9) rfl d_Names_declare_18 ?_
  refine lv_iload_n hx hb d_Names_declare_21 rfl (lv_at hl 0 rfl) ?_
  refine lv_bipush (v := 6) hx hb d_Names_declare_22 (by decide) ?_
  refine lv_iadd hx hb d_Names_declare_24 ?_
  refine zz_i (y := nI (7 * x + 6)) (nI_add (7 * x) 6) ?_
  refine zz_iald (v := (f (7 * x + 6))) hx hb hK hP 1 0 rfl rfl (i := (nI (7 * x + 6))) (7 * x + 6) (zix_nI (by omega) (by omega)) (rfl) d_Names_declare_25 ?_
  refine lv_aload_n hx hb d_Names_declare_26 rfl (lv_at hl 1 rfl) ?_
  refine va_get (D := D) (ci := 2) (v := .int se) (C := "ProofDesk$Names") (T := F_Names) (N := 6) hx hb hts in_Names hown hK hP 0 rfl rfl 5 (by decide) (hts _ kw_149) (fun _ h9 => h9) rfl d_Names_declare_27 ?_
  have hc_2 : ¬ ((f (7 * x + 6)) : Int32) = se := hs
  refine lv_icmp_ne hx hb d_Names_declare_30 rfl (fun _ => ?_) (fun h => absurd h hc_2)
  refine lv_iconst (v := 0) hx hb d_Names_declare_37 (by decide) ?_
  refine lv_istore_n (lv' := [(3, .int 0), (2, .int (nI (7 * x))), (0, .ref h0), (1, .int (nI x))]) hx hb d_Names_declare_38 rfl hl (by decide) rfl (fun ls hl => ?_)
  refine lv_aload_n hx hb d_Names_declare_39 rfl (lv_at hl 2 rfl) ?_
  refine va_get (D := D) (ci := 2) (v := .ref q) (C := "ProofDesk$Names") (T := F_Names) (N := 6) hx hb hts in_Names hown hK hP 0 rfl rfl 2 (by decide) (hts _ kw_145) (fun _ h9 => h9) rfl d_Names_declare_40 ?_
  refine lv_iload_n hx hb d_Names_declare_43 rfl (lv_at hl 1 rfl) ?_
  refine lv_bipush (v := 6) hx hb d_Names_declare_44 (by decide) ?_
  refine lv_iadd hx hb d_Names_declare_46 ?_
  refine zz_i (y := nI (7 * x + 6)) (nI_add (7 * x) 6) ?_
  refine lv_aload_n hx hb d_Names_declare_47 rfl (lv_at hl 2 rfl) ?_
  refine va_get (D := D) (ci := 2) (v := .int se) (C := "ProofDesk$Names") (T := F_Names) (N := 6) hx hb hts in_Names hown hK hP 0 rfl rfl 5 (by decide) (hts _ kw_149) (fun _ h9 => h9) rfl d_Names_declare_48 ?_
  refine zz_iast hx hb hK hP hD hS 1 0 rfl rfl (i := (nI (7 * x + 6))) (x := se) (7 * x + 6) (zix_nI (by omega) (by omega)) d_Names_declare_51 (fun H locs hP hD hS => ?_)
  have hP : va_P D zcl [(h0, .inr (2, [g0, g1, .ref q, g3, g4, .int se])), (q, .inl (cI, n, .inl (upd f (7 * x + 6) se)))] H := hP
  have hD : va_D A [(h0, .inr (2, [g0, g1, .ref q, g3, g4, .int se])), (q, .inl (cI, n, .inl (upd f (7 * x + 6) se)))] := hD
  refine lv_iload_n hx hb d_Names_declare_52 rfl (lv_at hl 0 rfl) ?_
  have hP9 := hP.sub (ws' := [(h0, .inr (2, [g0, g1, .ref q, g3, g4, .int se])), (q, .inl (cI, n, .inl (upd f (7 * x + 6) se)))]) [0, 1] rfl
  have hD9 := hD.sub (ws' := [(h0, .inr (2, [g0, g1, .ref q, g3, g4, .int se])), (q, .inl (cI, n, .inl (upd f (7 * x + 6) se)))]) [0, 1] (by decide +kernel) rfl
  refine W.widen (k := 0) (n := 0) (by omega) (by omega) ?_
  exact W.zret (v := 0) hx hb hr rfl (fun t ht hW => ⟨⟨0, (), rfl, rfl, by rw [ht]; exact hP9, hD9⟩, hS.F ht⟩) hS.2.2 d_Names_declare_53
abbrev b_Ledger_goesOn : ByteArray := prog_3_method_4_code
abbrev y_Ledger_goesOn : MethodName := ⟨"ProofDesk$Ledger", "goesOn", "()Z"⟩
theorem d_Ledger_goesOn_0 : decode b_Ledger_goesOn 0 = .ok (.aload_n 0, 1) := by decide +kernel
theorem d_Ledger_goesOn_1 : decode b_Ledger_goesOn 1 = .ok (.getfield 30, 3) := by decide +kernel
theorem d_Ledger_goesOn_4 : decode b_Ledger_goesOn 4 = .ok (.ifCond .ne 7, 3) := by decide +kernel
theorem d_Ledger_goesOn_7 : decode b_Ledger_goesOn 7 = .ok (.iconst 1, 1) := by decide +kernel
theorem d_Ledger_goesOn_8 : decode b_Ledger_goesOn 8 = .ok (.goto 4, 3) := by decide +kernel
theorem d_Ledger_goesOn_12 : decode b_Ledger_goesOn 12 = .ok (.ireturn, 1) := by decide +kernel
set_option maxHeartbeats 4000000 in
set_option maxRecDepth 100000 in
theorem g_Ledger_goesOn1 (l : Launch) (D : va_G) (cI cB cZ cS : ClassId) (sz : Nat) (h0 : Nat) (oc : Int32) (g0 : Value) (g1 : Value) (g2 : Value) (g4 : Value) (g5 : Value) (ho : oc = 0) : Met l y_Ledger_goesOn (zc y_Ledger_goesOn b_Ledger_goesOn 1 (some .boolean)) ({ frames := 0, cells := 0, slots := 0, locals := 0 }) (zPc D (zty cI cB cZ cS) [(h0, .inr (1, [g0, g1, g2, .int oc, g4, g5]))] sz [.ref h0]) (va_Qi (fun (r : Int32) (_ : Unit) => r = 1) (fun _ t => va_P D zcl [(h0, .inr (1, [g0, g1, g2, .int oc, g4, g5]))] t.heap ∧ va_D (va_A [(h0, .inr (1, [g0, g1, g2, .int oc, g4, g5]))] sz) [(h0, .inr (1, [g0, g1, g2, .int oc, g4, g5]))]) (va_A [(h0, .inr (1, [g0, g1, g2, .int oc, g4, g5]))] sz)) 0 0 (va_A [(h0, .inr (1, [g0, g1, g2, .int oc, g4, g5]))] sz) := by
  refine Met.ofW (cc := b_Ledger_goesOn) (maxL := 1) (ret := (some .boolean)) (by decide) rfl ?_
  intro p e s m args below meth c s₁ B hml hv
  obtain ⟨rfl, hsz, hP, ⟨hK, hN⟩, hD0⟩ := hv
  have hx := B.exec
  have hb := B.bytes
  have hr := B.returns
  have hts0 := atoms_spec (ws := zc y_Ledger_goesOn b_Ledger_goesOn 1 (some .boolean)) B.pre
  have hts : ∀ w ∈ zw, w.before _ s = true := fun w hw => hts0 w (List.mem_cons_of_mem _ hw)
  have hown : s.vm.findClass "ProofDesk$Ledger" = some m.cls := findClass_of_methodNamed B.named
  have hlocks := B.notSynchronized
  subst hsz
  have hD := hD0.self (sz := s.heap.size)
  generalize hAe : va_A [(h0, .inr (1, [g0, g1, g2, .int oc, g4, g5]))] s.heap.size = A at hD ⊢
  have hA : ∀ q : Nat, s.heap.size ≤ q → A q := fun q h => by rw [← hAe]; exact Or.inr h
  have hS : va_S A s.heap s.heap [] := va_S.rf
  have hP : va_P D zcl [(h0, .inr (1, [g0, g1, g2, .int oc, g4, g5]))] s.heap := hP
  have hl := lv_entry ([.ref h0]) (n := 1) (Nat.le_of_ble_eq_true rfl)
  rw [lg_entry_eq]
  generalize (lg_sl ([.ref h0]) ++ List.replicate (1 - (lg_sl ([.ref h0])).length) Slot.unset).toArray = ls at hl ⊢
  have hl : lv_has ls 1 [(0, .ref h0)] := hl
  refine lv_aload_n hx hb d_Ledger_goesOn_0 rfl (lv_at hl 0 rfl) ?_
  refine va_get (D := D) (ci := 1) (v := .int oc) (C := "ProofDesk$Ledger") (T := F_Ledger) (N := 6) hx hb hts in_Ledger hown hK hP 0 rfl rfl 3 (by decide) (hts _ kw_70) (fun _ h9 => h9) rfl d_Ledger_goesOn_1 ?_
  have hc_1 : (oc : Int32) = 0 := ho
  refine lv_if_ne hx hb d_Ledger_goesOn_4 rfl (fun h => absurd hc_1 h) (fun _ => ?_)
  refine lv_iconst (v := 1) hx hb d_Ledger_goesOn_7 (by decide) ?_
  refine lv_goto hx hb d_Ledger_goesOn_8 rfl ?_
  have hP9 := hP.sub (ws' := [(h0, .inr (1, [g0, g1, g2, .int oc, g4, g5]))]) [0] rfl
  have hD9 := hD.sub (ws' := [(h0, .inr (1, [g0, g1, g2, .int oc, g4, g5]))]) [0] (by decide +kernel) rfl
  refine W.widen (k := 0) (n := 0) (by omega) (by omega) ?_
  exact W.zret (v := 1) hx hb hr rfl (fun t ht hW => ⟨⟨1, (), rfl, rfl, by rw [ht]; exact hP9, hD9⟩, hS.F ht⟩) hS.2.2 d_Ledger_goesOn_12
theorem d_Ledger_goesOn_11 : decode b_Ledger_goesOn 11 = .ok (.iconst 0, 1) := by decide +kernel
set_option maxHeartbeats 4000000 in
set_option maxRecDepth 100000 in
theorem g_Ledger_goesOn0 (l : Launch) (D : va_G) (cI cB cZ cS : ClassId) (sz : Nat) (h0 : Nat) (oc : Int32) (g0 : Value) (g1 : Value) (g2 : Value) (g4 : Value) (g5 : Value) (ho : ¬ oc = 0) : Met l y_Ledger_goesOn (zc y_Ledger_goesOn b_Ledger_goesOn 1 (some .boolean)) ({ frames := 0, cells := 0, slots := 0, locals := 0 }) (zPc D (zty cI cB cZ cS) [(h0, .inr (1, [g0, g1, g2, .int oc, g4, g5]))] sz [.ref h0]) (va_Qi (fun (r : Int32) (_ : Unit) => r = 0) (fun _ t => va_P D zcl [(h0, .inr (1, [g0, g1, g2, .int oc, g4, g5]))] t.heap ∧ va_D (va_A [(h0, .inr (1, [g0, g1, g2, .int oc, g4, g5]))] sz) [(h0, .inr (1, [g0, g1, g2, .int oc, g4, g5]))]) (va_A [(h0, .inr (1, [g0, g1, g2, .int oc, g4, g5]))] sz)) 0 0 (va_A [(h0, .inr (1, [g0, g1, g2, .int oc, g4, g5]))] sz) := by
  refine Met.ofW (cc := b_Ledger_goesOn) (maxL := 1) (ret := (some .boolean)) (by decide) rfl ?_
  intro p e s m args below meth c s₁ B hml hv
  obtain ⟨rfl, hsz, hP, ⟨hK, hN⟩, hD0⟩ := hv
  have hx := B.exec
  have hb := B.bytes
  have hr := B.returns
  have hts0 := atoms_spec (ws := zc y_Ledger_goesOn b_Ledger_goesOn 1 (some .boolean)) B.pre
  have hts : ∀ w ∈ zw, w.before _ s = true := fun w hw => hts0 w (List.mem_cons_of_mem _ hw)
  have hown : s.vm.findClass "ProofDesk$Ledger" = some m.cls := findClass_of_methodNamed B.named
  have hlocks := B.notSynchronized
  subst hsz
  have hD := hD0.self (sz := s.heap.size)
  generalize hAe : va_A [(h0, .inr (1, [g0, g1, g2, .int oc, g4, g5]))] s.heap.size = A at hD ⊢
  have hA : ∀ q : Nat, s.heap.size ≤ q → A q := fun q h => by rw [← hAe]; exact Or.inr h
  have hS : va_S A s.heap s.heap [] := va_S.rf
  have hP : va_P D zcl [(h0, .inr (1, [g0, g1, g2, .int oc, g4, g5]))] s.heap := hP
  have hl := lv_entry ([.ref h0]) (n := 1) (Nat.le_of_ble_eq_true rfl)
  rw [lg_entry_eq]
  generalize (lg_sl ([.ref h0]) ++ List.replicate (1 - (lg_sl ([.ref h0])).length) Slot.unset).toArray = ls at hl ⊢
  have hl : lv_has ls 1 [(0, .ref h0)] := hl
  refine lv_aload_n hx hb d_Ledger_goesOn_0 rfl (lv_at hl 0 rfl) ?_
  refine va_get (D := D) (ci := 1) (v := .int oc) (C := "ProofDesk$Ledger") (T := F_Ledger) (N := 6) hx hb hts in_Ledger hown hK hP 0 rfl rfl 3 (by decide) (hts _ kw_70) (fun _ h9 => h9) rfl d_Ledger_goesOn_1 ?_
  have hc_1 : ¬ (oc : Int32) = 0 := ho
  refine lv_if_ne hx hb d_Ledger_goesOn_4 rfl (fun _ => ?_) (fun h => absurd h hc_1)
  refine lv_iconst (v := 0) hx hb d_Ledger_goesOn_11 (by decide) ?_
  have hP9 := hP.sub (ws' := [(h0, .inr (1, [g0, g1, g2, .int oc, g4, g5]))]) [0] rfl
  have hD9 := hD.sub (ws' := [(h0, .inr (1, [g0, g1, g2, .int oc, g4, g5]))]) [0] (by decide +kernel) rfl
  refine W.widen (k := 0) (n := 0) (by omega) (by omega) ?_
  exact W.zret (v := 0) hx hb hr rfl (fun t ht hW => ⟨⟨0, (), rfl, rfl, by rw [ht]; exact hP9, hD9⟩, hS.F ht⟩) hS.2.2 d_Ledger_goesOn_12
abbrev b_Ledger_refuse : ByteArray := prog_3_method_6_code
abbrev y_Ledger_refuse : MethodName := ⟨"ProofDesk$Ledger", "refuse", "(II)V"⟩
theorem d_Ledger_refuse_0 : decode b_Ledger_refuse 0 = .ok (.aload_n 0, 1) := by decide +kernel
theorem d_Ledger_refuse_1 : decode b_Ledger_refuse 1 = .ok (.getfield 30, 3) := by decide +kernel
theorem d_Ledger_refuse_4 : decode b_Ledger_refuse 4 = .ok (.ifCond .ne 18, 3) := by decide +kernel
theorem d_Ledger_refuse_7 : decode b_Ledger_refuse 7 = .ok (.aload_n 0, 1) := by decide +kernel
theorem d_Ledger_refuse_8 : decode b_Ledger_refuse 8 = .ok (.iconst 1, 1) := by decide +kernel
theorem d_Ledger_refuse_9 : decode b_Ledger_refuse 9 = .ok (.putfield 30, 3) := by decide +kernel
theorem d_Ledger_refuse_12 : decode b_Ledger_refuse 12 = .ok (.aload_n 0, 1) := by decide +kernel
theorem d_Ledger_refuse_13 : decode b_Ledger_refuse 13 = .ok (.iload_n 1, 1) := by decide +kernel
theorem d_Ledger_refuse_14 : decode b_Ledger_refuse 14 = .ok (.putfield 33, 3) := by decide +kernel
theorem d_Ledger_refuse_17 : decode b_Ledger_refuse 17 = .ok (.aload_n 0, 1) := by decide +kernel
theorem d_Ledger_refuse_18 : decode b_Ledger_refuse 18 = .ok (.iload_n 2, 1) := by decide +kernel
theorem d_Ledger_refuse_19 : decode b_Ledger_refuse 19 = .ok (.putfield 36, 3) := by decide +kernel
theorem d_Ledger_refuse_22 : decode b_Ledger_refuse 22 = .ok (.return_, 1) := by decide +kernel
set_option maxHeartbeats 4000000 in
set_option maxRecDepth 100000 in
theorem g_Ledger_refuse1 (l : Launch) (D : va_G) (cI cB cZ cS : ClassId) (sz : Nat) (h0 : Nat) (oc : Int32) (g0 : Value) (g1 : Value) (g2 : Value) (g4 : Value) (g5 : Value) (uu : Int32) (v : Int32) (ho : oc = 0) : Met l y_Ledger_refuse (zc y_Ledger_refuse b_Ledger_refuse 3 none) ({ frames := 0, cells := 0, slots := 0, locals := 0 }) (zPc D (zty cI cB cZ cS) [(h0, .inr (1, [g0, g1, g2, .int oc, g4, g5]))] sz [.ref h0, .int uu, .int v]) (va_Qv (fun _ : Unit => True) (fun _ t => va_P D zcl [(h0, .inr (1, [g0, g1, g2, .int 1, .int uu, .int v]))] t.heap ∧ va_D (va_A [(h0, .inr (1, [g0, g1, g2, .int oc, g4, g5]))] sz) [(h0, .inr (1, [g0, g1, g2, .int 1, .int uu, .int v]))]) (va_A [(h0, .inr (1, [g0, g1, g2, .int oc, g4, g5]))] sz)) 0 0 (va_A [(h0, .inr (1, [g0, g1, g2, .int oc, g4, g5]))] sz) := by
  refine Met.ofW (cc := b_Ledger_refuse) (maxL := 3) (ret := none) (by decide) rfl ?_
  intro p e s m args below meth c s₁ B hml hv
  obtain ⟨rfl, hsz, hP, ⟨hK, hN⟩, hD0⟩ := hv
  have hx := B.exec
  have hb := B.bytes
  have hr := B.returns
  have hts0 := atoms_spec (ws := zc y_Ledger_refuse b_Ledger_refuse 3 none) B.pre
  have hts : ∀ w ∈ zw, w.before _ s = true := fun w hw => hts0 w (List.mem_cons_of_mem _ hw)
  have hown : s.vm.findClass "ProofDesk$Ledger" = some m.cls := findClass_of_methodNamed B.named
  have hlocks := B.notSynchronized
  subst hsz
  have hD := hD0.self (sz := s.heap.size)
  generalize hAe : va_A [(h0, .inr (1, [g0, g1, g2, .int oc, g4, g5]))] s.heap.size = A at hD ⊢
  have hA : ∀ q : Nat, s.heap.size ≤ q → A q := fun q h => by rw [← hAe]; exact Or.inr h
  have hS : va_S A s.heap s.heap [] := va_S.rf
  have hP : va_P D zcl [(h0, .inr (1, [g0, g1, g2, .int oc, g4, g5]))] s.heap := hP
  have hl := lv_entry ([.ref h0, .int uu, .int v]) (n := 3) (Nat.le_of_ble_eq_true rfl)
  rw [lg_entry_eq]
  generalize (lg_sl ([.ref h0, .int uu, .int v]) ++ List.replicate (3 - (lg_sl ([.ref h0, .int uu, .int v])).length) Slot.unset).toArray = ls at hl ⊢
  have hl : lv_has ls 3 [(0, .ref h0), (1, .int uu), (2, .int v)] := hl
  refine lv_aload_n hx hb d_Ledger_refuse_0 rfl (lv_at hl 0 rfl) ?_
  refine va_get (D := D) (ci := 1) (v := .int oc) (C := "ProofDesk$Ledger") (T := F_Ledger) (N := 6) hx hb hts in_Ledger hown hK hP 0 rfl rfl 3 (by decide) (hts _ kw_70) (fun _ h9 => h9) rfl d_Ledger_refuse_1 ?_
  have hc_1 : (oc : Int32) = 0 := ho
  refine lv_if_ne hx hb d_Ledger_refuse_4 rfl (fun h => absurd hc_1 h) (fun _ => ?_)
  refine lv_aload_n hx hb d_Ledger_refuse_7 rfl (lv_at hl 0 rfl) ?_
  refine lv_iconst (v := 1) hx hb d_Ledger_refuse_8 (by decide) ?_
  refine va_put (D := D) (ci := 1) (v := .int 1) (ty := .int) (C := "ProofDesk$Ledger") (T := F_Ledger) (N := 6) hx hb hts in_Ledger t_Ledger t_Ledger_ok n_Ledger hown hK hP hD hS 0 rfl rfl 3 (by decide) (hts _ kw_70) (fun _ h9 => h9) rfl (by decide +kernel) rfl rfl (Nat.le_of_ble_eq_true rfl) d_Ledger_refuse_9 (fun H locs hP hD hS => ?_)
  have hP : va_P D zcl [(h0, .inr (1, [g0, g1, g2, .int 1, g4, g5]))] H := hP
  have hD : va_D A [(h0, .inr (1, [g0, g1, g2, .int 1, g4, g5]))] := hD
  refine lv_aload_n hx hb d_Ledger_refuse_12 rfl (lv_at hl 0 rfl) ?_
  refine lv_iload_n hx hb d_Ledger_refuse_13 rfl (lv_at hl 1 rfl) ?_
  refine va_put (D := D) (ci := 1) (v := .int uu) (ty := .int) (C := "ProofDesk$Ledger") (T := F_Ledger) (N := 6) hx hb hts in_Ledger t_Ledger t_Ledger_ok n_Ledger hown hK hP hD hS 0 rfl rfl 4 (by decide) (hts _ kw_71) (fun _ h9 => h9) rfl (by decide +kernel) rfl rfl (Nat.le_of_ble_eq_true rfl) d_Ledger_refuse_14 (fun H locs hP hD hS => ?_)
  have hP : va_P D zcl [(h0, .inr (1, [g0, g1, g2, .int 1, .int uu, g5]))] H := hP
  have hD : va_D A [(h0, .inr (1, [g0, g1, g2, .int 1, .int uu, g5]))] := hD
  refine lv_aload_n hx hb d_Ledger_refuse_17 rfl (lv_at hl 0 rfl) ?_
  refine lv_iload_n hx hb d_Ledger_refuse_18 rfl (lv_at hl 2 rfl) ?_
  refine va_put (D := D) (ci := 1) (v := .int v) (ty := .int) (C := "ProofDesk$Ledger") (T := F_Ledger) (N := 6) hx hb hts in_Ledger t_Ledger t_Ledger_ok n_Ledger hown hK hP hD hS 0 rfl rfl 5 (by decide) (hts _ kw_72) (fun _ h9 => h9) rfl (by decide +kernel) rfl rfl (Nat.le_of_ble_eq_true rfl) d_Ledger_refuse_19 (fun H locs hP hD hS => ?_)
  have hP : va_P D zcl [(h0, .inr (1, [g0, g1, g2, .int 1, .int uu, .int v]))] H := hP
  have hD : va_D A [(h0, .inr (1, [g0, g1, g2, .int 1, .int uu, .int v]))] := hD
  have hP9 := hP.sub (ws' := [(h0, .inr (1, [g0, g1, g2, .int 1, .int uu, .int v]))]) [0] rfl
  have hD9 := hD.sub (ws' := [(h0, .inr (1, [g0, g1, g2, .int 1, .int uu, .int v]))]) [0] (by decide +kernel) rfl
  refine W.widen (k := 0) (n := 0) (by omega) (by omega) ?_
  exact W.vret hx hb hr (fun t ht hW => ⟨⟨(), rfl, trivial, by rw [ht]; exact hP9, hD9⟩, hS.F ht⟩) hS.2.2 d_Ledger_refuse_22
set_option maxHeartbeats 4000000 in
set_option maxRecDepth 100000 in
theorem g_Ledger_refuse0 (l : Launch) (D : va_G) (cI cB cZ cS : ClassId) (sz : Nat) (h0 : Nat) (oc : Int32) (g0 : Value) (g1 : Value) (g2 : Value) (g4 : Value) (g5 : Value) (uu : Int32) (v : Int32) (ho : ¬ oc = 0) : Met l y_Ledger_refuse (zc y_Ledger_refuse b_Ledger_refuse 3 none) ({ frames := 0, cells := 0, slots := 0, locals := 0 }) (zPc D (zty cI cB cZ cS) [(h0, .inr (1, [g0, g1, g2, .int oc, g4, g5]))] sz [.ref h0, .int uu, .int v]) (va_Qv (fun _ : Unit => True) (fun _ t => va_P D zcl [(h0, .inr (1, [g0, g1, g2, .int oc, g4, g5]))] t.heap ∧ va_D (va_A [(h0, .inr (1, [g0, g1, g2, .int oc, g4, g5]))] sz) [(h0, .inr (1, [g0, g1, g2, .int oc, g4, g5]))]) (va_A [(h0, .inr (1, [g0, g1, g2, .int oc, g4, g5]))] sz)) 0 0 (va_A [(h0, .inr (1, [g0, g1, g2, .int oc, g4, g5]))] sz) := by
  refine Met.ofW (cc := b_Ledger_refuse) (maxL := 3) (ret := none) (by decide) rfl ?_
  intro p e s m args below meth c s₁ B hml hv
  obtain ⟨rfl, hsz, hP, ⟨hK, hN⟩, hD0⟩ := hv
  have hx := B.exec
  have hb := B.bytes
  have hr := B.returns
  have hts0 := atoms_spec (ws := zc y_Ledger_refuse b_Ledger_refuse 3 none) B.pre
  have hts : ∀ w ∈ zw, w.before _ s = true := fun w hw => hts0 w (List.mem_cons_of_mem _ hw)
  have hown : s.vm.findClass "ProofDesk$Ledger" = some m.cls := findClass_of_methodNamed B.named
  have hlocks := B.notSynchronized
  subst hsz
  have hD := hD0.self (sz := s.heap.size)
  generalize hAe : va_A [(h0, .inr (1, [g0, g1, g2, .int oc, g4, g5]))] s.heap.size = A at hD ⊢
  have hA : ∀ q : Nat, s.heap.size ≤ q → A q := fun q h => by rw [← hAe]; exact Or.inr h
  have hS : va_S A s.heap s.heap [] := va_S.rf
  have hP : va_P D zcl [(h0, .inr (1, [g0, g1, g2, .int oc, g4, g5]))] s.heap := hP
  have hl := lv_entry ([.ref h0, .int uu, .int v]) (n := 3) (Nat.le_of_ble_eq_true rfl)
  rw [lg_entry_eq]
  generalize (lg_sl ([.ref h0, .int uu, .int v]) ++ List.replicate (3 - (lg_sl ([.ref h0, .int uu, .int v])).length) Slot.unset).toArray = ls at hl ⊢
  have hl : lv_has ls 3 [(0, .ref h0), (1, .int uu), (2, .int v)] := hl
  refine lv_aload_n hx hb d_Ledger_refuse_0 rfl (lv_at hl 0 rfl) ?_
  refine va_get (D := D) (ci := 1) (v := .int oc) (C := "ProofDesk$Ledger") (T := F_Ledger) (N := 6) hx hb hts in_Ledger hown hK hP 0 rfl rfl 3 (by decide) (hts _ kw_70) (fun _ h9 => h9) rfl d_Ledger_refuse_1 ?_
  have hc_1 : ¬ (oc : Int32) = 0 := ho
  refine lv_if_ne hx hb d_Ledger_refuse_4 rfl (fun _ => ?_) (fun h => absurd h hc_1)
  have hP9 := hP.sub (ws' := [(h0, .inr (1, [g0, g1, g2, .int oc, g4, g5]))]) [0] rfl
  have hD9 := hD.sub (ws' := [(h0, .inr (1, [g0, g1, g2, .int oc, g4, g5]))]) [0] (by decide +kernel) rfl
  refine W.widen (k := 0) (n := 0) (by omega) (by omega) ?_
  exact W.vret hx hb hr (fun t ht hW => ⟨⟨(), rfl, trivial, by rw [ht]; exact hP9, hD9⟩, hS.F ht⟩) hS.2.2 d_Ledger_refuse_22
abbrev b_Ledger_charge : ByteArray := prog_3_method_5_code
abbrev y_Ledger_charge : MethodName := ⟨"ProofDesk$Ledger", "charge", "(I)V"⟩
theorem d_Ledger_charge_0 : decode b_Ledger_charge 0 = .ok (.aload_n 0, 1) := by decide +kernel
theorem d_Ledger_charge_1 : decode b_Ledger_charge 1 = .ok (.dup, 1) := by decide +kernel
theorem d_Ledger_charge_2 : decode b_Ledger_charge 2 = .ok (.getfield 27, 3) := by decide +kernel
theorem d_Ledger_charge_5 : decode b_Ledger_charge 5 = .ok (.iload_n 1, 1) := by decide +kernel
theorem d_Ledger_charge_6 : decode b_Ledger_charge 6 = .ok (.iadd, 1) := by decide +kernel
theorem d_Ledger_charge_7 : decode b_Ledger_charge 7 = .ok (.putfield 27, 3) := by decide +kernel
theorem d_Ledger_charge_10 : decode b_Ledger_charge 10 = .ok (.aload_n 0, 1) := by decide +kernel
theorem d_Ledger_charge_11 : decode b_Ledger_charge 11 = .ok (.getfield 27, 3) := by decide +kernel
theorem d_Ledger_charge_14 : decode b_Ledger_charge 14 = .ok (.aload_n 0, 1) := by decide +kernel
theorem d_Ledger_charge_15 : decode b_Ledger_charge 15 = .ok (.getfield 20, 3) := by decide +kernel
theorem d_Ledger_charge_18 : decode b_Ledger_charge 18 = .ok (.if_icmp .le 15, 3) := by decide +kernel
theorem d_Ledger_charge_33 : decode b_Ledger_charge 33 = .ok (.return_, 1) := by decide +kernel
set_option maxHeartbeats 4000000 in
set_option maxRecDepth 100000 in
theorem g_Ledger_charge (l : Launch) (D : va_G) (cI cB cZ cS : ClassId) (sz : Nat) (h0 : Nat) (oc : Int32) (co : Int32) (fu : Int32) (g0 : Value) (g4 : Value) (g5 : Value) (uu : Int32) (hc : co + uu ≤ fu) : Met l y_Ledger_charge (zc y_Ledger_charge b_Ledger_charge 2 none) ({ frames := 0, cells := 0, slots := 0, locals := 0 }) (zPc D (zty cI cB cZ cS) [(h0, .inr (1, [g0, .int fu, .int co, .int oc, g4, g5]))] sz [.ref h0, .int uu]) (va_Qv (fun _ : Unit => True) (fun _ t => va_P D zcl [(h0, .inr (1, [g0, .int fu, .int (co + uu), .int oc, g4, g5]))] t.heap ∧ va_D (va_A [(h0, .inr (1, [g0, .int fu, .int co, .int oc, g4, g5]))] sz) [(h0, .inr (1, [g0, .int fu, .int (co + uu), .int oc, g4, g5]))]) (va_A [(h0, .inr (1, [g0, .int fu, .int co, .int oc, g4, g5]))] sz)) 0 0 (va_A [(h0, .inr (1, [g0, .int fu, .int co, .int oc, g4, g5]))] sz) := by
  refine Met.ofW (cc := b_Ledger_charge) (maxL := 2) (ret := none) (by decide) rfl ?_
  intro p e s m args below meth c s₁ B hml hv
  obtain ⟨rfl, hsz, hP, ⟨hK, hN⟩, hD0⟩ := hv
  have hx := B.exec
  have hb := B.bytes
  have hr := B.returns
  have hts0 := atoms_spec (ws := zc y_Ledger_charge b_Ledger_charge 2 none) B.pre
  have hts : ∀ w ∈ zw, w.before _ s = true := fun w hw => hts0 w (List.mem_cons_of_mem _ hw)
  have hown : s.vm.findClass "ProofDesk$Ledger" = some m.cls := findClass_of_methodNamed B.named
  have hlocks := B.notSynchronized
  subst hsz
  have hD := hD0.self (sz := s.heap.size)
  generalize hAe : va_A [(h0, .inr (1, [g0, .int fu, .int co, .int oc, g4, g5]))] s.heap.size = A at hD ⊢
  have hA : ∀ q : Nat, s.heap.size ≤ q → A q := fun q h => by rw [← hAe]; exact Or.inr h
  have hS : va_S A s.heap s.heap [] := va_S.rf
  have hP : va_P D zcl [(h0, .inr (1, [g0, .int fu, .int co, .int oc, g4, g5]))] s.heap := hP
  have hl := lv_entry ([.ref h0, .int uu]) (n := 2) (Nat.le_of_ble_eq_true rfl)
  rw [lg_entry_eq]
  generalize (lg_sl ([.ref h0, .int uu]) ++ List.replicate (2 - (lg_sl ([.ref h0, .int uu])).length) Slot.unset).toArray = ls at hl ⊢
  have hl : lv_has ls 2 [(0, .ref h0), (1, .int uu)] := hl
  refine lv_aload_n hx hb d_Ledger_charge_0 rfl (lv_at hl 0 rfl) ?_
  refine lv_dup hx hb d_Ledger_charge_1 rfl ?_
  refine va_get (D := D) (ci := 1) (v := .int co) (C := "ProofDesk$Ledger") (T := F_Ledger) (N := 6) hx hb hts in_Ledger hown hK hP 0 rfl rfl 2 (by decide) (hts _ kw_69) (fun _ h9 => h9) rfl d_Ledger_charge_2 ?_
  refine lv_iload_n hx hb d_Ledger_charge_5 rfl (lv_at hl 1 rfl) ?_
  refine lv_iadd hx hb d_Ledger_charge_6 ?_
  refine va_put (D := D) (ci := 1) (v := .int (co + uu)) (ty := .int) (C := "ProofDesk$Ledger") (T := F_Ledger) (N := 6) hx hb hts in_Ledger t_Ledger t_Ledger_ok n_Ledger hown hK hP hD hS 0 rfl rfl 2 (by decide) (hts _ kw_69) (fun _ h9 => h9) rfl (by decide +kernel) rfl rfl (Nat.le_of_ble_eq_true rfl) d_Ledger_charge_7 (fun H locs hP hD hS => ?_)
  have hP : va_P D zcl [(h0, .inr (1, [g0, .int fu, .int (co + uu), .int oc, g4, g5]))] H := hP
  have hD : va_D A [(h0, .inr (1, [g0, .int fu, .int (co + uu), .int oc, g4, g5]))] := hD
  refine lv_aload_n hx hb d_Ledger_charge_10 rfl (lv_at hl 0 rfl) ?_
  refine va_get (D := D) (ci := 1) (v := .int (co + uu)) (C := "ProofDesk$Ledger") (T := F_Ledger) (N := 6) hx hb hts in_Ledger hown hK hP 0 rfl rfl 2 (by decide) (hts _ kw_69) (fun _ h9 => h9) rfl d_Ledger_charge_11 ?_
  refine lv_aload_n hx hb d_Ledger_charge_14 rfl (lv_at hl 0 rfl) ?_
  refine va_get (D := D) (ci := 1) (v := .int fu) (C := "ProofDesk$Ledger") (T := F_Ledger) (N := 6) hx hb hts in_Ledger hown hK hP 0 rfl rfl 1 (by decide) (hts _ kw_67) (fun _ h9 => h9) rfl d_Ledger_charge_15 ?_
  have hc_1 : ((co + uu) : Int32) ≤ fu := hc
  refine lv_icmp_le hx hb d_Ledger_charge_18 rfl (fun _ => ?_) (fun h => absurd hc_1 h)
  have hP9 := hP.sub (ws' := [(h0, .inr (1, [g0, .int fu, .int (co + uu), .int oc, g4, g5]))]) [0] rfl
  have hD9 := hD.sub (ws' := [(h0, .inr (1, [g0, .int fu, .int (co + uu), .int oc, g4, g5]))]) [0] (by decide +kernel) rfl
  refine W.widen (k := 0) (n := 0) (by omega) (by omega) ?_
  exact W.vret hx hb hr (fun t ht hW => ⟨⟨(), rfl, trivial, by rw [ht]; exact hP9, hD9⟩, hS.F ht⟩) hS.2.2 d_Ledger_charge_33
theorem d_Ledger_charge_21 : decode b_Ledger_charge 21 = .ok (.aload_n 0, 1) := by decide +kernel
theorem d_Ledger_charge_22 : decode b_Ledger_charge 22 = .ok (.getfield 30, 3) := by decide +kernel
theorem d_Ledger_charge_25 : decode b_Ledger_charge 25 = .ok (.ifCond .ne 8, 3) := by decide +kernel
theorem d_Ledger_charge_28 : decode b_Ledger_charge 28 = .ok (.aload_n 0, 1) := by decide +kernel
theorem d_Ledger_charge_29 : decode b_Ledger_charge 29 = .ok (.iconst 2, 1) := by decide +kernel
theorem d_Ledger_charge_30 : decode b_Ledger_charge 30 = .ok (.putfield 30, 3) := by decide +kernel
set_option maxHeartbeats 4000000 in
set_option maxRecDepth 100000 in
theorem g_Ledger_chargeO (l : Launch) (D : va_G) (cI cB cZ cS : ClassId) (sz : Nat) (h0 : Nat) (oc : Int32) (co : Int32) (fu : Int32) (g0 : Value) (g4 : Value) (g5 : Value) (uu : Int32) (hc : ¬ co + uu ≤ fu) (ho : oc = 0) : Met l y_Ledger_charge (zc y_Ledger_charge b_Ledger_charge 2 none) ({ frames := 0, cells := 0, slots := 0, locals := 0 }) (zPc D (zty cI cB cZ cS) [(h0, .inr (1, [g0, .int fu, .int co, .int oc, g4, g5]))] sz [.ref h0, .int uu]) (va_Qv (fun _ : Unit => True) (fun _ t => va_P D zcl [(h0, .inr (1, [g0, .int fu, .int (co + uu), .int 2, g4, g5]))] t.heap ∧ va_D (va_A [(h0, .inr (1, [g0, .int fu, .int co, .int oc, g4, g5]))] sz) [(h0, .inr (1, [g0, .int fu, .int (co + uu), .int 2, g4, g5]))]) (va_A [(h0, .inr (1, [g0, .int fu, .int co, .int oc, g4, g5]))] sz)) 0 0 (va_A [(h0, .inr (1, [g0, .int fu, .int co, .int oc, g4, g5]))] sz) := by
  refine Met.ofW (cc := b_Ledger_charge) (maxL := 2) (ret := none) (by decide) rfl ?_
  intro p e s m args below meth c s₁ B hml hv
  obtain ⟨rfl, hsz, hP, ⟨hK, hN⟩, hD0⟩ := hv
  have hx := B.exec
  have hb := B.bytes
  have hr := B.returns
  have hts0 := atoms_spec (ws := zc y_Ledger_charge b_Ledger_charge 2 none) B.pre
  have hts : ∀ w ∈ zw, w.before _ s = true := fun w hw => hts0 w (List.mem_cons_of_mem _ hw)
  have hown : s.vm.findClass "ProofDesk$Ledger" = some m.cls := findClass_of_methodNamed B.named
  have hlocks := B.notSynchronized
  subst hsz
  have hD := hD0.self (sz := s.heap.size)
  generalize hAe : va_A [(h0, .inr (1, [g0, .int fu, .int co, .int oc, g4, g5]))] s.heap.size = A at hD ⊢
  have hA : ∀ q : Nat, s.heap.size ≤ q → A q := fun q h => by rw [← hAe]; exact Or.inr h
  have hS : va_S A s.heap s.heap [] := va_S.rf
  have hP : va_P D zcl [(h0, .inr (1, [g0, .int fu, .int co, .int oc, g4, g5]))] s.heap := hP
  have hl := lv_entry ([.ref h0, .int uu]) (n := 2) (Nat.le_of_ble_eq_true rfl)
  rw [lg_entry_eq]
  generalize (lg_sl ([.ref h0, .int uu]) ++ List.replicate (2 - (lg_sl ([.ref h0, .int uu])).length) Slot.unset).toArray = ls at hl ⊢
  have hl : lv_has ls 2 [(0, .ref h0), (1, .int uu)] := hl
  refine lv_aload_n hx hb d_Ledger_charge_0 rfl (lv_at hl 0 rfl) ?_
  refine lv_dup hx hb d_Ledger_charge_1 rfl ?_
  refine va_get (D := D) (ci := 1) (v := .int co) (C := "ProofDesk$Ledger") (T := F_Ledger) (N := 6) hx hb hts in_Ledger hown hK hP 0 rfl rfl 2 (by decide) (hts _ kw_69) (fun _ h9 => h9) rfl d_Ledger_charge_2 ?_
  refine lv_iload_n hx hb d_Ledger_charge_5 rfl (lv_at hl 1 rfl) ?_
  refine lv_iadd hx hb d_Ledger_charge_6 ?_
  refine va_put (D := D) (ci := 1) (v := .int (co + uu)) (ty := .int) (C := "ProofDesk$Ledger") (T := F_Ledger) (N := 6) hx hb hts in_Ledger t_Ledger t_Ledger_ok n_Ledger hown hK hP hD hS 0 rfl rfl 2 (by decide) (hts _ kw_69) (fun _ h9 => h9) rfl (by decide +kernel) rfl rfl (Nat.le_of_ble_eq_true rfl) d_Ledger_charge_7 (fun H locs hP hD hS => ?_)
  have hP : va_P D zcl [(h0, .inr (1, [g0, .int fu, .int (co + uu), .int oc, g4, g5]))] H := hP
  have hD : va_D A [(h0, .inr (1, [g0, .int fu, .int (co + uu), .int oc, g4, g5]))] := hD
  refine lv_aload_n hx hb d_Ledger_charge_10 rfl (lv_at hl 0 rfl) ?_
  refine va_get (D := D) (ci := 1) (v := .int (co + uu)) (C := "ProofDesk$Ledger") (T := F_Ledger) (N := 6) hx hb hts in_Ledger hown hK hP 0 rfl rfl 2 (by decide) (hts _ kw_69) (fun _ h9 => h9) rfl d_Ledger_charge_11 ?_
  refine lv_aload_n hx hb d_Ledger_charge_14 rfl (lv_at hl 0 rfl) ?_
  refine va_get (D := D) (ci := 1) (v := .int fu) (C := "ProofDesk$Ledger") (T := F_Ledger) (N := 6) hx hb hts in_Ledger hown hK hP 0 rfl rfl 1 (by decide) (hts _ kw_67) (fun _ h9 => h9) rfl d_Ledger_charge_15 ?_
  have hc_1 : ¬ ((co + uu) : Int32) ≤ fu := hc
  refine lv_icmp_le hx hb d_Ledger_charge_18 rfl (fun h => absurd h hc_1) (fun _ => ?_)
  refine lv_aload_n hx hb d_Ledger_charge_21 rfl (lv_at hl 0 rfl) ?_
  refine va_get (D := D) (ci := 1) (v := .int oc) (C := "ProofDesk$Ledger") (T := F_Ledger) (N := 6) hx hb hts in_Ledger hown hK hP 0 rfl rfl 3 (by decide) (hts _ kw_70) (fun _ h9 => h9) rfl d_Ledger_charge_22 ?_
  have hc_2 : (oc : Int32) = 0 := ho
  refine lv_if_ne hx hb d_Ledger_charge_25 rfl (fun h => absurd hc_2 h) (fun _ => ?_)
  refine lv_aload_n hx hb d_Ledger_charge_28 rfl (lv_at hl 0 rfl) ?_
  refine lv_iconst (v := 2) hx hb d_Ledger_charge_29 (by decide) ?_
  refine va_put (D := D) (ci := 1) (v := .int 2) (ty := .int) (C := "ProofDesk$Ledger") (T := F_Ledger) (N := 6) hx hb hts in_Ledger t_Ledger t_Ledger_ok n_Ledger hown hK hP hD hS 0 rfl rfl 3 (by decide) (hts _ kw_70) (fun _ h9 => h9) rfl (by decide +kernel) rfl rfl (Nat.le_of_ble_eq_true rfl) d_Ledger_charge_30 (fun H locs hP hD hS => ?_)
  have hP : va_P D zcl [(h0, .inr (1, [g0, .int fu, .int (co + uu), .int 2, g4, g5]))] H := hP
  have hD : va_D A [(h0, .inr (1, [g0, .int fu, .int (co + uu), .int 2, g4, g5]))] := hD
  have hP9 := hP.sub (ws' := [(h0, .inr (1, [g0, .int fu, .int (co + uu), .int 2, g4, g5]))]) [0] rfl
  have hD9 := hD.sub (ws' := [(h0, .inr (1, [g0, .int fu, .int (co + uu), .int 2, g4, g5]))]) [0] (by decide +kernel) rfl
  refine W.widen (k := 0) (n := 0) (by omega) (by omega) ?_
  exact W.vret hx hb hr (fun t ht hW => ⟨⟨(), rfl, trivial, by rw [ht]; exact hP9, hD9⟩, hS.F ht⟩) hS.2.2 d_Ledger_charge_33
set_option maxHeartbeats 4000000 in
set_option maxRecDepth 100000 in
theorem g_Ledger_chargeN (l : Launch) (D : va_G) (cI cB cZ cS : ClassId) (sz : Nat) (h0 : Nat) (oc : Int32) (co : Int32) (fu : Int32) (g0 : Value) (g4 : Value) (g5 : Value) (uu : Int32) (hc : ¬ co + uu ≤ fu) (ho : ¬ oc = 0) : Met l y_Ledger_charge (zc y_Ledger_charge b_Ledger_charge 2 none) ({ frames := 0, cells := 0, slots := 0, locals := 0 }) (zPc D (zty cI cB cZ cS) [(h0, .inr (1, [g0, .int fu, .int co, .int oc, g4, g5]))] sz [.ref h0, .int uu]) (va_Qv (fun _ : Unit => True) (fun _ t => va_P D zcl [(h0, .inr (1, [g0, .int fu, .int (co + uu), .int oc, g4, g5]))] t.heap ∧ va_D (va_A [(h0, .inr (1, [g0, .int fu, .int co, .int oc, g4, g5]))] sz) [(h0, .inr (1, [g0, .int fu, .int (co + uu), .int oc, g4, g5]))]) (va_A [(h0, .inr (1, [g0, .int fu, .int co, .int oc, g4, g5]))] sz)) 0 0 (va_A [(h0, .inr (1, [g0, .int fu, .int co, .int oc, g4, g5]))] sz) := by
  refine Met.ofW (cc := b_Ledger_charge) (maxL := 2) (ret := none) (by decide) rfl ?_
  intro p e s m args below meth c s₁ B hml hv
  obtain ⟨rfl, hsz, hP, ⟨hK, hN⟩, hD0⟩ := hv
  have hx := B.exec
  have hb := B.bytes
  have hr := B.returns
  have hts0 := atoms_spec (ws := zc y_Ledger_charge b_Ledger_charge 2 none) B.pre
  have hts : ∀ w ∈ zw, w.before _ s = true := fun w hw => hts0 w (List.mem_cons_of_mem _ hw)
  have hown : s.vm.findClass "ProofDesk$Ledger" = some m.cls := findClass_of_methodNamed B.named
  have hlocks := B.notSynchronized
  subst hsz
  have hD := hD0.self (sz := s.heap.size)
  generalize hAe : va_A [(h0, .inr (1, [g0, .int fu, .int co, .int oc, g4, g5]))] s.heap.size = A at hD ⊢
  have hA : ∀ q : Nat, s.heap.size ≤ q → A q := fun q h => by rw [← hAe]; exact Or.inr h
  have hS : va_S A s.heap s.heap [] := va_S.rf
  have hP : va_P D zcl [(h0, .inr (1, [g0, .int fu, .int co, .int oc, g4, g5]))] s.heap := hP
  have hl := lv_entry ([.ref h0, .int uu]) (n := 2) (Nat.le_of_ble_eq_true rfl)
  rw [lg_entry_eq]
  generalize (lg_sl ([.ref h0, .int uu]) ++ List.replicate (2 - (lg_sl ([.ref h0, .int uu])).length) Slot.unset).toArray = ls at hl ⊢
  have hl : lv_has ls 2 [(0, .ref h0), (1, .int uu)] := hl
  refine lv_aload_n hx hb d_Ledger_charge_0 rfl (lv_at hl 0 rfl) ?_
  refine lv_dup hx hb d_Ledger_charge_1 rfl ?_
  refine va_get (D := D) (ci := 1) (v := .int co) (C := "ProofDesk$Ledger") (T := F_Ledger) (N := 6) hx hb hts in_Ledger hown hK hP 0 rfl rfl 2 (by decide) (hts _ kw_69) (fun _ h9 => h9) rfl d_Ledger_charge_2 ?_
  refine lv_iload_n hx hb d_Ledger_charge_5 rfl (lv_at hl 1 rfl) ?_
  refine lv_iadd hx hb d_Ledger_charge_6 ?_
  refine va_put (D := D) (ci := 1) (v := .int (co + uu)) (ty := .int) (C := "ProofDesk$Ledger") (T := F_Ledger) (N := 6) hx hb hts in_Ledger t_Ledger t_Ledger_ok n_Ledger hown hK hP hD hS 0 rfl rfl 2 (by decide) (hts _ kw_69) (fun _ h9 => h9) rfl (by decide +kernel) rfl rfl (Nat.le_of_ble_eq_true rfl) d_Ledger_charge_7 (fun H locs hP hD hS => ?_)
  have hP : va_P D zcl [(h0, .inr (1, [g0, .int fu, .int (co + uu), .int oc, g4, g5]))] H := hP
  have hD : va_D A [(h0, .inr (1, [g0, .int fu, .int (co + uu), .int oc, g4, g5]))] := hD
  refine lv_aload_n hx hb d_Ledger_charge_10 rfl (lv_at hl 0 rfl) ?_
  refine va_get (D := D) (ci := 1) (v := .int (co + uu)) (C := "ProofDesk$Ledger") (T := F_Ledger) (N := 6) hx hb hts in_Ledger hown hK hP 0 rfl rfl 2 (by decide) (hts _ kw_69) (fun _ h9 => h9) rfl d_Ledger_charge_11 ?_
  refine lv_aload_n hx hb d_Ledger_charge_14 rfl (lv_at hl 0 rfl) ?_
  refine va_get (D := D) (ci := 1) (v := .int fu) (C := "ProofDesk$Ledger") (T := F_Ledger) (N := 6) hx hb hts in_Ledger hown hK hP 0 rfl rfl 1 (by decide) (hts _ kw_67) (fun _ h9 => h9) rfl d_Ledger_charge_15 ?_
  have hc_1 : ¬ ((co + uu) : Int32) ≤ fu := hc
  refine lv_icmp_le hx hb d_Ledger_charge_18 rfl (fun h => absurd h hc_1) (fun _ => ?_)
  refine lv_aload_n hx hb d_Ledger_charge_21 rfl (lv_at hl 0 rfl) ?_
  refine va_get (D := D) (ci := 1) (v := .int oc) (C := "ProofDesk$Ledger") (T := F_Ledger) (N := 6) hx hb hts in_Ledger hown hK hP 0 rfl rfl 3 (by decide) (hts _ kw_70) (fun _ h9 => h9) rfl d_Ledger_charge_22 ?_
  have hc_2 : ¬ (oc : Int32) = 0 := ho
  refine lv_if_ne hx hb d_Ledger_charge_25 rfl (fun _ => ?_) (fun h => absurd h hc_2)
  have hP9 := hP.sub (ws' := [(h0, .inr (1, [g0, .int fu, .int (co + uu), .int oc, g4, g5]))]) [0] rfl
  have hD9 := hD.sub (ws' := [(h0, .inr (1, [g0, .int fu, .int (co + uu), .int oc, g4, g5]))]) [0] (by decide +kernel) rfl
  refine W.widen (k := 0) (n := 0) (by omega) (by omega) ?_
  exact W.vret hx hb hr (fun t ht hW => ⟨⟨(), rfl, trivial, by rw [ht]; exact hP9, hD9⟩, hS.F ht⟩) hS.2.2 d_Ledger_charge_33
