abbrev b_Terms_kind : ByteArray := prog_11_method_11_code
abbrev y_Terms_kind : MethodName := ⟨"ProofDesk$Terms", "kind", "(I)I"⟩
theorem d_Terms_kind_0 : decode b_Terms_kind 0 = .ok (.aload_n 0, 1) := by decide +kernel
theorem d_Terms_kind_1 : decode b_Terms_kind 1 = .ok (.getfield 11, 3) := by decide +kernel
theorem d_Terms_kind_4 : decode b_Terms_kind 4 = .ok (.iload_n 1, 1) := by decide +kernel
theorem d_Terms_kind_5 : decode b_Terms_kind 5 = .ok (.iconst 0, 1) := by decide +kernel
theorem d_Terms_kind_6 : decode b_Terms_kind 6 = .ok (.iadd, 1) := by decide +kernel
theorem d_Terms_kind_7 : decode b_Terms_kind 7 = .ok (.iaload, 1) := by decide +kernel
theorem d_Terms_kind_8 : decode b_Terms_kind 8 = .ok (.ireturn, 1) := by decide +kernel
set_option maxHeartbeats 4000000 in
set_option maxRecDepth 100000 in
theorem g_Terms_kind (l : Launch) (D : va_G) (cI cB cZ cS : ClassId) (sz : Nat) (h0 : Nat) (q : Nat) (n : Nat) (f : Nat → Int32) (g1 : Value) (g2 : Value) (g3 : Value) (g4 : Value) (g5 : Value) (g6 : Value) (g7 : Value) (g8 : Value) (x : Nat) (hx9 : x + 0 < n) (hN : n ≤ 33554432) : Met l y_Terms_kind (zc y_Terms_kind b_Terms_kind 2 (some .int)) ({ frames := 0, cells := 0, slots := 0, locals := 0 }) (zPc D (zty cI cB cZ cS) [(h0, .inr (4, [.ref q, g1, g2, g3, g4, g5, g6, g7, g8])), (q, .inl (cI, n, .inl f))] sz [.ref h0, .int (nI x)]) (va_Qi (fun (r : Int32) (_ : Unit) => r = (f (x + 0))) (fun _ t => va_P D zcl [(h0, .inr (4, [.ref q, g1, g2, g3, g4, g5, g6, g7, g8])), (q, .inl (cI, n, .inl f))] t.heap ∧ va_D (va_A [(h0, .inr (4, [.ref q, g1, g2, g3, g4, g5, g6, g7, g8])), (q, .inl (cI, n, .inl f))] sz) [(h0, .inr (4, [.ref q, g1, g2, g3, g4, g5, g6, g7, g8])), (q, .inl (cI, n, .inl f))]) (va_A [(h0, .inr (4, [.ref q, g1, g2, g3, g4, g5, g6, g7, g8])), (q, .inl (cI, n, .inl f))] sz)) 0 0 (va_A [(h0, .inr (4, [.ref q, g1, g2, g3, g4, g5, g6, g7, g8])), (q, .inl (cI, n, .inl f))] sz) := by
  refine Met.ofW (cc := b_Terms_kind) (maxL := 2) (ret := (some .int)) (by decide) rfl ?_
  intro p e s m args below meth c s₁ B hml hv
  obtain ⟨rfl, hsz, hP, ⟨hK, hN⟩, hD0⟩ := hv
  have hx := B.exec
  have hb := B.bytes
  have hr := B.returns
  have hts0 := atoms_spec (ws := zc y_Terms_kind b_Terms_kind 2 (some .int)) B.pre
  have hts : ∀ w ∈ zw, w.before _ s = true := fun w hw => hts0 w (List.mem_cons_of_mem _ hw)
  have hown : s.vm.findClass "ProofDesk$Terms" = some m.cls := findClass_of_methodNamed B.named
  have hlocks := B.notSynchronized
  subst hsz
  have hD := hD0.self (sz := s.heap.size)
  generalize hAe : va_A [(h0, .inr (4, [.ref q, g1, g2, g3, g4, g5, g6, g7, g8])), (q, .inl (cI, n, .inl f))] s.heap.size = A at hD ⊢
  have hA : ∀ q : Nat, s.heap.size ≤ q → A q := fun q h => by rw [← hAe]; exact Or.inr h
  have hS : va_S A s.heap s.heap [] := va_S.rf
  have hP : va_P D zcl [(h0, .inr (4, [.ref q, g1, g2, g3, g4, g5, g6, g7, g8])), (q, .inl (cI, n, .inl f))] s.heap := hP
  have hl := lv_entry ([.ref h0, .int (nI x)]) (n := 2) (Nat.le_of_ble_eq_true rfl)
  rw [lg_entry_eq]
  generalize (lg_sl ([.ref h0, .int (nI x)]) ++ List.replicate (2 - (lg_sl ([.ref h0, .int (nI x)])).length) Slot.unset).toArray = ls at hl ⊢
  have hl : lv_has ls 2 [(0, .ref h0), (1, .int (nI x))] := hl
  refine lv_aload_n hx hb d_Terms_kind_0 rfl (lv_at hl 0 rfl) ?_
  refine va_get (D := D) (ci := 4) (v := .ref q) (C := "ProofDesk$Terms") (T := F_Terms) (N := 9) hx hb hts in_Terms hown hK hP 0 rfl rfl 0 (by decide) (hts _ kw_174) (fun _ h9 => h9) rfl d_Terms_kind_1 ?_
  refine lv_iload_n hx hb d_Terms_kind_4 rfl (lv_at hl 1 rfl) ?_
  refine lv_iconst (v := 0) hx hb d_Terms_kind_5 (by decide) ?_
  refine lv_iadd hx hb d_Terms_kind_6 ?_
  refine zz_i (y := nI (x + 0)) (nI_add x 0) ?_
  refine zz_iald (v := (f (x + 0))) hx hb hK hP 1 0 rfl rfl (i := (nI (x + 0))) (x + 0) (zix_nI (by omega) (by omega)) (rfl) d_Terms_kind_7 ?_
  have hP9 := hP.sub (ws' := [(h0, .inr (4, [.ref q, g1, g2, g3, g4, g5, g6, g7, g8])), (q, .inl (cI, n, .inl f))]) [0, 1] rfl
  have hD9 := hD.sub (ws' := [(h0, .inr (4, [.ref q, g1, g2, g3, g4, g5, g6, g7, g8])), (q, .inl (cI, n, .inl f))]) [0, 1] (by decide +kernel) rfl
  refine W.widen (k := 0) (n := 0) (by omega) (by omega) ?_
  exact W.iret (v := (f (x + 0))) hx hb hr (fun t ht hW => ⟨⟨(f (x + 0)), (), rfl, rfl, by rw [ht]; exact hP9, hD9⟩, hS.F ht⟩) hS.2.2 d_Terms_kind_8
abbrev b_Terms_ref : ByteArray := prog_11_method_12_code
abbrev y_Terms_ref : MethodName := ⟨"ProofDesk$Terms", "ref", "(I)I"⟩
theorem d_Terms_ref_0 : decode b_Terms_ref 0 = .ok (.aload_n 0, 1) := by decide +kernel
theorem d_Terms_ref_1 : decode b_Terms_ref 1 = .ok (.getfield 11, 3) := by decide +kernel
theorem d_Terms_ref_4 : decode b_Terms_ref 4 = .ok (.iload_n 1, 1) := by decide +kernel
theorem d_Terms_ref_5 : decode b_Terms_ref 5 = .ok (.iconst 1, 1) := by decide +kernel
theorem d_Terms_ref_6 : decode b_Terms_ref 6 = .ok (.iadd, 1) := by decide +kernel
theorem d_Terms_ref_7 : decode b_Terms_ref 7 = .ok (.iaload, 1) := by decide +kernel
theorem d_Terms_ref_8 : decode b_Terms_ref 8 = .ok (.ireturn, 1) := by decide +kernel
set_option maxHeartbeats 4000000 in
set_option maxRecDepth 100000 in
theorem g_Terms_ref (l : Launch) (D : va_G) (cI cB cZ cS : ClassId) (sz : Nat) (h0 : Nat) (q : Nat) (n : Nat) (f : Nat → Int32) (g1 : Value) (g2 : Value) (g3 : Value) (g4 : Value) (g5 : Value) (g6 : Value) (g7 : Value) (g8 : Value) (x : Nat) (hx9 : x + 1 < n) (hN : n ≤ 33554432) : Met l y_Terms_ref (zc y_Terms_ref b_Terms_ref 2 (some .int)) ({ frames := 0, cells := 0, slots := 0, locals := 0 }) (zPc D (zty cI cB cZ cS) [(h0, .inr (4, [.ref q, g1, g2, g3, g4, g5, g6, g7, g8])), (q, .inl (cI, n, .inl f))] sz [.ref h0, .int (nI x)]) (va_Qi (fun (r : Int32) (_ : Unit) => r = (f (x + 1))) (fun _ t => va_P D zcl [(h0, .inr (4, [.ref q, g1, g2, g3, g4, g5, g6, g7, g8])), (q, .inl (cI, n, .inl f))] t.heap ∧ va_D (va_A [(h0, .inr (4, [.ref q, g1, g2, g3, g4, g5, g6, g7, g8])), (q, .inl (cI, n, .inl f))] sz) [(h0, .inr (4, [.ref q, g1, g2, g3, g4, g5, g6, g7, g8])), (q, .inl (cI, n, .inl f))]) (va_A [(h0, .inr (4, [.ref q, g1, g2, g3, g4, g5, g6, g7, g8])), (q, .inl (cI, n, .inl f))] sz)) 0 0 (va_A [(h0, .inr (4, [.ref q, g1, g2, g3, g4, g5, g6, g7, g8])), (q, .inl (cI, n, .inl f))] sz) := by
  refine Met.ofW (cc := b_Terms_ref) (maxL := 2) (ret := (some .int)) (by decide) rfl ?_
  intro p e s m args below meth c s₁ B hml hv
  obtain ⟨rfl, hsz, hP, ⟨hK, hN⟩, hD0⟩ := hv
  have hx := B.exec
  have hb := B.bytes
  have hr := B.returns
  have hts0 := atoms_spec (ws := zc y_Terms_ref b_Terms_ref 2 (some .int)) B.pre
  have hts : ∀ w ∈ zw, w.before _ s = true := fun w hw => hts0 w (List.mem_cons_of_mem _ hw)
  have hown : s.vm.findClass "ProofDesk$Terms" = some m.cls := findClass_of_methodNamed B.named
  have hlocks := B.notSynchronized
  subst hsz
  have hD := hD0.self (sz := s.heap.size)
  generalize hAe : va_A [(h0, .inr (4, [.ref q, g1, g2, g3, g4, g5, g6, g7, g8])), (q, .inl (cI, n, .inl f))] s.heap.size = A at hD ⊢
  have hA : ∀ q : Nat, s.heap.size ≤ q → A q := fun q h => by rw [← hAe]; exact Or.inr h
  have hS : va_S A s.heap s.heap [] := va_S.rf
  have hP : va_P D zcl [(h0, .inr (4, [.ref q, g1, g2, g3, g4, g5, g6, g7, g8])), (q, .inl (cI, n, .inl f))] s.heap := hP
  have hl := lv_entry ([.ref h0, .int (nI x)]) (n := 2) (Nat.le_of_ble_eq_true rfl)
  rw [lg_entry_eq]
  generalize (lg_sl ([.ref h0, .int (nI x)]) ++ List.replicate (2 - (lg_sl ([.ref h0, .int (nI x)])).length) Slot.unset).toArray = ls at hl ⊢
  have hl : lv_has ls 2 [(0, .ref h0), (1, .int (nI x))] := hl
  refine lv_aload_n hx hb d_Terms_ref_0 rfl (lv_at hl 0 rfl) ?_
  refine va_get (D := D) (ci := 4) (v := .ref q) (C := "ProofDesk$Terms") (T := F_Terms) (N := 9) hx hb hts in_Terms hown hK hP 0 rfl rfl 0 (by decide) (hts _ kw_174) (fun _ h9 => h9) rfl d_Terms_ref_1 ?_
  refine lv_iload_n hx hb d_Terms_ref_4 rfl (lv_at hl 1 rfl) ?_
  refine lv_iconst (v := 1) hx hb d_Terms_ref_5 (by decide) ?_
  refine lv_iadd hx hb d_Terms_ref_6 ?_
  refine zz_i (y := nI (x + 1)) (nI_add x 1) ?_
  refine zz_iald (v := (f (x + 1))) hx hb hK hP 1 0 rfl rfl (i := (nI (x + 1))) (x + 1) (zix_nI (by omega) (by omega)) (rfl) d_Terms_ref_7 ?_
  have hP9 := hP.sub (ws' := [(h0, .inr (4, [.ref q, g1, g2, g3, g4, g5, g6, g7, g8])), (q, .inl (cI, n, .inl f))]) [0, 1] rfl
  have hD9 := hD.sub (ws' := [(h0, .inr (4, [.ref q, g1, g2, g3, g4, g5, g6, g7, g8])), (q, .inl (cI, n, .inl f))]) [0, 1] (by decide +kernel) rfl
  refine W.widen (k := 0) (n := 0) (by omega) (by omega) ?_
  exact W.iret (v := (f (x + 1))) hx hb hr (fun t ht hW => ⟨⟨(f (x + 1)), (), rfl, rfl, by rw [ht]; exact hP9, hD9⟩, hS.F ht⟩) hS.2.2 d_Terms_ref_8
abbrev b_Terms_first : ByteArray := prog_11_method_13_code
abbrev y_Terms_first : MethodName := ⟨"ProofDesk$Terms", "first", "(I)I"⟩
theorem d_Terms_first_0 : decode b_Terms_first 0 = .ok (.aload_n 0, 1) := by decide +kernel
theorem d_Terms_first_1 : decode b_Terms_first 1 = .ok (.getfield 11, 3) := by decide +kernel
theorem d_Terms_first_4 : decode b_Terms_first 4 = .ok (.iload_n 1, 1) := by decide +kernel
theorem d_Terms_first_5 : decode b_Terms_first 5 = .ok (.iconst 2, 1) := by decide +kernel
theorem d_Terms_first_6 : decode b_Terms_first 6 = .ok (.iadd, 1) := by decide +kernel
theorem d_Terms_first_7 : decode b_Terms_first 7 = .ok (.iaload, 1) := by decide +kernel
theorem d_Terms_first_8 : decode b_Terms_first 8 = .ok (.ireturn, 1) := by decide +kernel
set_option maxHeartbeats 4000000 in
set_option maxRecDepth 100000 in
theorem g_Terms_first (l : Launch) (D : va_G) (cI cB cZ cS : ClassId) (sz : Nat) (h0 : Nat) (q : Nat) (n : Nat) (f : Nat → Int32) (g1 : Value) (g2 : Value) (g3 : Value) (g4 : Value) (g5 : Value) (g6 : Value) (g7 : Value) (g8 : Value) (x : Nat) (hx9 : x + 2 < n) (hN : n ≤ 33554432) : Met l y_Terms_first (zc y_Terms_first b_Terms_first 2 (some .int)) ({ frames := 0, cells := 0, slots := 0, locals := 0 }) (zPc D (zty cI cB cZ cS) [(h0, .inr (4, [.ref q, g1, g2, g3, g4, g5, g6, g7, g8])), (q, .inl (cI, n, .inl f))] sz [.ref h0, .int (nI x)]) (va_Qi (fun (r : Int32) (_ : Unit) => r = (f (x + 2))) (fun _ t => va_P D zcl [(h0, .inr (4, [.ref q, g1, g2, g3, g4, g5, g6, g7, g8])), (q, .inl (cI, n, .inl f))] t.heap ∧ va_D (va_A [(h0, .inr (4, [.ref q, g1, g2, g3, g4, g5, g6, g7, g8])), (q, .inl (cI, n, .inl f))] sz) [(h0, .inr (4, [.ref q, g1, g2, g3, g4, g5, g6, g7, g8])), (q, .inl (cI, n, .inl f))]) (va_A [(h0, .inr (4, [.ref q, g1, g2, g3, g4, g5, g6, g7, g8])), (q, .inl (cI, n, .inl f))] sz)) 0 0 (va_A [(h0, .inr (4, [.ref q, g1, g2, g3, g4, g5, g6, g7, g8])), (q, .inl (cI, n, .inl f))] sz) := by
  refine Met.ofW (cc := b_Terms_first) (maxL := 2) (ret := (some .int)) (by decide) rfl ?_
  intro p e s m args below meth c s₁ B hml hv
  obtain ⟨rfl, hsz, hP, ⟨hK, hN⟩, hD0⟩ := hv
  have hx := B.exec
  have hb := B.bytes
  have hr := B.returns
  have hts0 := atoms_spec (ws := zc y_Terms_first b_Terms_first 2 (some .int)) B.pre
  have hts : ∀ w ∈ zw, w.before _ s = true := fun w hw => hts0 w (List.mem_cons_of_mem _ hw)
  have hown : s.vm.findClass "ProofDesk$Terms" = some m.cls := findClass_of_methodNamed B.named
  have hlocks := B.notSynchronized
  subst hsz
  have hD := hD0.self (sz := s.heap.size)
  generalize hAe : va_A [(h0, .inr (4, [.ref q, g1, g2, g3, g4, g5, g6, g7, g8])), (q, .inl (cI, n, .inl f))] s.heap.size = A at hD ⊢
  have hA : ∀ q : Nat, s.heap.size ≤ q → A q := fun q h => by rw [← hAe]; exact Or.inr h
  have hS : va_S A s.heap s.heap [] := va_S.rf
  have hP : va_P D zcl [(h0, .inr (4, [.ref q, g1, g2, g3, g4, g5, g6, g7, g8])), (q, .inl (cI, n, .inl f))] s.heap := hP
  have hl := lv_entry ([.ref h0, .int (nI x)]) (n := 2) (Nat.le_of_ble_eq_true rfl)
  rw [lg_entry_eq]
  generalize (lg_sl ([.ref h0, .int (nI x)]) ++ List.replicate (2 - (lg_sl ([.ref h0, .int (nI x)])).length) Slot.unset).toArray = ls at hl ⊢
  have hl : lv_has ls 2 [(0, .ref h0), (1, .int (nI x))] := hl
  refine lv_aload_n hx hb d_Terms_first_0 rfl (lv_at hl 0 rfl) ?_
  refine va_get (D := D) (ci := 4) (v := .ref q) (C := "ProofDesk$Terms") (T := F_Terms) (N := 9) hx hb hts in_Terms hown hK hP 0 rfl rfl 0 (by decide) (hts _ kw_174) (fun _ h9 => h9) rfl d_Terms_first_1 ?_
  refine lv_iload_n hx hb d_Terms_first_4 rfl (lv_at hl 1 rfl) ?_
  refine lv_iconst (v := 2) hx hb d_Terms_first_5 (by decide) ?_
  refine lv_iadd hx hb d_Terms_first_6 ?_
  refine zz_i (y := nI (x + 2)) (nI_add x 2) ?_
  refine zz_iald (v := (f (x + 2))) hx hb hK hP 1 0 rfl rfl (i := (nI (x + 2))) (x + 2) (zix_nI (by omega) (by omega)) (rfl) d_Terms_first_7 ?_
  have hP9 := hP.sub (ws' := [(h0, .inr (4, [.ref q, g1, g2, g3, g4, g5, g6, g7, g8])), (q, .inl (cI, n, .inl f))]) [0, 1] rfl
  have hD9 := hD.sub (ws' := [(h0, .inr (4, [.ref q, g1, g2, g3, g4, g5, g6, g7, g8])), (q, .inl (cI, n, .inl f))]) [0, 1] (by decide +kernel) rfl
  refine W.widen (k := 0) (n := 0) (by omega) (by omega) ?_
  exact W.iret (v := (f (x + 2))) hx hb hr (fun t ht hW => ⟨⟨(f (x + 2)), (), rfl, rfl, by rw [ht]; exact hP9, hD9⟩, hS.F ht⟩) hS.2.2 d_Terms_first_8
abbrev b_Terms_second : ByteArray := prog_11_method_14_code
abbrev y_Terms_second : MethodName := ⟨"ProofDesk$Terms", "second", "(I)I"⟩
theorem d_Terms_second_0 : decode b_Terms_second 0 = .ok (.aload_n 0, 1) := by decide +kernel
theorem d_Terms_second_1 : decode b_Terms_second 1 = .ok (.getfield 11, 3) := by decide +kernel
theorem d_Terms_second_4 : decode b_Terms_second 4 = .ok (.iload_n 1, 1) := by decide +kernel
theorem d_Terms_second_5 : decode b_Terms_second 5 = .ok (.iconst 3, 1) := by decide +kernel
theorem d_Terms_second_6 : decode b_Terms_second 6 = .ok (.iadd, 1) := by decide +kernel
theorem d_Terms_second_7 : decode b_Terms_second 7 = .ok (.iaload, 1) := by decide +kernel
theorem d_Terms_second_8 : decode b_Terms_second 8 = .ok (.ireturn, 1) := by decide +kernel
set_option maxHeartbeats 4000000 in
set_option maxRecDepth 100000 in
theorem g_Terms_second (l : Launch) (D : va_G) (cI cB cZ cS : ClassId) (sz : Nat) (h0 : Nat) (q : Nat) (n : Nat) (f : Nat → Int32) (g1 : Value) (g2 : Value) (g3 : Value) (g4 : Value) (g5 : Value) (g6 : Value) (g7 : Value) (g8 : Value) (x : Nat) (hx9 : x + 3 < n) (hN : n ≤ 33554432) : Met l y_Terms_second (zc y_Terms_second b_Terms_second 2 (some .int)) ({ frames := 0, cells := 0, slots := 0, locals := 0 }) (zPc D (zty cI cB cZ cS) [(h0, .inr (4, [.ref q, g1, g2, g3, g4, g5, g6, g7, g8])), (q, .inl (cI, n, .inl f))] sz [.ref h0, .int (nI x)]) (va_Qi (fun (r : Int32) (_ : Unit) => r = (f (x + 3))) (fun _ t => va_P D zcl [(h0, .inr (4, [.ref q, g1, g2, g3, g4, g5, g6, g7, g8])), (q, .inl (cI, n, .inl f))] t.heap ∧ va_D (va_A [(h0, .inr (4, [.ref q, g1, g2, g3, g4, g5, g6, g7, g8])), (q, .inl (cI, n, .inl f))] sz) [(h0, .inr (4, [.ref q, g1, g2, g3, g4, g5, g6, g7, g8])), (q, .inl (cI, n, .inl f))]) (va_A [(h0, .inr (4, [.ref q, g1, g2, g3, g4, g5, g6, g7, g8])), (q, .inl (cI, n, .inl f))] sz)) 0 0 (va_A [(h0, .inr (4, [.ref q, g1, g2, g3, g4, g5, g6, g7, g8])), (q, .inl (cI, n, .inl f))] sz) := by
  refine Met.ofW (cc := b_Terms_second) (maxL := 2) (ret := (some .int)) (by decide) rfl ?_
  intro p e s m args below meth c s₁ B hml hv
  obtain ⟨rfl, hsz, hP, ⟨hK, hN⟩, hD0⟩ := hv
  have hx := B.exec
  have hb := B.bytes
  have hr := B.returns
  have hts0 := atoms_spec (ws := zc y_Terms_second b_Terms_second 2 (some .int)) B.pre
  have hts : ∀ w ∈ zw, w.before _ s = true := fun w hw => hts0 w (List.mem_cons_of_mem _ hw)
  have hown : s.vm.findClass "ProofDesk$Terms" = some m.cls := findClass_of_methodNamed B.named
  have hlocks := B.notSynchronized
  subst hsz
  have hD := hD0.self (sz := s.heap.size)
  generalize hAe : va_A [(h0, .inr (4, [.ref q, g1, g2, g3, g4, g5, g6, g7, g8])), (q, .inl (cI, n, .inl f))] s.heap.size = A at hD ⊢
  have hA : ∀ q : Nat, s.heap.size ≤ q → A q := fun q h => by rw [← hAe]; exact Or.inr h
  have hS : va_S A s.heap s.heap [] := va_S.rf
  have hP : va_P D zcl [(h0, .inr (4, [.ref q, g1, g2, g3, g4, g5, g6, g7, g8])), (q, .inl (cI, n, .inl f))] s.heap := hP
  have hl := lv_entry ([.ref h0, .int (nI x)]) (n := 2) (Nat.le_of_ble_eq_true rfl)
  rw [lg_entry_eq]
  generalize (lg_sl ([.ref h0, .int (nI x)]) ++ List.replicate (2 - (lg_sl ([.ref h0, .int (nI x)])).length) Slot.unset).toArray = ls at hl ⊢
  have hl : lv_has ls 2 [(0, .ref h0), (1, .int (nI x))] := hl
  refine lv_aload_n hx hb d_Terms_second_0 rfl (lv_at hl 0 rfl) ?_
  refine va_get (D := D) (ci := 4) (v := .ref q) (C := "ProofDesk$Terms") (T := F_Terms) (N := 9) hx hb hts in_Terms hown hK hP 0 rfl rfl 0 (by decide) (hts _ kw_174) (fun _ h9 => h9) rfl d_Terms_second_1 ?_
  refine lv_iload_n hx hb d_Terms_second_4 rfl (lv_at hl 1 rfl) ?_
  refine lv_iconst (v := 3) hx hb d_Terms_second_5 (by decide) ?_
  refine lv_iadd hx hb d_Terms_second_6 ?_
  refine zz_i (y := nI (x + 3)) (nI_add x 3) ?_
  refine zz_iald (v := (f (x + 3))) hx hb hK hP 1 0 rfl rfl (i := (nI (x + 3))) (x + 3) (zix_nI (by omega) (by omega)) (rfl) d_Terms_second_7 ?_
  have hP9 := hP.sub (ws' := [(h0, .inr (4, [.ref q, g1, g2, g3, g4, g5, g6, g7, g8])), (q, .inl (cI, n, .inl f))]) [0, 1] rfl
  have hD9 := hD.sub (ws' := [(h0, .inr (4, [.ref q, g1, g2, g3, g4, g5, g6, g7, g8])), (q, .inl (cI, n, .inl f))]) [0, 1] (by decide +kernel) rfl
  refine W.widen (k := 0) (n := 0) (by omega) (by omega) ?_
  exact W.iret (v := (f (x + 3))) hx hb hr (fun t ht hW => ⟨⟨(f (x + 3)), (), rfl, rfl, by rw [ht]; exact hP9, hD9⟩, hS.F ht⟩) hS.2.2 d_Terms_second_8
abbrev b_Terms_told : ByteArray := prog_11_method_15_code
abbrev y_Terms_told : MethodName := ⟨"ProofDesk$Terms", "told", "(I)I"⟩
theorem d_Terms_told_0 : decode b_Terms_told 0 = .ok (.aload_n 0, 1) := by decide +kernel
theorem d_Terms_told_1 : decode b_Terms_told 1 = .ok (.getfield 11, 3) := by decide +kernel
theorem d_Terms_told_4 : decode b_Terms_told 4 = .ok (.iload_n 1, 1) := by decide +kernel
theorem d_Terms_told_5 : decode b_Terms_told 5 = .ok (.iconst 4, 1) := by decide +kernel
theorem d_Terms_told_6 : decode b_Terms_told 6 = .ok (.iadd, 1) := by decide +kernel
theorem d_Terms_told_7 : decode b_Terms_told 7 = .ok (.iaload, 1) := by decide +kernel
theorem d_Terms_told_8 : decode b_Terms_told 8 = .ok (.ireturn, 1) := by decide +kernel
set_option maxHeartbeats 4000000 in
set_option maxRecDepth 100000 in
theorem g_Terms_told (l : Launch) (D : va_G) (cI cB cZ cS : ClassId) (sz : Nat) (h0 : Nat) (q : Nat) (n : Nat) (f : Nat → Int32) (g1 : Value) (g2 : Value) (g3 : Value) (g4 : Value) (g5 : Value) (g6 : Value) (g7 : Value) (g8 : Value) (x : Nat) (hx9 : x + 4 < n) (hN : n ≤ 33554432) : Met l y_Terms_told (zc y_Terms_told b_Terms_told 2 (some .int)) ({ frames := 0, cells := 0, slots := 0, locals := 0 }) (zPc D (zty cI cB cZ cS) [(h0, .inr (4, [.ref q, g1, g2, g3, g4, g5, g6, g7, g8])), (q, .inl (cI, n, .inl f))] sz [.ref h0, .int (nI x)]) (va_Qi (fun (r : Int32) (_ : Unit) => r = (f (x + 4))) (fun _ t => va_P D zcl [(h0, .inr (4, [.ref q, g1, g2, g3, g4, g5, g6, g7, g8])), (q, .inl (cI, n, .inl f))] t.heap ∧ va_D (va_A [(h0, .inr (4, [.ref q, g1, g2, g3, g4, g5, g6, g7, g8])), (q, .inl (cI, n, .inl f))] sz) [(h0, .inr (4, [.ref q, g1, g2, g3, g4, g5, g6, g7, g8])), (q, .inl (cI, n, .inl f))]) (va_A [(h0, .inr (4, [.ref q, g1, g2, g3, g4, g5, g6, g7, g8])), (q, .inl (cI, n, .inl f))] sz)) 0 0 (va_A [(h0, .inr (4, [.ref q, g1, g2, g3, g4, g5, g6, g7, g8])), (q, .inl (cI, n, .inl f))] sz) := by
  refine Met.ofW (cc := b_Terms_told) (maxL := 2) (ret := (some .int)) (by decide) rfl ?_
  intro p e s m args below meth c s₁ B hml hv
  obtain ⟨rfl, hsz, hP, ⟨hK, hN⟩, hD0⟩ := hv
  have hx := B.exec
  have hb := B.bytes
  have hr := B.returns
  have hts0 := atoms_spec (ws := zc y_Terms_told b_Terms_told 2 (some .int)) B.pre
  have hts : ∀ w ∈ zw, w.before _ s = true := fun w hw => hts0 w (List.mem_cons_of_mem _ hw)
  have hown : s.vm.findClass "ProofDesk$Terms" = some m.cls := findClass_of_methodNamed B.named
  have hlocks := B.notSynchronized
  subst hsz
  have hD := hD0.self (sz := s.heap.size)
  generalize hAe : va_A [(h0, .inr (4, [.ref q, g1, g2, g3, g4, g5, g6, g7, g8])), (q, .inl (cI, n, .inl f))] s.heap.size = A at hD ⊢
  have hA : ∀ q : Nat, s.heap.size ≤ q → A q := fun q h => by rw [← hAe]; exact Or.inr h
  have hS : va_S A s.heap s.heap [] := va_S.rf
  have hP : va_P D zcl [(h0, .inr (4, [.ref q, g1, g2, g3, g4, g5, g6, g7, g8])), (q, .inl (cI, n, .inl f))] s.heap := hP
  have hl := lv_entry ([.ref h0, .int (nI x)]) (n := 2) (Nat.le_of_ble_eq_true rfl)
  rw [lg_entry_eq]
  generalize (lg_sl ([.ref h0, .int (nI x)]) ++ List.replicate (2 - (lg_sl ([.ref h0, .int (nI x)])).length) Slot.unset).toArray = ls at hl ⊢
  have hl : lv_has ls 2 [(0, .ref h0), (1, .int (nI x))] := hl
  refine lv_aload_n hx hb d_Terms_told_0 rfl (lv_at hl 0 rfl) ?_
  refine va_get (D := D) (ci := 4) (v := .ref q) (C := "ProofDesk$Terms") (T := F_Terms) (N := 9) hx hb hts in_Terms hown hK hP 0 rfl rfl 0 (by decide) (hts _ kw_174) (fun _ h9 => h9) rfl d_Terms_told_1 ?_
  refine lv_iload_n hx hb d_Terms_told_4 rfl (lv_at hl 1 rfl) ?_
  refine lv_iconst (v := 4) hx hb d_Terms_told_5 (by decide) ?_
  refine lv_iadd hx hb d_Terms_told_6 ?_
  refine zz_i (y := nI (x + 4)) (nI_add x 4) ?_
  refine zz_iald (v := (f (x + 4))) hx hb hK hP 1 0 rfl rfl (i := (nI (x + 4))) (x + 4) (zix_nI (by omega) (by omega)) (rfl) d_Terms_told_7 ?_
  have hP9 := hP.sub (ws' := [(h0, .inr (4, [.ref q, g1, g2, g3, g4, g5, g6, g7, g8])), (q, .inl (cI, n, .inl f))]) [0, 1] rfl
  have hD9 := hD.sub (ws' := [(h0, .inr (4, [.ref q, g1, g2, g3, g4, g5, g6, g7, g8])), (q, .inl (cI, n, .inl f))]) [0, 1] (by decide +kernel) rfl
  refine W.widen (k := 0) (n := 0) (by omega) (by omega) ?_
  exact W.iret (v := (f (x + 4))) hx hb hr (fun t ht hW => ⟨⟨(f (x + 4)), (), rfl, rfl, by rw [ht]; exact hP9, hD9⟩, hS.F ht⟩) hS.2.2 d_Terms_told_8
abbrev b_Terms_size : ByteArray := prog_11_method_16_code
abbrev y_Terms_size : MethodName := ⟨"ProofDesk$Terms", "size", "(I)I"⟩
theorem d_Terms_size_0 : decode b_Terms_size 0 = .ok (.aload_n 0, 1) := by decide +kernel
theorem d_Terms_size_1 : decode b_Terms_size 1 = .ok (.getfield 11, 3) := by decide +kernel
theorem d_Terms_size_4 : decode b_Terms_size 4 = .ok (.iload_n 1, 1) := by decide +kernel
theorem d_Terms_size_5 : decode b_Terms_size 5 = .ok (.iconst 5, 1) := by decide +kernel
theorem d_Terms_size_6 : decode b_Terms_size 6 = .ok (.iadd, 1) := by decide +kernel
theorem d_Terms_size_7 : decode b_Terms_size 7 = .ok (.iaload, 1) := by decide +kernel
theorem d_Terms_size_8 : decode b_Terms_size 8 = .ok (.ireturn, 1) := by decide +kernel
set_option maxHeartbeats 4000000 in
set_option maxRecDepth 100000 in
theorem g_Terms_size (l : Launch) (D : va_G) (cI cB cZ cS : ClassId) (sz : Nat) (h0 : Nat) (q : Nat) (n : Nat) (f : Nat → Int32) (g1 : Value) (g2 : Value) (g3 : Value) (g4 : Value) (g5 : Value) (g6 : Value) (g7 : Value) (g8 : Value) (x : Nat) (hx9 : x + 5 < n) (hN : n ≤ 33554432) : Met l y_Terms_size (zc y_Terms_size b_Terms_size 2 (some .int)) ({ frames := 0, cells := 0, slots := 0, locals := 0 }) (zPc D (zty cI cB cZ cS) [(h0, .inr (4, [.ref q, g1, g2, g3, g4, g5, g6, g7, g8])), (q, .inl (cI, n, .inl f))] sz [.ref h0, .int (nI x)]) (va_Qi (fun (r : Int32) (_ : Unit) => r = (f (x + 5))) (fun _ t => va_P D zcl [(h0, .inr (4, [.ref q, g1, g2, g3, g4, g5, g6, g7, g8])), (q, .inl (cI, n, .inl f))] t.heap ∧ va_D (va_A [(h0, .inr (4, [.ref q, g1, g2, g3, g4, g5, g6, g7, g8])), (q, .inl (cI, n, .inl f))] sz) [(h0, .inr (4, [.ref q, g1, g2, g3, g4, g5, g6, g7, g8])), (q, .inl (cI, n, .inl f))]) (va_A [(h0, .inr (4, [.ref q, g1, g2, g3, g4, g5, g6, g7, g8])), (q, .inl (cI, n, .inl f))] sz)) 0 0 (va_A [(h0, .inr (4, [.ref q, g1, g2, g3, g4, g5, g6, g7, g8])), (q, .inl (cI, n, .inl f))] sz) := by
  refine Met.ofW (cc := b_Terms_size) (maxL := 2) (ret := (some .int)) (by decide) rfl ?_
  intro p e s m args below meth c s₁ B hml hv
  obtain ⟨rfl, hsz, hP, ⟨hK, hN⟩, hD0⟩ := hv
  have hx := B.exec
  have hb := B.bytes
  have hr := B.returns
  have hts0 := atoms_spec (ws := zc y_Terms_size b_Terms_size 2 (some .int)) B.pre
  have hts : ∀ w ∈ zw, w.before _ s = true := fun w hw => hts0 w (List.mem_cons_of_mem _ hw)
  have hown : s.vm.findClass "ProofDesk$Terms" = some m.cls := findClass_of_methodNamed B.named
  have hlocks := B.notSynchronized
  subst hsz
  have hD := hD0.self (sz := s.heap.size)
  generalize hAe : va_A [(h0, .inr (4, [.ref q, g1, g2, g3, g4, g5, g6, g7, g8])), (q, .inl (cI, n, .inl f))] s.heap.size = A at hD ⊢
  have hA : ∀ q : Nat, s.heap.size ≤ q → A q := fun q h => by rw [← hAe]; exact Or.inr h
  have hS : va_S A s.heap s.heap [] := va_S.rf
  have hP : va_P D zcl [(h0, .inr (4, [.ref q, g1, g2, g3, g4, g5, g6, g7, g8])), (q, .inl (cI, n, .inl f))] s.heap := hP
  have hl := lv_entry ([.ref h0, .int (nI x)]) (n := 2) (Nat.le_of_ble_eq_true rfl)
  rw [lg_entry_eq]
  generalize (lg_sl ([.ref h0, .int (nI x)]) ++ List.replicate (2 - (lg_sl ([.ref h0, .int (nI x)])).length) Slot.unset).toArray = ls at hl ⊢
  have hl : lv_has ls 2 [(0, .ref h0), (1, .int (nI x))] := hl
  refine lv_aload_n hx hb d_Terms_size_0 rfl (lv_at hl 0 rfl) ?_
  refine va_get (D := D) (ci := 4) (v := .ref q) (C := "ProofDesk$Terms") (T := F_Terms) (N := 9) hx hb hts in_Terms hown hK hP 0 rfl rfl 0 (by decide) (hts _ kw_174) (fun _ h9 => h9) rfl d_Terms_size_1 ?_
  refine lv_iload_n hx hb d_Terms_size_4 rfl (lv_at hl 1 rfl) ?_
  refine lv_iconst (v := 5) hx hb d_Terms_size_5 (by decide) ?_
  refine lv_iadd hx hb d_Terms_size_6 ?_
  refine zz_i (y := nI (x + 5)) (nI_add x 5) ?_
  refine zz_iald (v := (f (x + 5))) hx hb hK hP 1 0 rfl rfl (i := (nI (x + 5))) (x + 5) (zix_nI (by omega) (by omega)) (rfl) d_Terms_size_7 ?_
  have hP9 := hP.sub (ws' := [(h0, .inr (4, [.ref q, g1, g2, g3, g4, g5, g6, g7, g8])), (q, .inl (cI, n, .inl f))]) [0, 1] rfl
  have hD9 := hD.sub (ws' := [(h0, .inr (4, [.ref q, g1, g2, g3, g4, g5, g6, g7, g8])), (q, .inl (cI, n, .inl f))]) [0, 1] (by decide +kernel) rfl
  refine W.widen (k := 0) (n := 0) (by omega) (by omega) ?_
  exact W.iret (v := (f (x + 5))) hx hb hr (fun t ht hW => ⟨⟨(f (x + 5)), (), rfl, rfl, by rw [ht]; exact hP9, hD9⟩, hS.F ht⟩) hS.2.2 d_Terms_size_8
abbrev b_Terms_place : ByteArray := prog_11_method_17_code
abbrev y_Terms_place : MethodName := ⟨"ProofDesk$Terms", "place", "(I)I"⟩
theorem d_Terms_place_0 : decode b_Terms_place 0 = .ok (.aload_n 0, 1) := by decide +kernel
theorem d_Terms_place_1 : decode b_Terms_place 1 = .ok (.getfield 11, 3) := by decide +kernel
theorem d_Terms_place_4 : decode b_Terms_place 4 = .ok (.iload_n 1, 1) := by decide +kernel
theorem d_Terms_place_5 : decode b_Terms_place 5 = .ok (.bipush 6, 2) := by decide +kernel
theorem d_Terms_place_7 : decode b_Terms_place 7 = .ok (.iadd, 1) := by decide +kernel
theorem d_Terms_place_8 : decode b_Terms_place 8 = .ok (.iaload, 1) := by decide +kernel
theorem d_Terms_place_9 : decode b_Terms_place 9 = .ok (.ireturn, 1) := by decide +kernel
set_option maxHeartbeats 4000000 in
set_option maxRecDepth 100000 in
theorem g_Terms_place (l : Launch) (D : va_G) (cI cB cZ cS : ClassId) (sz : Nat) (h0 : Nat) (q : Nat) (n : Nat) (f : Nat → Int32) (g1 : Value) (g2 : Value) (g3 : Value) (g4 : Value) (g5 : Value) (g6 : Value) (g7 : Value) (g8 : Value) (x : Nat) (hx9 : x + 6 < n) (hN : n ≤ 33554432) : Met l y_Terms_place (zc y_Terms_place b_Terms_place 2 (some .int)) ({ frames := 0, cells := 0, slots := 0, locals := 0 }) (zPc D (zty cI cB cZ cS) [(h0, .inr (4, [.ref q, g1, g2, g3, g4, g5, g6, g7, g8])), (q, .inl (cI, n, .inl f))] sz [.ref h0, .int (nI x)]) (va_Qi (fun (r : Int32) (_ : Unit) => r = (f (x + 6))) (fun _ t => va_P D zcl [(h0, .inr (4, [.ref q, g1, g2, g3, g4, g5, g6, g7, g8])), (q, .inl (cI, n, .inl f))] t.heap ∧ va_D (va_A [(h0, .inr (4, [.ref q, g1, g2, g3, g4, g5, g6, g7, g8])), (q, .inl (cI, n, .inl f))] sz) [(h0, .inr (4, [.ref q, g1, g2, g3, g4, g5, g6, g7, g8])), (q, .inl (cI, n, .inl f))]) (va_A [(h0, .inr (4, [.ref q, g1, g2, g3, g4, g5, g6, g7, g8])), (q, .inl (cI, n, .inl f))] sz)) 0 0 (va_A [(h0, .inr (4, [.ref q, g1, g2, g3, g4, g5, g6, g7, g8])), (q, .inl (cI, n, .inl f))] sz) := by
  refine Met.ofW (cc := b_Terms_place) (maxL := 2) (ret := (some .int)) (by decide) rfl ?_
  intro p e s m args below meth c s₁ B hml hv
  obtain ⟨rfl, hsz, hP, ⟨hK, hN⟩, hD0⟩ := hv
  have hx := B.exec
  have hb := B.bytes
  have hr := B.returns
  have hts0 := atoms_spec (ws := zc y_Terms_place b_Terms_place 2 (some .int)) B.pre
  have hts : ∀ w ∈ zw, w.before _ s = true := fun w hw => hts0 w (List.mem_cons_of_mem _ hw)
  have hown : s.vm.findClass "ProofDesk$Terms" = some m.cls := findClass_of_methodNamed B.named
  have hlocks := B.notSynchronized
  subst hsz
  have hD := hD0.self (sz := s.heap.size)
  generalize hAe : va_A [(h0, .inr (4, [.ref q, g1, g2, g3, g4, g5, g6, g7, g8])), (q, .inl (cI, n, .inl f))] s.heap.size = A at hD ⊢
  have hA : ∀ q : Nat, s.heap.size ≤ q → A q := fun q h => by rw [← hAe]; exact Or.inr h
  have hS : va_S A s.heap s.heap [] := va_S.rf
  have hP : va_P D zcl [(h0, .inr (4, [.ref q, g1, g2, g3, g4, g5, g6, g7, g8])), (q, .inl (cI, n, .inl f))] s.heap := hP
  have hl := lv_entry ([.ref h0, .int (nI x)]) (n := 2) (Nat.le_of_ble_eq_true rfl)
  rw [lg_entry_eq]
  generalize (lg_sl ([.ref h0, .int (nI x)]) ++ List.replicate (2 - (lg_sl ([.ref h0, .int (nI x)])).length) Slot.unset).toArray = ls at hl ⊢
  have hl : lv_has ls 2 [(0, .ref h0), (1, .int (nI x))] := hl
  refine lv_aload_n hx hb d_Terms_place_0 rfl (lv_at hl 0 rfl) ?_
  refine va_get (D := D) (ci := 4) (v := .ref q) (C := "ProofDesk$Terms") (T := F_Terms) (N := 9) hx hb hts in_Terms hown hK hP 0 rfl rfl 0 (by decide) (hts _ kw_174) (fun _ h9 => h9) rfl d_Terms_place_1 ?_
  refine lv_iload_n hx hb d_Terms_place_4 rfl (lv_at hl 1 rfl) ?_
  refine lv_bipush (v := 6) hx hb d_Terms_place_5 (by decide) ?_
  refine lv_iadd hx hb d_Terms_place_7 ?_
  refine zz_i (y := nI (x + 6)) (nI_add x 6) ?_
  refine zz_iald (v := (f (x + 6))) hx hb hK hP 1 0 rfl rfl (i := (nI (x + 6))) (x + 6) (zix_nI (by omega) (by omega)) (rfl) d_Terms_place_8 ?_
  have hP9 := hP.sub (ws' := [(h0, .inr (4, [.ref q, g1, g2, g3, g4, g5, g6, g7, g8])), (q, .inl (cI, n, .inl f))]) [0, 1] rfl
  have hD9 := hD.sub (ws' := [(h0, .inr (4, [.ref q, g1, g2, g3, g4, g5, g6, g7, g8])), (q, .inl (cI, n, .inl f))]) [0, 1] (by decide +kernel) rfl
  refine W.widen (k := 0) (n := 0) (by omega) (by omega) ?_
  exact W.iret (v := (f (x + 6))) hx hb hr (fun t ht hW => ⟨⟨(f (x + 6)), (), rfl, rfl, by rw [ht]; exact hP9, hD9⟩, hS.F ht⟩) hS.2.2 d_Terms_place_9
abbrev b_Terms_hasParts : ByteArray := prog_11_method_18_code
abbrev y_Terms_hasParts : MethodName := ⟨"ProofDesk$Terms", "hasParts", "(I)Z"⟩
theorem d_Terms_hasParts_0 : decode b_Terms_hasParts 0 = .ok (.aload_n 0, 1) := by decide +kernel
theorem d_Terms_hasParts_1 : decode b_Terms_hasParts 1 = .ok (.getfield 11, 3) := by decide +kernel
theorem d_Terms_hasParts_4 : decode b_Terms_hasParts 4 = .ok (.iload_n 1, 1) := by decide +kernel
theorem d_Terms_hasParts_5 : decode b_Terms_hasParts 5 = .ok (.iconst 0, 1) := by decide +kernel
theorem d_Terms_hasParts_6 : decode b_Terms_hasParts 6 = .ok (.iadd, 1) := by decide +kernel
theorem d_Terms_hasParts_7 : decode b_Terms_hasParts 7 = .ok (.iaload, 1) := by decide +kernel
theorem d_Terms_hasParts_8 : decode b_Terms_hasParts 8 = .ok (.iconst 4, 1) := by decide +kernel
theorem d_Terms_hasParts_9 : decode b_Terms_hasParts 9 = .ok (.if_icmp .lt 7, 3) := by decide +kernel
theorem d_Terms_hasParts_12 : decode b_Terms_hasParts 12 = .ok (.iconst 1, 1) := by decide +kernel
theorem d_Terms_hasParts_13 : decode b_Terms_hasParts 13 = .ok (.goto 4, 3) := by decide +kernel
theorem d_Terms_hasParts_17 : decode b_Terms_hasParts 17 = .ok (.ireturn, 1) := by decide +kernel
set_option maxHeartbeats 4000000 in
set_option maxRecDepth 100000 in
theorem g_Terms_hasParts1 (l : Launch) (D : va_G) (cI cB cZ cS : ClassId) (sz : Nat) (h0 : Nat) (q : Nat) (n : Nat) (f : Nat → Int32) (g1 : Value) (g2 : Value) (g3 : Value) (g4 : Value) (g5 : Value) (g6 : Value) (g7 : Value) (g8 : Value) (x : Nat) (hx9 : x + 0 < n) (hN : n ≤ 33554432) (hk : ¬ f (x + 0) < 4) : Met l y_Terms_hasParts (zc y_Terms_hasParts b_Terms_hasParts 2 (some .boolean)) ({ frames := 0, cells := 0, slots := 0, locals := 0 }) (zPc D (zty cI cB cZ cS) [(h0, .inr (4, [.ref q, g1, g2, g3, g4, g5, g6, g7, g8])), (q, .inl (cI, n, .inl f))] sz [.ref h0, .int (nI x)]) (va_Qi (fun (r : Int32) (_ : Unit) => r = 1) (fun _ t => va_P D zcl [(h0, .inr (4, [.ref q, g1, g2, g3, g4, g5, g6, g7, g8])), (q, .inl (cI, n, .inl f))] t.heap ∧ va_D (va_A [(h0, .inr (4, [.ref q, g1, g2, g3, g4, g5, g6, g7, g8])), (q, .inl (cI, n, .inl f))] sz) [(h0, .inr (4, [.ref q, g1, g2, g3, g4, g5, g6, g7, g8])), (q, .inl (cI, n, .inl f))]) (va_A [(h0, .inr (4, [.ref q, g1, g2, g3, g4, g5, g6, g7, g8])), (q, .inl (cI, n, .inl f))] sz)) 0 0 (va_A [(h0, .inr (4, [.ref q, g1, g2, g3, g4, g5, g6, g7, g8])), (q, .inl (cI, n, .inl f))] sz) := by
  refine Met.ofW (cc := b_Terms_hasParts) (maxL := 2) (ret := (some .boolean)) (by decide) rfl ?_
  intro p e s m args below meth c s₁ B hml hv
  obtain ⟨rfl, hsz, hP, ⟨hK, hN⟩, hD0⟩ := hv
  have hx := B.exec
  have hb := B.bytes
  have hr := B.returns
  have hts0 := atoms_spec (ws := zc y_Terms_hasParts b_Terms_hasParts 2 (some .boolean)) B.pre
  have hts : ∀ w ∈ zw, w.before _ s = true := fun w hw => hts0 w (List.mem_cons_of_mem _ hw)
  have hown : s.vm.findClass "ProofDesk$Terms" = some m.cls := findClass_of_methodNamed B.named
  have hlocks := B.notSynchronized
  subst hsz
  have hD := hD0.self (sz := s.heap.size)
  generalize hAe : va_A [(h0, .inr (4, [.ref q, g1, g2, g3, g4, g5, g6, g7, g8])), (q, .inl (cI, n, .inl f))] s.heap.size = A at hD ⊢
  have hA : ∀ q : Nat, s.heap.size ≤ q → A q := fun q h => by rw [← hAe]; exact Or.inr h
  have hS : va_S A s.heap s.heap [] := va_S.rf
  have hP : va_P D zcl [(h0, .inr (4, [.ref q, g1, g2, g3, g4, g5, g6, g7, g8])), (q, .inl (cI, n, .inl f))] s.heap := hP
  have hl := lv_entry ([.ref h0, .int (nI x)]) (n := 2) (Nat.le_of_ble_eq_true rfl)
  rw [lg_entry_eq]
  generalize (lg_sl ([.ref h0, .int (nI x)]) ++ List.replicate (2 - (lg_sl ([.ref h0, .int (nI x)])).length) Slot.unset).toArray = ls at hl ⊢
  have hl : lv_has ls 2 [(0, .ref h0), (1, .int (nI x))] := hl
  refine lv_aload_n hx hb d_Terms_hasParts_0 rfl (lv_at hl 0 rfl) ?_
  refine va_get (D := D) (ci := 4) (v := .ref q) (C := "ProofDesk$Terms") (T := F_Terms) (N := 9) hx hb hts in_Terms hown hK hP 0 rfl rfl 0 (by decide) (hts _ kw_174) (fun _ h9 => h9) rfl d_Terms_hasParts_1 ?_
  refine lv_iload_n hx hb d_Terms_hasParts_4 rfl (lv_at hl 1 rfl) ?_
  refine lv_iconst (v := 0) hx hb d_Terms_hasParts_5 (by decide) ?_
  refine lv_iadd hx hb d_Terms_hasParts_6 ?_
  refine zz_i (y := nI (x + 0)) (nI_add x 0) ?_
  refine zz_iald (v := (f (x + 0))) hx hb hK hP 1 0 rfl rfl (i := (nI (x + 0))) (x + 0) (zix_nI (by omega) (by omega)) (rfl) d_Terms_hasParts_7 ?_
  refine lv_iconst (v := 4) hx hb d_Terms_hasParts_8 (by decide) ?_
  have hc_1 : ¬ ((f (x + 0)) : Int32) < 4 := hk
  refine lv_icmp_lt hx hb d_Terms_hasParts_9 rfl (fun h => absurd h hc_1) (fun _ => ?_)
  refine lv_iconst (v := 1) hx hb d_Terms_hasParts_12 (by decide) ?_
  refine lv_goto hx hb d_Terms_hasParts_13 rfl ?_
  have hP9 := hP.sub (ws' := [(h0, .inr (4, [.ref q, g1, g2, g3, g4, g5, g6, g7, g8])), (q, .inl (cI, n, .inl f))]) [0, 1] rfl
  have hD9 := hD.sub (ws' := [(h0, .inr (4, [.ref q, g1, g2, g3, g4, g5, g6, g7, g8])), (q, .inl (cI, n, .inl f))]) [0, 1] (by decide +kernel) rfl
  refine W.widen (k := 0) (n := 0) (by omega) (by omega) ?_
  exact W.zret (v := 1) hx hb hr rfl (fun t ht hW => ⟨⟨1, (), rfl, rfl, by rw [ht]; exact hP9, hD9⟩, hS.F ht⟩) hS.2.2 d_Terms_hasParts_17
theorem d_Terms_hasParts_16 : decode b_Terms_hasParts 16 = .ok (.iconst 0, 1) := by decide +kernel
set_option maxHeartbeats 4000000 in
set_option maxRecDepth 100000 in
theorem g_Terms_hasParts0 (l : Launch) (D : va_G) (cI cB cZ cS : ClassId) (sz : Nat) (h0 : Nat) (q : Nat) (n : Nat) (f : Nat → Int32) (g1 : Value) (g2 : Value) (g3 : Value) (g4 : Value) (g5 : Value) (g6 : Value) (g7 : Value) (g8 : Value) (x : Nat) (hx9 : x + 0 < n) (hN : n ≤ 33554432) (hk : f (x + 0) < 4) : Met l y_Terms_hasParts (zc y_Terms_hasParts b_Terms_hasParts 2 (some .boolean)) ({ frames := 0, cells := 0, slots := 0, locals := 0 }) (zPc D (zty cI cB cZ cS) [(h0, .inr (4, [.ref q, g1, g2, g3, g4, g5, g6, g7, g8])), (q, .inl (cI, n, .inl f))] sz [.ref h0, .int (nI x)]) (va_Qi (fun (r : Int32) (_ : Unit) => r = 0) (fun _ t => va_P D zcl [(h0, .inr (4, [.ref q, g1, g2, g3, g4, g5, g6, g7, g8])), (q, .inl (cI, n, .inl f))] t.heap ∧ va_D (va_A [(h0, .inr (4, [.ref q, g1, g2, g3, g4, g5, g6, g7, g8])), (q, .inl (cI, n, .inl f))] sz) [(h0, .inr (4, [.ref q, g1, g2, g3, g4, g5, g6, g7, g8])), (q, .inl (cI, n, .inl f))]) (va_A [(h0, .inr (4, [.ref q, g1, g2, g3, g4, g5, g6, g7, g8])), (q, .inl (cI, n, .inl f))] sz)) 0 0 (va_A [(h0, .inr (4, [.ref q, g1, g2, g3, g4, g5, g6, g7, g8])), (q, .inl (cI, n, .inl f))] sz) := by
  refine Met.ofW (cc := b_Terms_hasParts) (maxL := 2) (ret := (some .boolean)) (by decide) rfl ?_
  intro p e s m args below meth c s₁ B hml hv
  obtain ⟨rfl, hsz, hP, ⟨hK, hN⟩, hD0⟩ := hv
  have hx := B.exec
  have hb := B.bytes
  have hr := B.returns
  have hts0 := atoms_spec (ws := zc y_Terms_hasParts b_Terms_hasParts 2 (some .boolean)) B.pre
  have hts : ∀ w ∈ zw, w.before _ s = true := fun w hw => hts0 w (List.mem_cons_of_mem _ hw)
  have hown : s.vm.findClass "ProofDesk$Terms" = some m.cls := findClass_of_methodNamed B.named
  have hlocks := B.notSynchronized
  subst hsz
  have hD := hD0.self (sz := s.heap.size)
  generalize hAe : va_A [(h0, .inr (4, [.ref q, g1, g2, g3, g4, g5, g6, g7, g8])), (q, .inl (cI, n, .inl f))] s.heap.size = A at hD ⊢
  have hA : ∀ q : Nat, s.heap.size ≤ q → A q := fun q h => by rw [← hAe]; exact Or.inr h
  have hS : va_S A s.heap s.heap [] := va_S.rf
  have hP : va_P D zcl [(h0, .inr (4, [.ref q, g1, g2, g3, g4, g5, g6, g7, g8])), (q, .inl (cI, n, .inl f))] s.heap := hP
  have hl := lv_entry ([.ref h0, .int (nI x)]) (n := 2) (Nat.le_of_ble_eq_true rfl)
  rw [lg_entry_eq]
  generalize (lg_sl ([.ref h0, .int (nI x)]) ++ List.replicate (2 - (lg_sl ([.ref h0, .int (nI x)])).length) Slot.unset).toArray = ls at hl ⊢
  have hl : lv_has ls 2 [(0, .ref h0), (1, .int (nI x))] := hl
  refine lv_aload_n hx hb d_Terms_hasParts_0 rfl (lv_at hl 0 rfl) ?_
  refine va_get (D := D) (ci := 4) (v := .ref q) (C := "ProofDesk$Terms") (T := F_Terms) (N := 9) hx hb hts in_Terms hown hK hP 0 rfl rfl 0 (by decide) (hts _ kw_174) (fun _ h9 => h9) rfl d_Terms_hasParts_1 ?_
  refine lv_iload_n hx hb d_Terms_hasParts_4 rfl (lv_at hl 1 rfl) ?_
  refine lv_iconst (v := 0) hx hb d_Terms_hasParts_5 (by decide) ?_
  refine lv_iadd hx hb d_Terms_hasParts_6 ?_
  refine zz_i (y := nI (x + 0)) (nI_add x 0) ?_
  refine zz_iald (v := (f (x + 0))) hx hb hK hP 1 0 rfl rfl (i := (nI (x + 0))) (x + 0) (zix_nI (by omega) (by omega)) (rfl) d_Terms_hasParts_7 ?_
  refine lv_iconst (v := 4) hx hb d_Terms_hasParts_8 (by decide) ?_
  have hc_1 : ((f (x + 0)) : Int32) < 4 := hk
  refine lv_icmp_lt hx hb d_Terms_hasParts_9 rfl (fun _ => ?_) (fun h => absurd hc_1 h)
  refine lv_iconst (v := 0) hx hb d_Terms_hasParts_16 (by decide) ?_
  have hP9 := hP.sub (ws' := [(h0, .inr (4, [.ref q, g1, g2, g3, g4, g5, g6, g7, g8])), (q, .inl (cI, n, .inl f))]) [0, 1] rfl
  have hD9 := hD.sub (ws' := [(h0, .inr (4, [.ref q, g1, g2, g3, g4, g5, g6, g7, g8])), (q, .inl (cI, n, .inl f))]) [0, 1] (by decide +kernel) rfl
  refine W.widen (k := 0) (n := 0) (by omega) (by omega) ?_
  exact W.zret (v := 0) hx hb hr rfl (fun t ht hW => ⟨⟨0, (), rfl, rfl, by rw [ht]; exact hP9, hD9⟩, hS.F ht⟩) hS.2.2 d_Terms_hasParts_17
abbrev b_Terms_nameOf : ByteArray := prog_11_method_20_code
abbrev y_Terms_nameOf : MethodName := ⟨"ProofDesk$Terms", "nameOf", "(I)I"⟩
theorem d_Terms_nameOf_0 : decode b_Terms_nameOf 0 = .ok (.aload_n 0, 1) := by decide +kernel
theorem d_Terms_nameOf_1 : decode b_Terms_nameOf 1 = .ok (.getfield 15, 3) := by decide +kernel
theorem d_Terms_nameOf_4 : decode b_Terms_nameOf 4 = .ok (.bipush 6, 2) := by decide +kernel
theorem d_Terms_nameOf_6 : decode b_Terms_nameOf 6 = .ok (.iload_n 1, 1) := by decide +kernel
theorem d_Terms_nameOf_7 : decode b_Terms_nameOf 7 = .ok (.imul, 1) := by decide +kernel
theorem d_Terms_nameOf_8 : decode b_Terms_nameOf 8 = .ok (.iconst 0, 1) := by decide +kernel
theorem d_Terms_nameOf_9 : decode b_Terms_nameOf 9 = .ok (.iadd, 1) := by decide +kernel
theorem d_Terms_nameOf_10 : decode b_Terms_nameOf 10 = .ok (.iaload, 1) := by decide +kernel
theorem d_Terms_nameOf_11 : decode b_Terms_nameOf 11 = .ok (.ireturn, 1) := by decide +kernel
set_option maxHeartbeats 4000000 in
set_option maxRecDepth 100000 in
theorem g_Terms_nameOf (l : Launch) (D : va_G) (cI cB cZ cS : ClassId) (sz : Nat) (h0 : Nat) (q : Nat) (n : Nat) (f : Nat → Int32) (g0 : Value) (g1 : Value) (g3 : Value) (g4 : Value) (g5 : Value) (g6 : Value) (g7 : Value) (g8 : Value) (x : Nat) (hx9 : 6 * x + 0 < n) (hN : n ≤ 33554432) : Met l y_Terms_nameOf (zc y_Terms_nameOf b_Terms_nameOf 2 (some .int)) ({ frames := 0, cells := 0, slots := 0, locals := 0 }) (zPc D (zty cI cB cZ cS) [(h0, .inr (4, [g0, g1, .ref q, g3, g4, g5, g6, g7, g8])), (q, .inl (cI, n, .inl f))] sz [.ref h0, .int (nI x)]) (va_Qi (fun (r : Int32) (_ : Unit) => r = (f (6 * x + 0))) (fun _ t => va_P D zcl [(h0, .inr (4, [g0, g1, .ref q, g3, g4, g5, g6, g7, g8])), (q, .inl (cI, n, .inl f))] t.heap ∧ va_D (va_A [(h0, .inr (4, [g0, g1, .ref q, g3, g4, g5, g6, g7, g8])), (q, .inl (cI, n, .inl f))] sz) [(h0, .inr (4, [g0, g1, .ref q, g3, g4, g5, g6, g7, g8])), (q, .inl (cI, n, .inl f))]) (va_A [(h0, .inr (4, [g0, g1, .ref q, g3, g4, g5, g6, g7, g8])), (q, .inl (cI, n, .inl f))] sz)) 0 0 (va_A [(h0, .inr (4, [g0, g1, .ref q, g3, g4, g5, g6, g7, g8])), (q, .inl (cI, n, .inl f))] sz) := by
  refine Met.ofW (cc := b_Terms_nameOf) (maxL := 2) (ret := (some .int)) (by decide) rfl ?_
  intro p e s m args below meth c s₁ B hml hv
  obtain ⟨rfl, hsz, hP, ⟨hK, hN⟩, hD0⟩ := hv
  have hx := B.exec
  have hb := B.bytes
  have hr := B.returns
  have hts0 := atoms_spec (ws := zc y_Terms_nameOf b_Terms_nameOf 2 (some .int)) B.pre
  have hts : ∀ w ∈ zw, w.before _ s = true := fun w hw => hts0 w (List.mem_cons_of_mem _ hw)
  have hown : s.vm.findClass "ProofDesk$Terms" = some m.cls := findClass_of_methodNamed B.named
  have hlocks := B.notSynchronized
  subst hsz
  have hD := hD0.self (sz := s.heap.size)
  generalize hAe : va_A [(h0, .inr (4, [g0, g1, .ref q, g3, g4, g5, g6, g7, g8])), (q, .inl (cI, n, .inl f))] s.heap.size = A at hD ⊢
  have hA : ∀ q : Nat, s.heap.size ≤ q → A q := fun q h => by rw [← hAe]; exact Or.inr h
  have hS : va_S A s.heap s.heap [] := va_S.rf
  have hP : va_P D zcl [(h0, .inr (4, [g0, g1, .ref q, g3, g4, g5, g6, g7, g8])), (q, .inl (cI, n, .inl f))] s.heap := hP
  have hl := lv_entry ([.ref h0, .int (nI x)]) (n := 2) (Nat.le_of_ble_eq_true rfl)
  rw [lg_entry_eq]
  generalize (lg_sl ([.ref h0, .int (nI x)]) ++ List.replicate (2 - (lg_sl ([.ref h0, .int (nI x)])).length) Slot.unset).toArray = ls at hl ⊢
  have hl : lv_has ls 2 [(0, .ref h0), (1, .int (nI x))] := hl
  refine lv_aload_n hx hb d_Terms_nameOf_0 rfl (lv_at hl 0 rfl) ?_
  refine va_get (D := D) (ci := 4) (v := .ref q) (C := "ProofDesk$Terms") (T := F_Terms) (N := 9) hx hb hts in_Terms hown hK hP 0 rfl rfl 2 (by decide) (hts _ kw_177) (fun _ h9 => h9) rfl d_Terms_nameOf_1 ?_
  refine lv_bipush (v := 6) hx hb d_Terms_nameOf_4 (by decide) ?_
  refine lv_iload_n hx hb d_Terms_nameOf_6 rfl (lv_at hl 1 rfl) ?_
  refine lv_imul hx hb d_Terms_nameOf_7 ?_
  refine zz_i (y := nI (6 * x)) (pk_mul 6 x) ?_
  refine lv_iconst (v := 0) hx hb d_Terms_nameOf_8 (by decide) ?_
  refine lv_iadd hx hb d_Terms_nameOf_9 ?_
  refine zz_i (y := nI (6 * x + 0)) (nI_add (6 * x) 0) ?_
  refine zz_iald (v := (f (6 * x + 0))) hx hb hK hP 1 0 rfl rfl (i := (nI (6 * x + 0))) (6 * x + 0) (zix_nI (by omega) (by omega)) (rfl) d_Terms_nameOf_10 ?_
  have hP9 := hP.sub (ws' := [(h0, .inr (4, [g0, g1, .ref q, g3, g4, g5, g6, g7, g8])), (q, .inl (cI, n, .inl f))]) [0, 1] rfl
  have hD9 := hD.sub (ws' := [(h0, .inr (4, [g0, g1, .ref q, g3, g4, g5, g6, g7, g8])), (q, .inl (cI, n, .inl f))]) [0, 1] (by decide +kernel) rfl
  refine W.widen (k := 0) (n := 0) (by omega) (by omega) ?_
  exact W.iret (v := (f (6 * x + 0))) hx hb hr (fun t ht hW => ⟨⟨(f (6 * x + 0)), (), rfl, rfl, by rw [ht]; exact hP9, hD9⟩, hS.F ht⟩) hS.2.2 d_Terms_nameOf_11
abbrev b_Terms_typeOf : ByteArray := prog_11_method_21_code
abbrev y_Terms_typeOf : MethodName := ⟨"ProofDesk$Terms", "typeOf", "(I)I"⟩
theorem d_Terms_typeOf_0 : decode b_Terms_typeOf 0 = .ok (.aload_n 0, 1) := by decide +kernel
theorem d_Terms_typeOf_1 : decode b_Terms_typeOf 1 = .ok (.getfield 15, 3) := by decide +kernel
theorem d_Terms_typeOf_4 : decode b_Terms_typeOf 4 = .ok (.bipush 6, 2) := by decide +kernel
theorem d_Terms_typeOf_6 : decode b_Terms_typeOf 6 = .ok (.iload_n 1, 1) := by decide +kernel
theorem d_Terms_typeOf_7 : decode b_Terms_typeOf 7 = .ok (.imul, 1) := by decide +kernel
theorem d_Terms_typeOf_8 : decode b_Terms_typeOf 8 = .ok (.iconst 1, 1) := by decide +kernel
theorem d_Terms_typeOf_9 : decode b_Terms_typeOf 9 = .ok (.iadd, 1) := by decide +kernel
theorem d_Terms_typeOf_10 : decode b_Terms_typeOf 10 = .ok (.iaload, 1) := by decide +kernel
theorem d_Terms_typeOf_11 : decode b_Terms_typeOf 11 = .ok (.ireturn, 1) := by decide +kernel
set_option maxHeartbeats 4000000 in
set_option maxRecDepth 100000 in
theorem g_Terms_typeOf (l : Launch) (D : va_G) (cI cB cZ cS : ClassId) (sz : Nat) (h0 : Nat) (q : Nat) (n : Nat) (f : Nat → Int32) (g0 : Value) (g1 : Value) (g3 : Value) (g4 : Value) (g5 : Value) (g6 : Value) (g7 : Value) (g8 : Value) (x : Nat) (hx9 : 6 * x + 1 < n) (hN : n ≤ 33554432) : Met l y_Terms_typeOf (zc y_Terms_typeOf b_Terms_typeOf 2 (some .int)) ({ frames := 0, cells := 0, slots := 0, locals := 0 }) (zPc D (zty cI cB cZ cS) [(h0, .inr (4, [g0, g1, .ref q, g3, g4, g5, g6, g7, g8])), (q, .inl (cI, n, .inl f))] sz [.ref h0, .int (nI x)]) (va_Qi (fun (r : Int32) (_ : Unit) => r = (f (6 * x + 1))) (fun _ t => va_P D zcl [(h0, .inr (4, [g0, g1, .ref q, g3, g4, g5, g6, g7, g8])), (q, .inl (cI, n, .inl f))] t.heap ∧ va_D (va_A [(h0, .inr (4, [g0, g1, .ref q, g3, g4, g5, g6, g7, g8])), (q, .inl (cI, n, .inl f))] sz) [(h0, .inr (4, [g0, g1, .ref q, g3, g4, g5, g6, g7, g8])), (q, .inl (cI, n, .inl f))]) (va_A [(h0, .inr (4, [g0, g1, .ref q, g3, g4, g5, g6, g7, g8])), (q, .inl (cI, n, .inl f))] sz)) 0 0 (va_A [(h0, .inr (4, [g0, g1, .ref q, g3, g4, g5, g6, g7, g8])), (q, .inl (cI, n, .inl f))] sz) := by
  refine Met.ofW (cc := b_Terms_typeOf) (maxL := 2) (ret := (some .int)) (by decide) rfl ?_
  intro p e s m args below meth c s₁ B hml hv
  obtain ⟨rfl, hsz, hP, ⟨hK, hN⟩, hD0⟩ := hv
  have hx := B.exec
  have hb := B.bytes
  have hr := B.returns
  have hts0 := atoms_spec (ws := zc y_Terms_typeOf b_Terms_typeOf 2 (some .int)) B.pre
  have hts : ∀ w ∈ zw, w.before _ s = true := fun w hw => hts0 w (List.mem_cons_of_mem _ hw)
  have hown : s.vm.findClass "ProofDesk$Terms" = some m.cls := findClass_of_methodNamed B.named
  have hlocks := B.notSynchronized
  subst hsz
  have hD := hD0.self (sz := s.heap.size)
  generalize hAe : va_A [(h0, .inr (4, [g0, g1, .ref q, g3, g4, g5, g6, g7, g8])), (q, .inl (cI, n, .inl f))] s.heap.size = A at hD ⊢
  have hA : ∀ q : Nat, s.heap.size ≤ q → A q := fun q h => by rw [← hAe]; exact Or.inr h
  have hS : va_S A s.heap s.heap [] := va_S.rf
  have hP : va_P D zcl [(h0, .inr (4, [g0, g1, .ref q, g3, g4, g5, g6, g7, g8])), (q, .inl (cI, n, .inl f))] s.heap := hP
  have hl := lv_entry ([.ref h0, .int (nI x)]) (n := 2) (Nat.le_of_ble_eq_true rfl)
  rw [lg_entry_eq]
  generalize (lg_sl ([.ref h0, .int (nI x)]) ++ List.replicate (2 - (lg_sl ([.ref h0, .int (nI x)])).length) Slot.unset).toArray = ls at hl ⊢
  have hl : lv_has ls 2 [(0, .ref h0), (1, .int (nI x))] := hl
  refine lv_aload_n hx hb d_Terms_typeOf_0 rfl (lv_at hl 0 rfl) ?_
  refine va_get (D := D) (ci := 4) (v := .ref q) (C := "ProofDesk$Terms") (T := F_Terms) (N := 9) hx hb hts in_Terms hown hK hP 0 rfl rfl 2 (by decide) (hts _ kw_177) (fun _ h9 => h9) rfl d_Terms_typeOf_1 ?_
  refine lv_bipush (v := 6) hx hb d_Terms_typeOf_4 (by decide) ?_
  refine lv_iload_n hx hb d_Terms_typeOf_6 rfl (lv_at hl 1 rfl) ?_
  refine lv_imul hx hb d_Terms_typeOf_7 ?_
  refine zz_i (y := nI (6 * x)) (pk_mul 6 x) ?_
  refine lv_iconst (v := 1) hx hb d_Terms_typeOf_8 (by decide) ?_
  refine lv_iadd hx hb d_Terms_typeOf_9 ?_
  refine zz_i (y := nI (6 * x + 1)) (nI_add (6 * x) 1) ?_
  refine zz_iald (v := (f (6 * x + 1))) hx hb hK hP 1 0 rfl rfl (i := (nI (6 * x + 1))) (6 * x + 1) (zix_nI (by omega) (by omega)) (rfl) d_Terms_typeOf_10 ?_
  have hP9 := hP.sub (ws' := [(h0, .inr (4, [g0, g1, .ref q, g3, g4, g5, g6, g7, g8])), (q, .inl (cI, n, .inl f))]) [0, 1] rfl
  have hD9 := hD.sub (ws' := [(h0, .inr (4, [g0, g1, .ref q, g3, g4, g5, g6, g7, g8])), (q, .inl (cI, n, .inl f))]) [0, 1] (by decide +kernel) rfl
  refine W.widen (k := 0) (n := 0) (by omega) (by omega) ?_
  exact W.iret (v := (f (6 * x + 1))) hx hb hr (fun t ht hW => ⟨⟨(f (6 * x + 1)), (), rfl, rfl, by rw [ht]; exact hP9, hD9⟩, hS.F ht⟩) hS.2.2 d_Terms_typeOf_11
abbrev b_Terms_valueOf : ByteArray := prog_11_method_23_code
abbrev y_Terms_valueOf : MethodName := ⟨"ProofDesk$Terms", "valueOf", "(I)I"⟩
theorem d_Terms_valueOf_0 : decode b_Terms_valueOf 0 = .ok (.aload_n 0, 1) := by decide +kernel
theorem d_Terms_valueOf_1 : decode b_Terms_valueOf 1 = .ok (.getfield 15, 3) := by decide +kernel
theorem d_Terms_valueOf_4 : decode b_Terms_valueOf 4 = .ok (.bipush 6, 2) := by decide +kernel
theorem d_Terms_valueOf_6 : decode b_Terms_valueOf 6 = .ok (.iload_n 1, 1) := by decide +kernel
theorem d_Terms_valueOf_7 : decode b_Terms_valueOf 7 = .ok (.imul, 1) := by decide +kernel
theorem d_Terms_valueOf_8 : decode b_Terms_valueOf 8 = .ok (.iconst 2, 1) := by decide +kernel
theorem d_Terms_valueOf_9 : decode b_Terms_valueOf 9 = .ok (.iadd, 1) := by decide +kernel
theorem d_Terms_valueOf_10 : decode b_Terms_valueOf 10 = .ok (.iaload, 1) := by decide +kernel
theorem d_Terms_valueOf_11 : decode b_Terms_valueOf 11 = .ok (.ireturn, 1) := by decide +kernel
set_option maxHeartbeats 4000000 in
set_option maxRecDepth 100000 in
theorem g_Terms_valueOf (l : Launch) (D : va_G) (cI cB cZ cS : ClassId) (sz : Nat) (h0 : Nat) (q : Nat) (n : Nat) (f : Nat → Int32) (g0 : Value) (g1 : Value) (g3 : Value) (g4 : Value) (g5 : Value) (g6 : Value) (g7 : Value) (g8 : Value) (x : Nat) (hx9 : 6 * x + 2 < n) (hN : n ≤ 33554432) : Met l y_Terms_valueOf (zc y_Terms_valueOf b_Terms_valueOf 2 (some .int)) ({ frames := 0, cells := 0, slots := 0, locals := 0 }) (zPc D (zty cI cB cZ cS) [(h0, .inr (4, [g0, g1, .ref q, g3, g4, g5, g6, g7, g8])), (q, .inl (cI, n, .inl f))] sz [.ref h0, .int (nI x)]) (va_Qi (fun (r : Int32) (_ : Unit) => r = (f (6 * x + 2))) (fun _ t => va_P D zcl [(h0, .inr (4, [g0, g1, .ref q, g3, g4, g5, g6, g7, g8])), (q, .inl (cI, n, .inl f))] t.heap ∧ va_D (va_A [(h0, .inr (4, [g0, g1, .ref q, g3, g4, g5, g6, g7, g8])), (q, .inl (cI, n, .inl f))] sz) [(h0, .inr (4, [g0, g1, .ref q, g3, g4, g5, g6, g7, g8])), (q, .inl (cI, n, .inl f))]) (va_A [(h0, .inr (4, [g0, g1, .ref q, g3, g4, g5, g6, g7, g8])), (q, .inl (cI, n, .inl f))] sz)) 0 0 (va_A [(h0, .inr (4, [g0, g1, .ref q, g3, g4, g5, g6, g7, g8])), (q, .inl (cI, n, .inl f))] sz) := by
  refine Met.ofW (cc := b_Terms_valueOf) (maxL := 2) (ret := (some .int)) (by decide) rfl ?_
  intro p e s m args below meth c s₁ B hml hv
  obtain ⟨rfl, hsz, hP, ⟨hK, hN⟩, hD0⟩ := hv
  have hx := B.exec
  have hb := B.bytes
  have hr := B.returns
  have hts0 := atoms_spec (ws := zc y_Terms_valueOf b_Terms_valueOf 2 (some .int)) B.pre
  have hts : ∀ w ∈ zw, w.before _ s = true := fun w hw => hts0 w (List.mem_cons_of_mem _ hw)
  have hown : s.vm.findClass "ProofDesk$Terms" = some m.cls := findClass_of_methodNamed B.named
  have hlocks := B.notSynchronized
  subst hsz
  have hD := hD0.self (sz := s.heap.size)
  generalize hAe : va_A [(h0, .inr (4, [g0, g1, .ref q, g3, g4, g5, g6, g7, g8])), (q, .inl (cI, n, .inl f))] s.heap.size = A at hD ⊢
  have hA : ∀ q : Nat, s.heap.size ≤ q → A q := fun q h => by rw [← hAe]; exact Or.inr h
  have hS : va_S A s.heap s.heap [] := va_S.rf
  have hP : va_P D zcl [(h0, .inr (4, [g0, g1, .ref q, g3, g4, g5, g6, g7, g8])), (q, .inl (cI, n, .inl f))] s.heap := hP
  have hl := lv_entry ([.ref h0, .int (nI x)]) (n := 2) (Nat.le_of_ble_eq_true rfl)
  rw [lg_entry_eq]
  generalize (lg_sl ([.ref h0, .int (nI x)]) ++ List.replicate (2 - (lg_sl ([.ref h0, .int (nI x)])).length) Slot.unset).toArray = ls at hl ⊢
  have hl : lv_has ls 2 [(0, .ref h0), (1, .int (nI x))] := hl
  refine lv_aload_n hx hb d_Terms_valueOf_0 rfl (lv_at hl 0 rfl) ?_
  refine va_get (D := D) (ci := 4) (v := .ref q) (C := "ProofDesk$Terms") (T := F_Terms) (N := 9) hx hb hts in_Terms hown hK hP 0 rfl rfl 2 (by decide) (hts _ kw_177) (fun _ h9 => h9) rfl d_Terms_valueOf_1 ?_
  refine lv_bipush (v := 6) hx hb d_Terms_valueOf_4 (by decide) ?_
  refine lv_iload_n hx hb d_Terms_valueOf_6 rfl (lv_at hl 1 rfl) ?_
  refine lv_imul hx hb d_Terms_valueOf_7 ?_
  refine zz_i (y := nI (6 * x)) (pk_mul 6 x) ?_
  refine lv_iconst (v := 2) hx hb d_Terms_valueOf_8 (by decide) ?_
  refine lv_iadd hx hb d_Terms_valueOf_9 ?_
  refine zz_i (y := nI (6 * x + 2)) (nI_add (6 * x) 2) ?_
  refine zz_iald (v := (f (6 * x + 2))) hx hb hK hP 1 0 rfl rfl (i := (nI (6 * x + 2))) (6 * x + 2) (zix_nI (by omega) (by omega)) (rfl) d_Terms_valueOf_10 ?_
  have hP9 := hP.sub (ws' := [(h0, .inr (4, [g0, g1, .ref q, g3, g4, g5, g6, g7, g8])), (q, .inl (cI, n, .inl f))]) [0, 1] rfl
  have hD9 := hD.sub (ws' := [(h0, .inr (4, [g0, g1, .ref q, g3, g4, g5, g6, g7, g8])), (q, .inl (cI, n, .inl f))]) [0, 1] (by decide +kernel) rfl
  refine W.widen (k := 0) (n := 0) (by omega) (by omega) ?_
  exact W.iret (v := (f (6 * x + 2))) hx hb hr (fun t ht hW => ⟨⟨(f (6 * x + 2)), (), rfl, rfl, by rw [ht]; exact hP9, hD9⟩, hS.F ht⟩) hS.2.2 d_Terms_valueOf_11
abbrev b_Terms_twinOf : ByteArray := prog_11_method_25_code
abbrev y_Terms_twinOf : MethodName := ⟨"ProofDesk$Terms", "twinOf", "(I)I"⟩
theorem d_Terms_twinOf_0 : decode b_Terms_twinOf 0 = .ok (.aload_n 0, 1) := by decide +kernel
theorem d_Terms_twinOf_1 : decode b_Terms_twinOf 1 = .ok (.getfield 15, 3) := by decide +kernel
theorem d_Terms_twinOf_4 : decode b_Terms_twinOf 4 = .ok (.bipush 6, 2) := by decide +kernel
theorem d_Terms_twinOf_6 : decode b_Terms_twinOf 6 = .ok (.iload_n 1, 1) := by decide +kernel
theorem d_Terms_twinOf_7 : decode b_Terms_twinOf 7 = .ok (.imul, 1) := by decide +kernel
theorem d_Terms_twinOf_8 : decode b_Terms_twinOf 8 = .ok (.iconst 3, 1) := by decide +kernel
theorem d_Terms_twinOf_9 : decode b_Terms_twinOf 9 = .ok (.iadd, 1) := by decide +kernel
theorem d_Terms_twinOf_10 : decode b_Terms_twinOf 10 = .ok (.iaload, 1) := by decide +kernel
theorem d_Terms_twinOf_11 : decode b_Terms_twinOf 11 = .ok (.ireturn, 1) := by decide +kernel
set_option maxHeartbeats 4000000 in
set_option maxRecDepth 100000 in
theorem g_Terms_twinOf (l : Launch) (D : va_G) (cI cB cZ cS : ClassId) (sz : Nat) (h0 : Nat) (q : Nat) (n : Nat) (f : Nat → Int32) (g0 : Value) (g1 : Value) (g3 : Value) (g4 : Value) (g5 : Value) (g6 : Value) (g7 : Value) (g8 : Value) (x : Nat) (hx9 : 6 * x + 3 < n) (hN : n ≤ 33554432) : Met l y_Terms_twinOf (zc y_Terms_twinOf b_Terms_twinOf 2 (some .int)) ({ frames := 0, cells := 0, slots := 0, locals := 0 }) (zPc D (zty cI cB cZ cS) [(h0, .inr (4, [g0, g1, .ref q, g3, g4, g5, g6, g7, g8])), (q, .inl (cI, n, .inl f))] sz [.ref h0, .int (nI x)]) (va_Qi (fun (r : Int32) (_ : Unit) => r = (f (6 * x + 3))) (fun _ t => va_P D zcl [(h0, .inr (4, [g0, g1, .ref q, g3, g4, g5, g6, g7, g8])), (q, .inl (cI, n, .inl f))] t.heap ∧ va_D (va_A [(h0, .inr (4, [g0, g1, .ref q, g3, g4, g5, g6, g7, g8])), (q, .inl (cI, n, .inl f))] sz) [(h0, .inr (4, [g0, g1, .ref q, g3, g4, g5, g6, g7, g8])), (q, .inl (cI, n, .inl f))]) (va_A [(h0, .inr (4, [g0, g1, .ref q, g3, g4, g5, g6, g7, g8])), (q, .inl (cI, n, .inl f))] sz)) 0 0 (va_A [(h0, .inr (4, [g0, g1, .ref q, g3, g4, g5, g6, g7, g8])), (q, .inl (cI, n, .inl f))] sz) := by
  refine Met.ofW (cc := b_Terms_twinOf) (maxL := 2) (ret := (some .int)) (by decide) rfl ?_
  intro p e s m args below meth c s₁ B hml hv
  obtain ⟨rfl, hsz, hP, ⟨hK, hN⟩, hD0⟩ := hv
  have hx := B.exec
  have hb := B.bytes
  have hr := B.returns
  have hts0 := atoms_spec (ws := zc y_Terms_twinOf b_Terms_twinOf 2 (some .int)) B.pre
  have hts : ∀ w ∈ zw, w.before _ s = true := fun w hw => hts0 w (List.mem_cons_of_mem _ hw)
  have hown : s.vm.findClass "ProofDesk$Terms" = some m.cls := findClass_of_methodNamed B.named
  have hlocks := B.notSynchronized
  subst hsz
  have hD := hD0.self (sz := s.heap.size)
  generalize hAe : va_A [(h0, .inr (4, [g0, g1, .ref q, g3, g4, g5, g6, g7, g8])), (q, .inl (cI, n, .inl f))] s.heap.size = A at hD ⊢
  have hA : ∀ q : Nat, s.heap.size ≤ q → A q := fun q h => by rw [← hAe]; exact Or.inr h
  have hS : va_S A s.heap s.heap [] := va_S.rf
  have hP : va_P D zcl [(h0, .inr (4, [g0, g1, .ref q, g3, g4, g5, g6, g7, g8])), (q, .inl (cI, n, .inl f))] s.heap := hP
  have hl := lv_entry ([.ref h0, .int (nI x)]) (n := 2) (Nat.le_of_ble_eq_true rfl)
  rw [lg_entry_eq]
  generalize (lg_sl ([.ref h0, .int (nI x)]) ++ List.replicate (2 - (lg_sl ([.ref h0, .int (nI x)])).length) Slot.unset).toArray = ls at hl ⊢
  have hl : lv_has ls 2 [(0, .ref h0), (1, .int (nI x))] := hl
  refine lv_aload_n hx hb d_Terms_twinOf_0 rfl (lv_at hl 0 rfl) ?_
  refine va_get (D := D) (ci := 4) (v := .ref q) (C := "ProofDesk$Terms") (T := F_Terms) (N := 9) hx hb hts in_Terms hown hK hP 0 rfl rfl 2 (by decide) (hts _ kw_177) (fun _ h9 => h9) rfl d_Terms_twinOf_1 ?_
  refine lv_bipush (v := 6) hx hb d_Terms_twinOf_4 (by decide) ?_
  refine lv_iload_n hx hb d_Terms_twinOf_6 rfl (lv_at hl 1 rfl) ?_
  refine lv_imul hx hb d_Terms_twinOf_7 ?_
  refine zz_i (y := nI (6 * x)) (pk_mul 6 x) ?_
  refine lv_iconst (v := 3) hx hb d_Terms_twinOf_8 (by decide) ?_
  refine lv_iadd hx hb d_Terms_twinOf_9 ?_
  refine zz_i (y := nI (6 * x + 3)) (nI_add (6 * x) 3) ?_
  refine zz_iald (v := (f (6 * x + 3))) hx hb hK hP 1 0 rfl rfl (i := (nI (6 * x + 3))) (6 * x + 3) (zix_nI (by omega) (by omega)) (rfl) d_Terms_twinOf_10 ?_
  have hP9 := hP.sub (ws' := [(h0, .inr (4, [g0, g1, .ref q, g3, g4, g5, g6, g7, g8])), (q, .inl (cI, n, .inl f))]) [0, 1] rfl
  have hD9 := hD.sub (ws' := [(h0, .inr (4, [g0, g1, .ref q, g3, g4, g5, g6, g7, g8])), (q, .inl (cI, n, .inl f))]) [0, 1] (by decide +kernel) rfl
  refine W.widen (k := 0) (n := 0) (by omega) (by omega) ?_
  exact W.iret (v := (f (6 * x + 3))) hx hb hr (fun t ht hW => ⟨⟨(f (6 * x + 3)), (), rfl, rfl, by rw [ht]; exact hP9, hD9⟩, hS.F ht⟩) hS.2.2 d_Terms_twinOf_11
abbrev b_Terms_levelOf : ByteArray := prog_11_method_27_code
abbrev y_Terms_levelOf : MethodName := ⟨"ProofDesk$Terms", "levelOf", "(I)I"⟩
theorem d_Terms_levelOf_0 : decode b_Terms_levelOf 0 = .ok (.aload_n 0, 1) := by decide +kernel
theorem d_Terms_levelOf_1 : decode b_Terms_levelOf 1 = .ok (.getfield 15, 3) := by decide +kernel
theorem d_Terms_levelOf_4 : decode b_Terms_levelOf 4 = .ok (.bipush 6, 2) := by decide +kernel
theorem d_Terms_levelOf_6 : decode b_Terms_levelOf 6 = .ok (.iload_n 1, 1) := by decide +kernel
theorem d_Terms_levelOf_7 : decode b_Terms_levelOf 7 = .ok (.imul, 1) := by decide +kernel
theorem d_Terms_levelOf_8 : decode b_Terms_levelOf 8 = .ok (.iconst 4, 1) := by decide +kernel
theorem d_Terms_levelOf_9 : decode b_Terms_levelOf 9 = .ok (.iadd, 1) := by decide +kernel
theorem d_Terms_levelOf_10 : decode b_Terms_levelOf 10 = .ok (.iaload, 1) := by decide +kernel
theorem d_Terms_levelOf_11 : decode b_Terms_levelOf 11 = .ok (.ireturn, 1) := by decide +kernel
set_option maxHeartbeats 4000000 in
set_option maxRecDepth 100000 in
theorem g_Terms_levelOf (l : Launch) (D : va_G) (cI cB cZ cS : ClassId) (sz : Nat) (h0 : Nat) (q : Nat) (n : Nat) (f : Nat → Int32) (g0 : Value) (g1 : Value) (g3 : Value) (g4 : Value) (g5 : Value) (g6 : Value) (g7 : Value) (g8 : Value) (x : Nat) (hx9 : 6 * x + 4 < n) (hN : n ≤ 33554432) : Met l y_Terms_levelOf (zc y_Terms_levelOf b_Terms_levelOf 2 (some .int)) ({ frames := 0, cells := 0, slots := 0, locals := 0 }) (zPc D (zty cI cB cZ cS) [(h0, .inr (4, [g0, g1, .ref q, g3, g4, g5, g6, g7, g8])), (q, .inl (cI, n, .inl f))] sz [.ref h0, .int (nI x)]) (va_Qi (fun (r : Int32) (_ : Unit) => r = (f (6 * x + 4))) (fun _ t => va_P D zcl [(h0, .inr (4, [g0, g1, .ref q, g3, g4, g5, g6, g7, g8])), (q, .inl (cI, n, .inl f))] t.heap ∧ va_D (va_A [(h0, .inr (4, [g0, g1, .ref q, g3, g4, g5, g6, g7, g8])), (q, .inl (cI, n, .inl f))] sz) [(h0, .inr (4, [g0, g1, .ref q, g3, g4, g5, g6, g7, g8])), (q, .inl (cI, n, .inl f))]) (va_A [(h0, .inr (4, [g0, g1, .ref q, g3, g4, g5, g6, g7, g8])), (q, .inl (cI, n, .inl f))] sz)) 0 0 (va_A [(h0, .inr (4, [g0, g1, .ref q, g3, g4, g5, g6, g7, g8])), (q, .inl (cI, n, .inl f))] sz) := by
  refine Met.ofW (cc := b_Terms_levelOf) (maxL := 2) (ret := (some .int)) (by decide) rfl ?_
  intro p e s m args below meth c s₁ B hml hv
  obtain ⟨rfl, hsz, hP, ⟨hK, hN⟩, hD0⟩ := hv
  have hx := B.exec
  have hb := B.bytes
  have hr := B.returns
  have hts0 := atoms_spec (ws := zc y_Terms_levelOf b_Terms_levelOf 2 (some .int)) B.pre
  have hts : ∀ w ∈ zw, w.before _ s = true := fun w hw => hts0 w (List.mem_cons_of_mem _ hw)
  have hown : s.vm.findClass "ProofDesk$Terms" = some m.cls := findClass_of_methodNamed B.named
  have hlocks := B.notSynchronized
  subst hsz
  have hD := hD0.self (sz := s.heap.size)
  generalize hAe : va_A [(h0, .inr (4, [g0, g1, .ref q, g3, g4, g5, g6, g7, g8])), (q, .inl (cI, n, .inl f))] s.heap.size = A at hD ⊢
  have hA : ∀ q : Nat, s.heap.size ≤ q → A q := fun q h => by rw [← hAe]; exact Or.inr h
  have hS : va_S A s.heap s.heap [] := va_S.rf
  have hP : va_P D zcl [(h0, .inr (4, [g0, g1, .ref q, g3, g4, g5, g6, g7, g8])), (q, .inl (cI, n, .inl f))] s.heap := hP
  have hl := lv_entry ([.ref h0, .int (nI x)]) (n := 2) (Nat.le_of_ble_eq_true rfl)
  rw [lg_entry_eq]
  generalize (lg_sl ([.ref h0, .int (nI x)]) ++ List.replicate (2 - (lg_sl ([.ref h0, .int (nI x)])).length) Slot.unset).toArray = ls at hl ⊢
  have hl : lv_has ls 2 [(0, .ref h0), (1, .int (nI x))] := hl
  refine lv_aload_n hx hb d_Terms_levelOf_0 rfl (lv_at hl 0 rfl) ?_
  refine va_get (D := D) (ci := 4) (v := .ref q) (C := "ProofDesk$Terms") (T := F_Terms) (N := 9) hx hb hts in_Terms hown hK hP 0 rfl rfl 2 (by decide) (hts _ kw_177) (fun _ h9 => h9) rfl d_Terms_levelOf_1 ?_
  refine lv_bipush (v := 6) hx hb d_Terms_levelOf_4 (by decide) ?_
  refine lv_iload_n hx hb d_Terms_levelOf_6 rfl (lv_at hl 1 rfl) ?_
  refine lv_imul hx hb d_Terms_levelOf_7 ?_
  refine zz_i (y := nI (6 * x)) (pk_mul 6 x) ?_
  refine lv_iconst (v := 4) hx hb d_Terms_levelOf_8 (by decide) ?_
  refine lv_iadd hx hb d_Terms_levelOf_9 ?_
  refine zz_i (y := nI (6 * x + 4)) (nI_add (6 * x) 4) ?_
  refine zz_iald (v := (f (6 * x + 4))) hx hb hK hP 1 0 rfl rfl (i := (nI (6 * x + 4))) (6 * x + 4) (zix_nI (by omega) (by omega)) (rfl) d_Terms_levelOf_10 ?_
  have hP9 := hP.sub (ws' := [(h0, .inr (4, [g0, g1, .ref q, g3, g4, g5, g6, g7, g8])), (q, .inl (cI, n, .inl f))]) [0, 1] rfl
  have hD9 := hD.sub (ws' := [(h0, .inr (4, [g0, g1, .ref q, g3, g4, g5, g6, g7, g8])), (q, .inl (cI, n, .inl f))]) [0, 1] (by decide +kernel) rfl
  refine W.widen (k := 0) (n := 0) (by omega) (by omega) ?_
  exact W.iret (v := (f (6 * x + 4))) hx hb hr (fun t ht hW => ⟨⟨(f (6 * x + 4)), (), rfl, rfl, by rw [ht]; exact hP9, hD9⟩, hS.F ht⟩) hS.2.2 d_Terms_levelOf_11
abbrev b_Terms_setType : ByteArray := prog_11_method_22_code
abbrev y_Terms_setType : MethodName := ⟨"ProofDesk$Terms", "setType", "(II)V"⟩
theorem d_Terms_setType_0 : decode b_Terms_setType 0 = .ok (.aload_n 0, 1) := by decide +kernel
theorem d_Terms_setType_1 : decode b_Terms_setType 1 = .ok (.getfield 15, 3) := by decide +kernel
theorem d_Terms_setType_4 : decode b_Terms_setType 4 = .ok (.bipush 6, 2) := by decide +kernel
theorem d_Terms_setType_6 : decode b_Terms_setType 6 = .ok (.iload_n 1, 1) := by decide +kernel
theorem d_Terms_setType_7 : decode b_Terms_setType 7 = .ok (.imul, 1) := by decide +kernel
theorem d_Terms_setType_8 : decode b_Terms_setType 8 = .ok (.iconst 1, 1) := by decide +kernel
theorem d_Terms_setType_9 : decode b_Terms_setType 9 = .ok (.iadd, 1) := by decide +kernel
theorem d_Terms_setType_10 : decode b_Terms_setType 10 = .ok (.iload_n 2, 1) := by decide +kernel
theorem d_Terms_setType_11 : decode b_Terms_setType 11 = .ok (.iastore, 1) := by decide +kernel
theorem d_Terms_setType_12 : decode b_Terms_setType 12 = .ok (.return_, 1) := by decide +kernel
set_option maxHeartbeats 4000000 in
set_option maxRecDepth 100000 in
theorem g_Terms_setType (l : Launch) (D : va_G) (cI cB cZ cS : ClassId) (sz : Nat) (h0 : Nat) (q : Nat) (n : Nat) (f : Nat → Int32) (g0 : Value) (g1 : Value) (g3 : Value) (g4 : Value) (g5 : Value) (g6 : Value) (g7 : Value) (g8 : Value) (x : Nat) (v : Int32) (hx9 : 6 * x + 1 < n) (hN : n ≤ 33554432) : Met l y_Terms_setType (zc y_Terms_setType b_Terms_setType 3 none) ({ frames := 0, cells := 0, slots := 0, locals := 0 }) (zPc D (zty cI cB cZ cS) [(h0, .inr (4, [g0, g1, .ref q, g3, g4, g5, g6, g7, g8])), (q, .inl (cI, n, .inl f))] sz [.ref h0, .int (nI x), .int v]) (va_Qv (fun _ : Unit => True) (fun _ t => va_P D zcl [(h0, .inr (4, [g0, g1, .ref q, g3, g4, g5, g6, g7, g8])), (q, .inl (cI, n, .inl (upd f (6 * x + 1) v)))] t.heap ∧ va_D (va_A [(h0, .inr (4, [g0, g1, .ref q, g3, g4, g5, g6, g7, g8])), (q, .inl (cI, n, .inl f))] sz) [(h0, .inr (4, [g0, g1, .ref q, g3, g4, g5, g6, g7, g8])), (q, .inl (cI, n, .inl (upd f (6 * x + 1) v)))]) (va_A [(h0, .inr (4, [g0, g1, .ref q, g3, g4, g5, g6, g7, g8])), (q, .inl (cI, n, .inl f))] sz)) 0 0 (va_A [(h0, .inr (4, [g0, g1, .ref q, g3, g4, g5, g6, g7, g8])), (q, .inl (cI, n, .inl f))] sz) := by
  refine Met.ofW (cc := b_Terms_setType) (maxL := 3) (ret := none) (by decide) rfl ?_
  intro p e s m args below meth c s₁ B hml hv
  obtain ⟨rfl, hsz, hP, ⟨hK, hN⟩, hD0⟩ := hv
  have hx := B.exec
  have hb := B.bytes
  have hr := B.returns
  have hts0 := atoms_spec (ws := zc y_Terms_setType b_Terms_setType 3 none) B.pre
  have hts : ∀ w ∈ zw, w.before _ s = true := fun w hw => hts0 w (List.mem_cons_of_mem _ hw)
  have hown : s.vm.findClass "ProofDesk$Terms" = some m.cls := findClass_of_methodNamed B.named
  have hlocks := B.notSynchronized
  subst hsz
  have hD := hD0.self (sz := s.heap.size)
  generalize hAe : va_A [(h0, .inr (4, [g0, g1, .ref q, g3, g4, g5, g6, g7, g8])), (q, .inl (cI, n, .inl f))] s.heap.size = A at hD ⊢
  have hA : ∀ q : Nat, s.heap.size ≤ q → A q := fun q h => by rw [← hAe]; exact Or.inr h
  have hS : va_S A s.heap s.heap [] := va_S.rf
  have hP : va_P D zcl [(h0, .inr (4, [g0, g1, .ref q, g3, g4, g5, g6, g7, g8])), (q, .inl (cI, n, .inl f))] s.heap := hP
  have hl := lv_entry ([.ref h0, .int (nI x), .int v]) (n := 3) (Nat.le_of_ble_eq_true rfl)
  rw [lg_entry_eq]
  generalize (lg_sl ([.ref h0, .int (nI x), .int v]) ++ List.replicate (3 - (lg_sl ([.ref h0, .int (nI x), .int v])).length) Slot.unset).toArray = ls at hl ⊢
  have hl : lv_has ls 3 [(0, .ref h0), (1, .int (nI x)), (2, .int v)] := hl
  refine lv_aload_n hx hb d_Terms_setType_0 rfl (lv_at hl 0 rfl) ?_
  refine va_get (D := D) (ci := 4) (v := .ref q) (C := "ProofDesk$Terms") (T := F_Terms) (N := 9) hx hb hts in_Terms hown hK hP 0 rfl rfl 2 (by decide) (hts _ kw_177) (fun _ h9 => h9) rfl d_Terms_setType_1 ?_
  refine lv_bipush (v := 6) hx hb d_Terms_setType_4 (by decide) ?_
  refine lv_iload_n hx hb d_Terms_setType_6 rfl (lv_at hl 1 rfl) ?_
  refine lv_imul hx hb d_Terms_setType_7 ?_
  refine zz_i (y := nI (6 * x)) (pk_mul 6 x) ?_
  refine lv_iconst (v := 1) hx hb d_Terms_setType_8 (by decide) ?_
  refine lv_iadd hx hb d_Terms_setType_9 ?_
  refine zz_i (y := nI (6 * x + 1)) (nI_add (6 * x) 1) ?_
  refine lv_iload_n hx hb d_Terms_setType_10 rfl (lv_at hl 2 rfl) ?_
  refine zz_iast hx hb hK hP hD hS 1 0 rfl rfl (i := (nI (6 * x + 1))) (x := v) (6 * x + 1) (zix_nI (by omega) (by omega)) d_Terms_setType_11 (fun H locs hP hD hS => ?_)
  have hP : va_P D zcl [(h0, .inr (4, [g0, g1, .ref q, g3, g4, g5, g6, g7, g8])), (q, .inl (cI, n, .inl (upd f (6 * x + 1) v)))] H := hP
  have hD : va_D A [(h0, .inr (4, [g0, g1, .ref q, g3, g4, g5, g6, g7, g8])), (q, .inl (cI, n, .inl (upd f (6 * x + 1) v)))] := hD
  have hP9 := hP.sub (ws' := [(h0, .inr (4, [g0, g1, .ref q, g3, g4, g5, g6, g7, g8])), (q, .inl (cI, n, .inl (upd f (6 * x + 1) v)))]) [0, 1] rfl
  have hD9 := hD.sub (ws' := [(h0, .inr (4, [g0, g1, .ref q, g3, g4, g5, g6, g7, g8])), (q, .inl (cI, n, .inl (upd f (6 * x + 1) v)))]) [0, 1] (by decide +kernel) rfl
  refine W.widen (k := 0) (n := 0) (by omega) (by omega) ?_
  exact W.vret hx hb hr (fun t ht hW => ⟨⟨(), rfl, trivial, by rw [ht]; exact hP9, hD9⟩, hS.F ht⟩) hS.2.2 d_Terms_setType_12
abbrev b_Terms_setValue : ByteArray := prog_11_method_24_code
abbrev y_Terms_setValue : MethodName := ⟨"ProofDesk$Terms", "setValue", "(II)V"⟩
theorem d_Terms_setValue_0 : decode b_Terms_setValue 0 = .ok (.aload_n 0, 1) := by decide +kernel
theorem d_Terms_setValue_1 : decode b_Terms_setValue 1 = .ok (.getfield 15, 3) := by decide +kernel
theorem d_Terms_setValue_4 : decode b_Terms_setValue 4 = .ok (.bipush 6, 2) := by decide +kernel
theorem d_Terms_setValue_6 : decode b_Terms_setValue 6 = .ok (.iload_n 1, 1) := by decide +kernel
theorem d_Terms_setValue_7 : decode b_Terms_setValue 7 = .ok (.imul, 1) := by decide +kernel
theorem d_Terms_setValue_8 : decode b_Terms_setValue 8 = .ok (.iconst 2, 1) := by decide +kernel
theorem d_Terms_setValue_9 : decode b_Terms_setValue 9 = .ok (.iadd, 1) := by decide +kernel
theorem d_Terms_setValue_10 : decode b_Terms_setValue 10 = .ok (.iload_n 2, 1) := by decide +kernel
theorem d_Terms_setValue_11 : decode b_Terms_setValue 11 = .ok (.iastore, 1) := by decide +kernel
theorem d_Terms_setValue_12 : decode b_Terms_setValue 12 = .ok (.return_, 1) := by decide +kernel
set_option maxHeartbeats 4000000 in
set_option maxRecDepth 100000 in
theorem g_Terms_setValue (l : Launch) (D : va_G) (cI cB cZ cS : ClassId) (sz : Nat) (h0 : Nat) (q : Nat) (n : Nat) (f : Nat → Int32) (g0 : Value) (g1 : Value) (g3 : Value) (g4 : Value) (g5 : Value) (g6 : Value) (g7 : Value) (g8 : Value) (x : Nat) (v : Int32) (hx9 : 6 * x + 2 < n) (hN : n ≤ 33554432) : Met l y_Terms_setValue (zc y_Terms_setValue b_Terms_setValue 3 none) ({ frames := 0, cells := 0, slots := 0, locals := 0 }) (zPc D (zty cI cB cZ cS) [(h0, .inr (4, [g0, g1, .ref q, g3, g4, g5, g6, g7, g8])), (q, .inl (cI, n, .inl f))] sz [.ref h0, .int (nI x), .int v]) (va_Qv (fun _ : Unit => True) (fun _ t => va_P D zcl [(h0, .inr (4, [g0, g1, .ref q, g3, g4, g5, g6, g7, g8])), (q, .inl (cI, n, .inl (upd f (6 * x + 2) v)))] t.heap ∧ va_D (va_A [(h0, .inr (4, [g0, g1, .ref q, g3, g4, g5, g6, g7, g8])), (q, .inl (cI, n, .inl f))] sz) [(h0, .inr (4, [g0, g1, .ref q, g3, g4, g5, g6, g7, g8])), (q, .inl (cI, n, .inl (upd f (6 * x + 2) v)))]) (va_A [(h0, .inr (4, [g0, g1, .ref q, g3, g4, g5, g6, g7, g8])), (q, .inl (cI, n, .inl f))] sz)) 0 0 (va_A [(h0, .inr (4, [g0, g1, .ref q, g3, g4, g5, g6, g7, g8])), (q, .inl (cI, n, .inl f))] sz) := by
  refine Met.ofW (cc := b_Terms_setValue) (maxL := 3) (ret := none) (by decide) rfl ?_
  intro p e s m args below meth c s₁ B hml hv
  obtain ⟨rfl, hsz, hP, ⟨hK, hN⟩, hD0⟩ := hv
  have hx := B.exec
  have hb := B.bytes
  have hr := B.returns
  have hts0 := atoms_spec (ws := zc y_Terms_setValue b_Terms_setValue 3 none) B.pre
  have hts : ∀ w ∈ zw, w.before _ s = true := fun w hw => hts0 w (List.mem_cons_of_mem _ hw)
  have hown : s.vm.findClass "ProofDesk$Terms" = some m.cls := findClass_of_methodNamed B.named
  have hlocks := B.notSynchronized
  subst hsz
  have hD := hD0.self (sz := s.heap.size)
  generalize hAe : va_A [(h0, .inr (4, [g0, g1, .ref q, g3, g4, g5, g6, g7, g8])), (q, .inl (cI, n, .inl f))] s.heap.size = A at hD ⊢
  have hA : ∀ q : Nat, s.heap.size ≤ q → A q := fun q h => by rw [← hAe]; exact Or.inr h
  have hS : va_S A s.heap s.heap [] := va_S.rf
  have hP : va_P D zcl [(h0, .inr (4, [g0, g1, .ref q, g3, g4, g5, g6, g7, g8])), (q, .inl (cI, n, .inl f))] s.heap := hP
  have hl := lv_entry ([.ref h0, .int (nI x), .int v]) (n := 3) (Nat.le_of_ble_eq_true rfl)
  rw [lg_entry_eq]
  generalize (lg_sl ([.ref h0, .int (nI x), .int v]) ++ List.replicate (3 - (lg_sl ([.ref h0, .int (nI x), .int v])).length) Slot.unset).toArray = ls at hl ⊢
  have hl : lv_has ls 3 [(0, .ref h0), (1, .int (nI x)), (2, .int v)] := hl
  refine lv_aload_n hx hb d_Terms_setValue_0 rfl (lv_at hl 0 rfl) ?_
  refine va_get (D := D) (ci := 4) (v := .ref q) (C := "ProofDesk$Terms") (T := F_Terms) (N := 9) hx hb hts in_Terms hown hK hP 0 rfl rfl 2 (by decide) (hts _ kw_177) (fun _ h9 => h9) rfl d_Terms_setValue_1 ?_
  refine lv_bipush (v := 6) hx hb d_Terms_setValue_4 (by decide) ?_
  refine lv_iload_n hx hb d_Terms_setValue_6 rfl (lv_at hl 1 rfl) ?_
  refine lv_imul hx hb d_Terms_setValue_7 ?_
  refine zz_i (y := nI (6 * x)) (pk_mul 6 x) ?_
  refine lv_iconst (v := 2) hx hb d_Terms_setValue_8 (by decide) ?_
  refine lv_iadd hx hb d_Terms_setValue_9 ?_
  refine zz_i (y := nI (6 * x + 2)) (nI_add (6 * x) 2) ?_
  refine lv_iload_n hx hb d_Terms_setValue_10 rfl (lv_at hl 2 rfl) ?_
  refine zz_iast hx hb hK hP hD hS 1 0 rfl rfl (i := (nI (6 * x + 2))) (x := v) (6 * x + 2) (zix_nI (by omega) (by omega)) d_Terms_setValue_11 (fun H locs hP hD hS => ?_)
  have hP : va_P D zcl [(h0, .inr (4, [g0, g1, .ref q, g3, g4, g5, g6, g7, g8])), (q, .inl (cI, n, .inl (upd f (6 * x + 2) v)))] H := hP
  have hD : va_D A [(h0, .inr (4, [g0, g1, .ref q, g3, g4, g5, g6, g7, g8])), (q, .inl (cI, n, .inl (upd f (6 * x + 2) v)))] := hD
  have hP9 := hP.sub (ws' := [(h0, .inr (4, [g0, g1, .ref q, g3, g4, g5, g6, g7, g8])), (q, .inl (cI, n, .inl (upd f (6 * x + 2) v)))]) [0, 1] rfl
  have hD9 := hD.sub (ws' := [(h0, .inr (4, [g0, g1, .ref q, g3, g4, g5, g6, g7, g8])), (q, .inl (cI, n, .inl (upd f (6 * x + 2) v)))]) [0, 1] (by decide +kernel) rfl
  refine W.widen (k := 0) (n := 0) (by omega) (by omega) ?_
  exact W.vret hx hb hr (fun t ht hW => ⟨⟨(), rfl, trivial, by rw [ht]; exact hP9, hD9⟩, hS.F ht⟩) hS.2.2 d_Terms_setValue_12
abbrev b_Terms_setTwin : ByteArray := prog_11_method_26_code
abbrev y_Terms_setTwin : MethodName := ⟨"ProofDesk$Terms", "setTwin", "(II)V"⟩
theorem d_Terms_setTwin_0 : decode b_Terms_setTwin 0 = .ok (.aload_n 0, 1) := by decide +kernel
theorem d_Terms_setTwin_1 : decode b_Terms_setTwin 1 = .ok (.getfield 15, 3) := by decide +kernel
theorem d_Terms_setTwin_4 : decode b_Terms_setTwin 4 = .ok (.bipush 6, 2) := by decide +kernel
theorem d_Terms_setTwin_6 : decode b_Terms_setTwin 6 = .ok (.iload_n 1, 1) := by decide +kernel
theorem d_Terms_setTwin_7 : decode b_Terms_setTwin 7 = .ok (.imul, 1) := by decide +kernel
theorem d_Terms_setTwin_8 : decode b_Terms_setTwin 8 = .ok (.iconst 3, 1) := by decide +kernel
theorem d_Terms_setTwin_9 : decode b_Terms_setTwin 9 = .ok (.iadd, 1) := by decide +kernel
theorem d_Terms_setTwin_10 : decode b_Terms_setTwin 10 = .ok (.iload_n 2, 1) := by decide +kernel
theorem d_Terms_setTwin_11 : decode b_Terms_setTwin 11 = .ok (.iastore, 1) := by decide +kernel
theorem d_Terms_setTwin_12 : decode b_Terms_setTwin 12 = .ok (.return_, 1) := by decide +kernel
set_option maxHeartbeats 4000000 in
set_option maxRecDepth 100000 in
theorem g_Terms_setTwin (l : Launch) (D : va_G) (cI cB cZ cS : ClassId) (sz : Nat) (h0 : Nat) (q : Nat) (n : Nat) (f : Nat → Int32) (g0 : Value) (g1 : Value) (g3 : Value) (g4 : Value) (g5 : Value) (g6 : Value) (g7 : Value) (g8 : Value) (x : Nat) (v : Int32) (hx9 : 6 * x + 3 < n) (hN : n ≤ 33554432) : Met l y_Terms_setTwin (zc y_Terms_setTwin b_Terms_setTwin 3 none) ({ frames := 0, cells := 0, slots := 0, locals := 0 }) (zPc D (zty cI cB cZ cS) [(h0, .inr (4, [g0, g1, .ref q, g3, g4, g5, g6, g7, g8])), (q, .inl (cI, n, .inl f))] sz [.ref h0, .int (nI x), .int v]) (va_Qv (fun _ : Unit => True) (fun _ t => va_P D zcl [(h0, .inr (4, [g0, g1, .ref q, g3, g4, g5, g6, g7, g8])), (q, .inl (cI, n, .inl (upd f (6 * x + 3) v)))] t.heap ∧ va_D (va_A [(h0, .inr (4, [g0, g1, .ref q, g3, g4, g5, g6, g7, g8])), (q, .inl (cI, n, .inl f))] sz) [(h0, .inr (4, [g0, g1, .ref q, g3, g4, g5, g6, g7, g8])), (q, .inl (cI, n, .inl (upd f (6 * x + 3) v)))]) (va_A [(h0, .inr (4, [g0, g1, .ref q, g3, g4, g5, g6, g7, g8])), (q, .inl (cI, n, .inl f))] sz)) 0 0 (va_A [(h0, .inr (4, [g0, g1, .ref q, g3, g4, g5, g6, g7, g8])), (q, .inl (cI, n, .inl f))] sz) := by
  refine Met.ofW (cc := b_Terms_setTwin) (maxL := 3) (ret := none) (by decide) rfl ?_
  intro p e s m args below meth c s₁ B hml hv
  obtain ⟨rfl, hsz, hP, ⟨hK, hN⟩, hD0⟩ := hv
  have hx := B.exec
  have hb := B.bytes
  have hr := B.returns
  have hts0 := atoms_spec (ws := zc y_Terms_setTwin b_Terms_setTwin 3 none) B.pre
  have hts : ∀ w ∈ zw, w.before _ s = true := fun w hw => hts0 w (List.mem_cons_of_mem _ hw)
  have hown : s.vm.findClass "ProofDesk$Terms" = some m.cls := findClass_of_methodNamed B.named
  have hlocks := B.notSynchronized
  subst hsz
  have hD := hD0.self (sz := s.heap.size)
  generalize hAe : va_A [(h0, .inr (4, [g0, g1, .ref q, g3, g4, g5, g6, g7, g8])), (q, .inl (cI, n, .inl f))] s.heap.size = A at hD ⊢
  have hA : ∀ q : Nat, s.heap.size ≤ q → A q := fun q h => by rw [← hAe]; exact Or.inr h
  have hS : va_S A s.heap s.heap [] := va_S.rf
  have hP : va_P D zcl [(h0, .inr (4, [g0, g1, .ref q, g3, g4, g5, g6, g7, g8])), (q, .inl (cI, n, .inl f))] s.heap := hP
  have hl := lv_entry ([.ref h0, .int (nI x), .int v]) (n := 3) (Nat.le_of_ble_eq_true rfl)
  rw [lg_entry_eq]
  generalize (lg_sl ([.ref h0, .int (nI x), .int v]) ++ List.replicate (3 - (lg_sl ([.ref h0, .int (nI x), .int v])).length) Slot.unset).toArray = ls at hl ⊢
  have hl : lv_has ls 3 [(0, .ref h0), (1, .int (nI x)), (2, .int v)] := hl
  refine lv_aload_n hx hb d_Terms_setTwin_0 rfl (lv_at hl 0 rfl) ?_
  refine va_get (D := D) (ci := 4) (v := .ref q) (C := "ProofDesk$Terms") (T := F_Terms) (N := 9) hx hb hts in_Terms hown hK hP 0 rfl rfl 2 (by decide) (hts _ kw_177) (fun _ h9 => h9) rfl d_Terms_setTwin_1 ?_
  refine lv_bipush (v := 6) hx hb d_Terms_setTwin_4 (by decide) ?_
  refine lv_iload_n hx hb d_Terms_setTwin_6 rfl (lv_at hl 1 rfl) ?_
  refine lv_imul hx hb d_Terms_setTwin_7 ?_
  refine zz_i (y := nI (6 * x)) (pk_mul 6 x) ?_
  refine lv_iconst (v := 3) hx hb d_Terms_setTwin_8 (by decide) ?_
  refine lv_iadd hx hb d_Terms_setTwin_9 ?_
  refine zz_i (y := nI (6 * x + 3)) (nI_add (6 * x) 3) ?_
  refine lv_iload_n hx hb d_Terms_setTwin_10 rfl (lv_at hl 2 rfl) ?_
  refine zz_iast hx hb hK hP hD hS 1 0 rfl rfl (i := (nI (6 * x + 3))) (x := v) (6 * x + 3) (zix_nI (by omega) (by omega)) d_Terms_setTwin_11 (fun H locs hP hD hS => ?_)
  have hP : va_P D zcl [(h0, .inr (4, [g0, g1, .ref q, g3, g4, g5, g6, g7, g8])), (q, .inl (cI, n, .inl (upd f (6 * x + 3) v)))] H := hP
  have hD : va_D A [(h0, .inr (4, [g0, g1, .ref q, g3, g4, g5, g6, g7, g8])), (q, .inl (cI, n, .inl (upd f (6 * x + 3) v)))] := hD
  have hP9 := hP.sub (ws' := [(h0, .inr (4, [g0, g1, .ref q, g3, g4, g5, g6, g7, g8])), (q, .inl (cI, n, .inl (upd f (6 * x + 3) v)))]) [0, 1] rfl
  have hD9 := hD.sub (ws' := [(h0, .inr (4, [g0, g1, .ref q, g3, g4, g5, g6, g7, g8])), (q, .inl (cI, n, .inl (upd f (6 * x + 3) v)))]) [0, 1] (by decide +kernel) rfl
  refine W.widen (k := 0) (n := 0) (by omega) (by omega) ?_
  exact W.vret hx hb hr (fun t ht hW => ⟨⟨(), rfl, trivial, by rw [ht]; exact hP9, hD9⟩, hS.F ht⟩) hS.2.2 d_Terms_setTwin_12
abbrev b_Terms_setLevel : ByteArray := prog_11_method_28_code
abbrev y_Terms_setLevel : MethodName := ⟨"ProofDesk$Terms", "setLevel", "(II)V"⟩
theorem d_Terms_setLevel_0 : decode b_Terms_setLevel 0 = .ok (.aload_n 0, 1) := by decide +kernel
theorem d_Terms_setLevel_1 : decode b_Terms_setLevel 1 = .ok (.getfield 15, 3) := by decide +kernel
theorem d_Terms_setLevel_4 : decode b_Terms_setLevel 4 = .ok (.bipush 6, 2) := by decide +kernel
theorem d_Terms_setLevel_6 : decode b_Terms_setLevel 6 = .ok (.iload_n 1, 1) := by decide +kernel
theorem d_Terms_setLevel_7 : decode b_Terms_setLevel 7 = .ok (.imul, 1) := by decide +kernel
theorem d_Terms_setLevel_8 : decode b_Terms_setLevel 8 = .ok (.iconst 4, 1) := by decide +kernel
theorem d_Terms_setLevel_9 : decode b_Terms_setLevel 9 = .ok (.iadd, 1) := by decide +kernel
theorem d_Terms_setLevel_10 : decode b_Terms_setLevel 10 = .ok (.iload_n 2, 1) := by decide +kernel
theorem d_Terms_setLevel_11 : decode b_Terms_setLevel 11 = .ok (.iastore, 1) := by decide +kernel
theorem d_Terms_setLevel_12 : decode b_Terms_setLevel 12 = .ok (.return_, 1) := by decide +kernel
set_option maxHeartbeats 4000000 in
set_option maxRecDepth 100000 in
theorem g_Terms_setLevel (l : Launch) (D : va_G) (cI cB cZ cS : ClassId) (sz : Nat) (h0 : Nat) (q : Nat) (n : Nat) (f : Nat → Int32) (g0 : Value) (g1 : Value) (g3 : Value) (g4 : Value) (g5 : Value) (g6 : Value) (g7 : Value) (g8 : Value) (x : Nat) (v : Int32) (hx9 : 6 * x + 4 < n) (hN : n ≤ 33554432) : Met l y_Terms_setLevel (zc y_Terms_setLevel b_Terms_setLevel 3 none) ({ frames := 0, cells := 0, slots := 0, locals := 0 }) (zPc D (zty cI cB cZ cS) [(h0, .inr (4, [g0, g1, .ref q, g3, g4, g5, g6, g7, g8])), (q, .inl (cI, n, .inl f))] sz [.ref h0, .int (nI x), .int v]) (va_Qv (fun _ : Unit => True) (fun _ t => va_P D zcl [(h0, .inr (4, [g0, g1, .ref q, g3, g4, g5, g6, g7, g8])), (q, .inl (cI, n, .inl (upd f (6 * x + 4) v)))] t.heap ∧ va_D (va_A [(h0, .inr (4, [g0, g1, .ref q, g3, g4, g5, g6, g7, g8])), (q, .inl (cI, n, .inl f))] sz) [(h0, .inr (4, [g0, g1, .ref q, g3, g4, g5, g6, g7, g8])), (q, .inl (cI, n, .inl (upd f (6 * x + 4) v)))]) (va_A [(h0, .inr (4, [g0, g1, .ref q, g3, g4, g5, g6, g7, g8])), (q, .inl (cI, n, .inl f))] sz)) 0 0 (va_A [(h0, .inr (4, [g0, g1, .ref q, g3, g4, g5, g6, g7, g8])), (q, .inl (cI, n, .inl f))] sz) := by
  refine Met.ofW (cc := b_Terms_setLevel) (maxL := 3) (ret := none) (by decide) rfl ?_
  intro p e s m args below meth c s₁ B hml hv
  obtain ⟨rfl, hsz, hP, ⟨hK, hN⟩, hD0⟩ := hv
  have hx := B.exec
  have hb := B.bytes
  have hr := B.returns
  have hts0 := atoms_spec (ws := zc y_Terms_setLevel b_Terms_setLevel 3 none) B.pre
  have hts : ∀ w ∈ zw, w.before _ s = true := fun w hw => hts0 w (List.mem_cons_of_mem _ hw)
  have hown : s.vm.findClass "ProofDesk$Terms" = some m.cls := findClass_of_methodNamed B.named
  have hlocks := B.notSynchronized
  subst hsz
  have hD := hD0.self (sz := s.heap.size)
  generalize hAe : va_A [(h0, .inr (4, [g0, g1, .ref q, g3, g4, g5, g6, g7, g8])), (q, .inl (cI, n, .inl f))] s.heap.size = A at hD ⊢
  have hA : ∀ q : Nat, s.heap.size ≤ q → A q := fun q h => by rw [← hAe]; exact Or.inr h
  have hS : va_S A s.heap s.heap [] := va_S.rf
  have hP : va_P D zcl [(h0, .inr (4, [g0, g1, .ref q, g3, g4, g5, g6, g7, g8])), (q, .inl (cI, n, .inl f))] s.heap := hP
  have hl := lv_entry ([.ref h0, .int (nI x), .int v]) (n := 3) (Nat.le_of_ble_eq_true rfl)
  rw [lg_entry_eq]
  generalize (lg_sl ([.ref h0, .int (nI x), .int v]) ++ List.replicate (3 - (lg_sl ([.ref h0, .int (nI x), .int v])).length) Slot.unset).toArray = ls at hl ⊢
  have hl : lv_has ls 3 [(0, .ref h0), (1, .int (nI x)), (2, .int v)] := hl
  refine lv_aload_n hx hb d_Terms_setLevel_0 rfl (lv_at hl 0 rfl) ?_
  refine va_get (D := D) (ci := 4) (v := .ref q) (C := "ProofDesk$Terms") (T := F_Terms) (N := 9) hx hb hts in_Terms hown hK hP 0 rfl rfl 2 (by decide) (hts _ kw_177) (fun _ h9 => h9) rfl d_Terms_setLevel_1 ?_
  refine lv_bipush (v := 6) hx hb d_Terms_setLevel_4 (by decide) ?_
  refine lv_iload_n hx hb d_Terms_setLevel_6 rfl (lv_at hl 1 rfl) ?_
  refine lv_imul hx hb d_Terms_setLevel_7 ?_
  refine zz_i (y := nI (6 * x)) (pk_mul 6 x) ?_
  refine lv_iconst (v := 4) hx hb d_Terms_setLevel_8 (by decide) ?_
  refine lv_iadd hx hb d_Terms_setLevel_9 ?_
  refine zz_i (y := nI (6 * x + 4)) (nI_add (6 * x) 4) ?_
  refine lv_iload_n hx hb d_Terms_setLevel_10 rfl (lv_at hl 2 rfl) ?_
  refine zz_iast hx hb hK hP hD hS 1 0 rfl rfl (i := (nI (6 * x + 4))) (x := v) (6 * x + 4) (zix_nI (by omega) (by omega)) d_Terms_setLevel_11 (fun H locs hP hD hS => ?_)
  have hP : va_P D zcl [(h0, .inr (4, [g0, g1, .ref q, g3, g4, g5, g6, g7, g8])), (q, .inl (cI, n, .inl (upd f (6 * x + 4) v)))] H := hP
  have hD : va_D A [(h0, .inr (4, [g0, g1, .ref q, g3, g4, g5, g6, g7, g8])), (q, .inl (cI, n, .inl (upd f (6 * x + 4) v)))] := hD
  have hP9 := hP.sub (ws' := [(h0, .inr (4, [g0, g1, .ref q, g3, g4, g5, g6, g7, g8])), (q, .inl (cI, n, .inl (upd f (6 * x + 4) v)))]) [0, 1] rfl
  have hD9 := hD.sub (ws' := [(h0, .inr (4, [g0, g1, .ref q, g3, g4, g5, g6, g7, g8])), (q, .inl (cI, n, .inl (upd f (6 * x + 4) v)))]) [0, 1] (by decide +kernel) rfl
  refine W.widen (k := 0) (n := 0) (by omega) (by omega) ?_
  exact W.vret hx hb hr (fun t ht hW => ⟨⟨(), rfl, trivial, by rw [ht]; exact hP9, hD9⟩, hS.F ht⟩) hS.2.2 d_Terms_setLevel_12
abbrev b_Terms_drop : ByteArray := prog_11_method_34_code
abbrev y_Terms_drop : MethodName := ⟨"ProofDesk$Terms", "drop", "()V"⟩
theorem d_Terms_drop_0 : decode b_Terms_drop 0 = .ok (.aload_n 0, 1) := by decide +kernel
theorem d_Terms_drop_1 : decode b_Terms_drop 1 = .ok (.aload_n 0, 1) := by decide +kernel
theorem d_Terms_drop_2 : decode b_Terms_drop 2 = .ok (.getfield 72, 3) := by decide +kernel
theorem kw_182 : (Jvm.Cond.fieldLink "ProofDesk$Terms" (72 : Nat) "ProofDesk$Terms" "kept" "I") ∈ zw := List.mem_filter.mpr ⟨List.mem_append_right _ (List.mem_of_getElem? (i := 182) (by decide +kernel)), by decide +kernel⟩
theorem d_Terms_drop_5 : decode b_Terms_drop 5 = .ok (.putfield 27, 3) := by decide +kernel
theorem kw_175 : (Jvm.Cond.fieldLink "ProofDesk$Terms" (27 : Nat) "ProofDesk$Terms" "top" "I") ∈ zw := List.mem_filter.mpr ⟨List.mem_append_right _ (List.mem_of_getElem? (i := 175) (by decide +kernel)), by decide +kernel⟩
theorem d_Terms_drop_8 : decode b_Terms_drop 8 = .ok (.aload_n 0, 1) := by decide +kernel
theorem d_Terms_drop_9 : decode b_Terms_drop 9 = .ok (.aload_n 0, 1) := by decide +kernel
theorem d_Terms_drop_10 : decode b_Terms_drop 10 = .ok (.getfield 75, 3) := by decide +kernel
theorem kw_184 : (Jvm.Cond.fieldLink "ProofDesk$Terms" (75 : Nat) "ProofDesk$Terms" "keptBinders" "I") ∈ zw := List.mem_filter.mpr ⟨List.mem_append_right _ (List.mem_of_getElem? (i := 184) (by decide +kernel)), by decide +kernel⟩
theorem d_Terms_drop_13 : decode b_Terms_drop 13 = .ok (.putfield 48, 3) := by decide +kernel
theorem kw_179 : (Jvm.Cond.fieldLink "ProofDesk$Terms" (48 : Nat) "ProofDesk$Terms" "binders" "I") ∈ zw := List.mem_filter.mpr ⟨List.mem_append_right _ (List.mem_of_getElem? (i := 179) (by decide +kernel)), by decide +kernel⟩
theorem d_Terms_drop_16 : decode b_Terms_drop 16 = .ok (.return_, 1) := by decide +kernel
set_option maxHeartbeats 4000000 in
set_option maxRecDepth 100000 in
theorem g_Terms_drop (l : Launch) (D : va_G) (cI cB cZ cS : ClassId) (sz : Nat) (h0 : Nat) (ke : Int32) (kb : Int32) (tp : Int32) (bi : Int32) (g0 : Value) (g2 : Value) (g6 : Value) (g7 : Value) (g8 : Value) : Met l y_Terms_drop (zc y_Terms_drop b_Terms_drop 1 none) ({ frames := 0, cells := 0, slots := 0, locals := 0 }) (zPc D (zty cI cB cZ cS) [(h0, .inr (4, [g0, .int tp, g2, .int bi, .int ke, .int kb, g6, g7, g8]))] sz [.ref h0]) (va_Qv (fun _ : Unit => True) (fun _ t => va_P D zcl [(h0, .inr (4, [g0, .int ke, g2, .int kb, .int ke, .int kb, g6, g7, g8]))] t.heap ∧ va_D (va_A [(h0, .inr (4, [g0, .int tp, g2, .int bi, .int ke, .int kb, g6, g7, g8]))] sz) [(h0, .inr (4, [g0, .int ke, g2, .int kb, .int ke, .int kb, g6, g7, g8]))]) (va_A [(h0, .inr (4, [g0, .int tp, g2, .int bi, .int ke, .int kb, g6, g7, g8]))] sz)) 0 0 (va_A [(h0, .inr (4, [g0, .int tp, g2, .int bi, .int ke, .int kb, g6, g7, g8]))] sz) := by
  refine Met.ofW (cc := b_Terms_drop) (maxL := 1) (ret := none) (by decide) rfl ?_
  intro p e s m args below meth c s₁ B hml hv
  obtain ⟨rfl, hsz, hP, ⟨hK, hN⟩, hD0⟩ := hv
  have hx := B.exec
  have hb := B.bytes
  have hr := B.returns
  have hts0 := atoms_spec (ws := zc y_Terms_drop b_Terms_drop 1 none) B.pre
  have hts : ∀ w ∈ zw, w.before _ s = true := fun w hw => hts0 w (List.mem_cons_of_mem _ hw)
  have hown : s.vm.findClass "ProofDesk$Terms" = some m.cls := findClass_of_methodNamed B.named
  have hlocks := B.notSynchronized
  subst hsz
  have hD := hD0.self (sz := s.heap.size)
  generalize hAe : va_A [(h0, .inr (4, [g0, .int tp, g2, .int bi, .int ke, .int kb, g6, g7, g8]))] s.heap.size = A at hD ⊢
  have hA : ∀ q : Nat, s.heap.size ≤ q → A q := fun q h => by rw [← hAe]; exact Or.inr h
  have hS : va_S A s.heap s.heap [] := va_S.rf
  have hP : va_P D zcl [(h0, .inr (4, [g0, .int tp, g2, .int bi, .int ke, .int kb, g6, g7, g8]))] s.heap := hP
  have hl := lv_entry ([.ref h0]) (n := 1) (Nat.le_of_ble_eq_true rfl)
  rw [lg_entry_eq]
  generalize (lg_sl ([.ref h0]) ++ List.replicate (1 - (lg_sl ([.ref h0])).length) Slot.unset).toArray = ls at hl ⊢
  have hl : lv_has ls 1 [(0, .ref h0)] := hl
  refine lv_aload_n hx hb d_Terms_drop_0 rfl (lv_at hl 0 rfl) ?_
  refine lv_aload_n hx hb d_Terms_drop_1 rfl (lv_at hl 0 rfl) ?_
  refine va_get (D := D) (ci := 4) (v := .int ke) (C := "ProofDesk$Terms") (T := F_Terms) (N := 9) hx hb hts in_Terms hown hK hP 0 rfl rfl 4 (by decide) (hts _ kw_182) (fun _ h9 => h9) rfl d_Terms_drop_2 ?_
  refine va_put (D := D) (ci := 4) (v := .int ke) (ty := .int) (C := "ProofDesk$Terms") (T := F_Terms) (N := 9) hx hb hts in_Terms t_Terms t_Terms_ok n_Terms hown hK hP hD hS 0 rfl rfl 1 (by decide) (hts _ kw_175) (fun _ h9 => h9) rfl (by decide +kernel) rfl rfl (Nat.le_of_ble_eq_true rfl) d_Terms_drop_5 (fun H locs hP hD hS => ?_)
  have hP : va_P D zcl [(h0, .inr (4, [g0, .int ke, g2, .int bi, .int ke, .int kb, g6, g7, g8]))] H := hP
  have hD : va_D A [(h0, .inr (4, [g0, .int ke, g2, .int bi, .int ke, .int kb, g6, g7, g8]))] := hD
  refine lv_aload_n hx hb d_Terms_drop_8 rfl (lv_at hl 0 rfl) ?_
  refine lv_aload_n hx hb d_Terms_drop_9 rfl (lv_at hl 0 rfl) ?_
  refine va_get (D := D) (ci := 4) (v := .int kb) (C := "ProofDesk$Terms") (T := F_Terms) (N := 9) hx hb hts in_Terms hown hK hP 0 rfl rfl 5 (by decide) (hts _ kw_184) (fun _ h9 => h9) rfl d_Terms_drop_10 ?_
  refine va_put (D := D) (ci := 4) (v := .int kb) (ty := .int) (C := "ProofDesk$Terms") (T := F_Terms) (N := 9) hx hb hts in_Terms t_Terms t_Terms_ok n_Terms hown hK hP hD hS 0 rfl rfl 3 (by decide) (hts _ kw_179) (fun _ h9 => h9) rfl (by decide +kernel) rfl rfl (Nat.le_of_ble_eq_true rfl) d_Terms_drop_13 (fun H locs hP hD hS => ?_)
  have hP : va_P D zcl [(h0, .inr (4, [g0, .int ke, g2, .int kb, .int ke, .int kb, g6, g7, g8]))] H := hP
  have hD : va_D A [(h0, .inr (4, [g0, .int ke, g2, .int kb, .int ke, .int kb, g6, g7, g8]))] := hD
  have hP9 := hP.sub (ws' := [(h0, .inr (4, [g0, .int ke, g2, .int kb, .int ke, .int kb, g6, g7, g8]))]) [0] rfl
  have hD9 := hD.sub (ws' := [(h0, .inr (4, [g0, .int ke, g2, .int kb, .int ke, .int kb, g6, g7, g8]))]) [0] (by decide +kernel) rfl
  refine W.widen (k := 0) (n := 0) (by omega) (by omega) ?_
  exact W.vret hx hb hr (fun t ht hW => ⟨⟨(), rfl, trivial, by rw [ht]; exact hP9, hD9⟩, hS.F ht⟩) hS.2.2 d_Terms_drop_16
abbrev b_Terms_keepAll : ByteArray := prog_11_method_35_code
abbrev y_Terms_keepAll : MethodName := ⟨"ProofDesk$Terms", "keepAll", "()V"⟩
theorem d_Terms_keepAll_0 : decode b_Terms_keepAll 0 = .ok (.aload_n 0, 1) := by decide +kernel
theorem d_Terms_keepAll_1 : decode b_Terms_keepAll 1 = .ok (.aload_n 0, 1) := by decide +kernel
theorem d_Terms_keepAll_2 : decode b_Terms_keepAll 2 = .ok (.getfield 27, 3) := by decide +kernel
theorem d_Terms_keepAll_5 : decode b_Terms_keepAll 5 = .ok (.putfield 72, 3) := by decide +kernel
theorem d_Terms_keepAll_8 : decode b_Terms_keepAll 8 = .ok (.aload_n 0, 1) := by decide +kernel
theorem d_Terms_keepAll_9 : decode b_Terms_keepAll 9 = .ok (.aload_n 0, 1) := by decide +kernel
theorem d_Terms_keepAll_10 : decode b_Terms_keepAll 10 = .ok (.getfield 48, 3) := by decide +kernel
theorem d_Terms_keepAll_13 : decode b_Terms_keepAll 13 = .ok (.putfield 75, 3) := by decide +kernel
theorem d_Terms_keepAll_16 : decode b_Terms_keepAll 16 = .ok (.return_, 1) := by decide +kernel
set_option maxHeartbeats 4000000 in
set_option maxRecDepth 100000 in
theorem g_Terms_keepAll (l : Launch) (D : va_G) (cI cB cZ cS : ClassId) (sz : Nat) (h0 : Nat) (ke : Int32) (kb : Int32) (tp : Int32) (bi : Int32) (g0 : Value) (g2 : Value) (g6 : Value) (g7 : Value) (g8 : Value) : Met l y_Terms_keepAll (zc y_Terms_keepAll b_Terms_keepAll 1 none) ({ frames := 0, cells := 0, slots := 0, locals := 0 }) (zPc D (zty cI cB cZ cS) [(h0, .inr (4, [g0, .int tp, g2, .int bi, .int ke, .int kb, g6, g7, g8]))] sz [.ref h0]) (va_Qv (fun _ : Unit => True) (fun _ t => va_P D zcl [(h0, .inr (4, [g0, .int tp, g2, .int bi, .int tp, .int bi, g6, g7, g8]))] t.heap ∧ va_D (va_A [(h0, .inr (4, [g0, .int tp, g2, .int bi, .int ke, .int kb, g6, g7, g8]))] sz) [(h0, .inr (4, [g0, .int tp, g2, .int bi, .int tp, .int bi, g6, g7, g8]))]) (va_A [(h0, .inr (4, [g0, .int tp, g2, .int bi, .int ke, .int kb, g6, g7, g8]))] sz)) 0 0 (va_A [(h0, .inr (4, [g0, .int tp, g2, .int bi, .int ke, .int kb, g6, g7, g8]))] sz) := by
  refine Met.ofW (cc := b_Terms_keepAll) (maxL := 1) (ret := none) (by decide) rfl ?_
  intro p e s m args below meth c s₁ B hml hv
  obtain ⟨rfl, hsz, hP, ⟨hK, hN⟩, hD0⟩ := hv
  have hx := B.exec
  have hb := B.bytes
  have hr := B.returns
  have hts0 := atoms_spec (ws := zc y_Terms_keepAll b_Terms_keepAll 1 none) B.pre
  have hts : ∀ w ∈ zw, w.before _ s = true := fun w hw => hts0 w (List.mem_cons_of_mem _ hw)
  have hown : s.vm.findClass "ProofDesk$Terms" = some m.cls := findClass_of_methodNamed B.named
  have hlocks := B.notSynchronized
  subst hsz
  have hD := hD0.self (sz := s.heap.size)
  generalize hAe : va_A [(h0, .inr (4, [g0, .int tp, g2, .int bi, .int ke, .int kb, g6, g7, g8]))] s.heap.size = A at hD ⊢
  have hA : ∀ q : Nat, s.heap.size ≤ q → A q := fun q h => by rw [← hAe]; exact Or.inr h
  have hS : va_S A s.heap s.heap [] := va_S.rf
  have hP : va_P D zcl [(h0, .inr (4, [g0, .int tp, g2, .int bi, .int ke, .int kb, g6, g7, g8]))] s.heap := hP
  have hl := lv_entry ([.ref h0]) (n := 1) (Nat.le_of_ble_eq_true rfl)
  rw [lg_entry_eq]
  generalize (lg_sl ([.ref h0]) ++ List.replicate (1 - (lg_sl ([.ref h0])).length) Slot.unset).toArray = ls at hl ⊢
  have hl : lv_has ls 1 [(0, .ref h0)] := hl
  refine lv_aload_n hx hb d_Terms_keepAll_0 rfl (lv_at hl 0 rfl) ?_
  refine lv_aload_n hx hb d_Terms_keepAll_1 rfl (lv_at hl 0 rfl) ?_
  refine va_get (D := D) (ci := 4) (v := .int tp) (C := "ProofDesk$Terms") (T := F_Terms) (N := 9) hx hb hts in_Terms hown hK hP 0 rfl rfl 1 (by decide) (hts _ kw_175) (fun _ h9 => h9) rfl d_Terms_keepAll_2 ?_
  refine va_put (D := D) (ci := 4) (v := .int tp) (ty := .int) (C := "ProofDesk$Terms") (T := F_Terms) (N := 9) hx hb hts in_Terms t_Terms t_Terms_ok n_Terms hown hK hP hD hS 0 rfl rfl 4 (by decide) (hts _ kw_182) (fun _ h9 => h9) rfl (by decide +kernel) rfl rfl (Nat.le_of_ble_eq_true rfl) d_Terms_keepAll_5 (fun H locs hP hD hS => ?_)
  have hP : va_P D zcl [(h0, .inr (4, [g0, .int tp, g2, .int bi, .int tp, .int kb, g6, g7, g8]))] H := hP
  have hD : va_D A [(h0, .inr (4, [g0, .int tp, g2, .int bi, .int tp, .int kb, g6, g7, g8]))] := hD
  refine lv_aload_n hx hb d_Terms_keepAll_8 rfl (lv_at hl 0 rfl) ?_
  refine lv_aload_n hx hb d_Terms_keepAll_9 rfl (lv_at hl 0 rfl) ?_
  refine va_get (D := D) (ci := 4) (v := .int bi) (C := "ProofDesk$Terms") (T := F_Terms) (N := 9) hx hb hts in_Terms hown hK hP 0 rfl rfl 3 (by decide) (hts _ kw_179) (fun _ h9 => h9) rfl d_Terms_keepAll_10 ?_
  refine va_put (D := D) (ci := 4) (v := .int bi) (ty := .int) (C := "ProofDesk$Terms") (T := F_Terms) (N := 9) hx hb hts in_Terms t_Terms t_Terms_ok n_Terms hown hK hP hD hS 0 rfl rfl 5 (by decide) (hts _ kw_184) (fun _ h9 => h9) rfl (by decide +kernel) rfl rfl (Nat.le_of_ble_eq_true rfl) d_Terms_keepAll_13 (fun H locs hP hD hS => ?_)
  have hP : va_P D zcl [(h0, .inr (4, [g0, .int tp, g2, .int bi, .int tp, .int bi, g6, g7, g8]))] H := hP
  have hD : va_D A [(h0, .inr (4, [g0, .int tp, g2, .int bi, .int tp, .int bi, g6, g7, g8]))] := hD
  have hP9 := hP.sub (ws' := [(h0, .inr (4, [g0, .int tp, g2, .int bi, .int tp, .int bi, g6, g7, g8]))]) [0] rfl
  have hD9 := hD.sub (ws' := [(h0, .inr (4, [g0, .int tp, g2, .int bi, .int tp, .int bi, g6, g7, g8]))]) [0] (by decide +kernel) rfl
  refine W.widen (k := 0) (n := 0) (by omega) (by omega) ?_
  exact W.vret hx hb hr (fun t ht hW => ⟨⟨(), rfl, trivial, by rw [ht]; exact hP9, hD9⟩, hS.F ht⟩) hS.2.2 d_Terms_keepAll_16
abbrev b_Terms_openBlock : ByteArray := prog_11_method_37_code
abbrev y_Terms_openBlock : MethodName := ⟨"ProofDesk$Terms", "openBlock", "()V"⟩
theorem d_Terms_openBlock_0 : decode b_Terms_openBlock 0 = .ok (.aload_n 0, 1) := by decide +kernel
theorem d_Terms_openBlock_1 : decode b_Terms_openBlock 1 = .ok (.aload_n 0, 1) := by decide +kernel
theorem d_Terms_openBlock_2 : decode b_Terms_openBlock 2 = .ok (.getfield 27, 3) := by decide +kernel
theorem d_Terms_openBlock_5 : decode b_Terms_openBlock 5 = .ok (.putfield 81, 3) := by decide +kernel
theorem kw_185 : (Jvm.Cond.fieldLink "ProofDesk$Terms" (81 : Nat) "ProofDesk$Terms" "block" "I") ∈ zw := List.mem_filter.mpr ⟨List.mem_append_right _ (List.mem_of_getElem? (i := 185) (by decide +kernel)), by decide +kernel⟩
theorem d_Terms_openBlock_8 : decode b_Terms_openBlock 8 = .ok (.aload_n 0, 1) := by decide +kernel
theorem d_Terms_openBlock_9 : decode b_Terms_openBlock 9 = .ok (.aload_n 0, 1) := by decide +kernel
theorem d_Terms_openBlock_10 : decode b_Terms_openBlock 10 = .ok (.getfield 48, 3) := by decide +kernel
theorem d_Terms_openBlock_13 : decode b_Terms_openBlock 13 = .ok (.putfield 84, 3) := by decide +kernel
theorem kw_186 : (Jvm.Cond.fieldLink "ProofDesk$Terms" (84 : Nat) "ProofDesk$Terms" "blockBinders" "I") ∈ zw := List.mem_filter.mpr ⟨List.mem_append_right _ (List.mem_of_getElem? (i := 186) (by decide +kernel)), by decide +kernel⟩
theorem d_Terms_openBlock_16 : decode b_Terms_openBlock 16 = .ok (.return_, 1) := by decide +kernel
set_option maxHeartbeats 4000000 in
set_option maxRecDepth 100000 in
theorem g_Terms_openBlock (l : Launch) (D : va_G) (cI cB cZ cS : ClassId) (sz : Nat) (h0 : Nat) (ke : Int32) (kb : Int32) (tp : Int32) (bi : Int32) (g0 : Value) (g2 : Value) (g6 : Value) (g7 : Value) (g8 : Value) : Met l y_Terms_openBlock (zc y_Terms_openBlock b_Terms_openBlock 1 none) ({ frames := 0, cells := 0, slots := 0, locals := 0 }) (zPc D (zty cI cB cZ cS) [(h0, .inr (4, [g0, .int tp, g2, .int bi, .int ke, .int kb, g6, g7, g8]))] sz [.ref h0]) (va_Qv (fun _ : Unit => True) (fun _ t => va_P D zcl [(h0, .inr (4, [g0, .int tp, g2, .int bi, .int ke, .int kb, .int tp, .int bi, g8]))] t.heap ∧ va_D (va_A [(h0, .inr (4, [g0, .int tp, g2, .int bi, .int ke, .int kb, g6, g7, g8]))] sz) [(h0, .inr (4, [g0, .int tp, g2, .int bi, .int ke, .int kb, .int tp, .int bi, g8]))]) (va_A [(h0, .inr (4, [g0, .int tp, g2, .int bi, .int ke, .int kb, g6, g7, g8]))] sz)) 0 0 (va_A [(h0, .inr (4, [g0, .int tp, g2, .int bi, .int ke, .int kb, g6, g7, g8]))] sz) := by
  refine Met.ofW (cc := b_Terms_openBlock) (maxL := 1) (ret := none) (by decide) rfl ?_
  intro p e s m args below meth c s₁ B hml hv
  obtain ⟨rfl, hsz, hP, ⟨hK, hN⟩, hD0⟩ := hv
  have hx := B.exec
  have hb := B.bytes
  have hr := B.returns
  have hts0 := atoms_spec (ws := zc y_Terms_openBlock b_Terms_openBlock 1 none) B.pre
  have hts : ∀ w ∈ zw, w.before _ s = true := fun w hw => hts0 w (List.mem_cons_of_mem _ hw)
  have hown : s.vm.findClass "ProofDesk$Terms" = some m.cls := findClass_of_methodNamed B.named
  have hlocks := B.notSynchronized
  subst hsz
  have hD := hD0.self (sz := s.heap.size)
  generalize hAe : va_A [(h0, .inr (4, [g0, .int tp, g2, .int bi, .int ke, .int kb, g6, g7, g8]))] s.heap.size = A at hD ⊢
  have hA : ∀ q : Nat, s.heap.size ≤ q → A q := fun q h => by rw [← hAe]; exact Or.inr h
  have hS : va_S A s.heap s.heap [] := va_S.rf
  have hP : va_P D zcl [(h0, .inr (4, [g0, .int tp, g2, .int bi, .int ke, .int kb, g6, g7, g8]))] s.heap := hP
  have hl := lv_entry ([.ref h0]) (n := 1) (Nat.le_of_ble_eq_true rfl)
  rw [lg_entry_eq]
  generalize (lg_sl ([.ref h0]) ++ List.replicate (1 - (lg_sl ([.ref h0])).length) Slot.unset).toArray = ls at hl ⊢
  have hl : lv_has ls 1 [(0, .ref h0)] := hl
  refine lv_aload_n hx hb d_Terms_openBlock_0 rfl (lv_at hl 0 rfl) ?_
  refine lv_aload_n hx hb d_Terms_openBlock_1 rfl (lv_at hl 0 rfl) ?_
  refine va_get (D := D) (ci := 4) (v := .int tp) (C := "ProofDesk$Terms") (T := F_Terms) (N := 9) hx hb hts in_Terms hown hK hP 0 rfl rfl 1 (by decide) (hts _ kw_175) (fun _ h9 => h9) rfl d_Terms_openBlock_2 ?_
  refine va_put (D := D) (ci := 4) (v := .int tp) (ty := .int) (C := "ProofDesk$Terms") (T := F_Terms) (N := 9) hx hb hts in_Terms t_Terms t_Terms_ok n_Terms hown hK hP hD hS 0 rfl rfl 6 (by decide) (hts _ kw_185) (fun _ h9 => h9) rfl (by decide +kernel) rfl rfl (Nat.le_of_ble_eq_true rfl) d_Terms_openBlock_5 (fun H locs hP hD hS => ?_)
  have hP : va_P D zcl [(h0, .inr (4, [g0, .int tp, g2, .int bi, .int ke, .int kb, .int tp, g7, g8]))] H := hP
  have hD : va_D A [(h0, .inr (4, [g0, .int tp, g2, .int bi, .int ke, .int kb, .int tp, g7, g8]))] := hD
  refine lv_aload_n hx hb d_Terms_openBlock_8 rfl (lv_at hl 0 rfl) ?_
  refine lv_aload_n hx hb d_Terms_openBlock_9 rfl (lv_at hl 0 rfl) ?_
  refine va_get (D := D) (ci := 4) (v := .int bi) (C := "ProofDesk$Terms") (T := F_Terms) (N := 9) hx hb hts in_Terms hown hK hP 0 rfl rfl 3 (by decide) (hts _ kw_179) (fun _ h9 => h9) rfl d_Terms_openBlock_10 ?_
  refine va_put (D := D) (ci := 4) (v := .int bi) (ty := .int) (C := "ProofDesk$Terms") (T := F_Terms) (N := 9) hx hb hts in_Terms t_Terms t_Terms_ok n_Terms hown hK hP hD hS 0 rfl rfl 7 (by decide) (hts _ kw_186) (fun _ h9 => h9) rfl (by decide +kernel) rfl rfl (Nat.le_of_ble_eq_true rfl) d_Terms_openBlock_13 (fun H locs hP hD hS => ?_)
  have hP : va_P D zcl [(h0, .inr (4, [g0, .int tp, g2, .int bi, .int ke, .int kb, .int tp, .int bi, g8]))] H := hP
  have hD : va_D A [(h0, .inr (4, [g0, .int tp, g2, .int bi, .int ke, .int kb, .int tp, .int bi, g8]))] := hD
  have hP9 := hP.sub (ws' := [(h0, .inr (4, [g0, .int tp, g2, .int bi, .int ke, .int kb, .int tp, .int bi, g8]))]) [0] rfl
  have hD9 := hD.sub (ws' := [(h0, .inr (4, [g0, .int tp, g2, .int bi, .int ke, .int kb, .int tp, .int bi, g8]))]) [0] (by decide +kernel) rfl
  refine W.widen (k := 0) (n := 0) (by omega) (by omega) ?_
  exact W.vret hx hb hr (fun t ht hW => ⟨⟨(), rfl, trivial, by rw [ht]; exact hP9, hD9⟩, hS.F ht⟩) hS.2.2 d_Terms_openBlock_16
abbrev b_Terms_cutTo : ByteArray := prog_11_method_36_code
abbrev y_Terms_cutTo : MethodName := ⟨"ProofDesk$Terms", "cutTo", "(II)V"⟩
theorem d_Terms_cutTo_0 : decode b_Terms_cutTo 0 = .ok (.aload_n 0, 1) := by decide +kernel
theorem d_Terms_cutTo_1 : decode b_Terms_cutTo 1 = .ok (.iload_n 1, 1) := by decide +kernel
theorem d_Terms_cutTo_2 : decode b_Terms_cutTo 2 = .ok (.putfield 27, 3) := by decide +kernel
theorem d_Terms_cutTo_5 : decode b_Terms_cutTo 5 = .ok (.aload_n 0, 1) := by decide +kernel
theorem d_Terms_cutTo_6 : decode b_Terms_cutTo 6 = .ok (.iload_n 2, 1) := by decide +kernel
theorem d_Terms_cutTo_7 : decode b_Terms_cutTo 7 = .ok (.putfield 48, 3) := by decide +kernel
theorem d_Terms_cutTo_10 : decode b_Terms_cutTo 10 = .ok (.aload_n 0, 1) := by decide +kernel
theorem d_Terms_cutTo_11 : decode b_Terms_cutTo 11 = .ok (.invokevirtual 78, 3) := by decide +kernel
set_option maxRecDepth 100000 in
theorem kw_1401 : (Jvm.Cond.code ({ cls := "ProofDesk$Terms", name := "keepAll", desc := "()V" } : Jvm.MethodName) prog_11_method_35_code (1 : Nat) (Option.none : Option Jvm.ClassFile.FieldType)) ∈ zw := List.mem_filter.mpr ⟨List.mem_append_right _ (List.mem_of_getElem? (i := 1401) rfl), by decide +kernel⟩
theorem kw_1708 : (Jvm.Cond.methodLink "ProofDesk$Terms" (78 : Nat) ({ cls := "ProofDesk$Terms", name := "keepAll", desc := "()V" } : Jvm.MethodName)) ∈ zw := List.mem_filter.mpr ⟨List.mem_append_right _ (List.mem_of_getElem? (i := 1708) (by decide +kernel)), by decide +kernel⟩
theorem kw_1399 : (Jvm.Cond.instanceMethod ({ cls := "ProofDesk$Terms", name := "keepAll", desc := "()V" } : Jvm.MethodName)) ∈ zw := List.mem_filter.mpr ⟨List.mem_append_right _ (List.mem_of_getElem? (i := 1399) (by decide +kernel)), by decide +kernel⟩
theorem kw_1400 : (Jvm.Cond.selects "ProofDesk$Terms" ({ cls := "ProofDesk$Terms", name := "keepAll", desc := "()V" } : Jvm.MethodName) ({ cls := "ProofDesk$Terms", name := "keepAll", desc := "()V" } : Jvm.MethodName)) ∈ zw := List.mem_filter.mpr ⟨List.mem_append_right _ (List.mem_of_getElem? (i := 1400) (by decide +kernel)), by decide +kernel⟩
theorem d_Terms_cutTo_14 : decode b_Terms_cutTo 14 = .ok (.return_, 1) := by decide +kernel
set_option maxHeartbeats 4000000 in
set_option maxRecDepth 100000 in
theorem g_Terms_cutTo (l : Launch) (D : va_G) (cI cB cZ cS : ClassId) (sz : Nat) (h0 : Nat) (ke : Int32) (kb : Int32) (tp : Int32) (bi : Int32) (g0 : Value) (g2 : Value) (g6 : Value) (g7 : Value) (g8 : Value) (u1 : Int32) (u2 : Int32) : Met l y_Terms_cutTo (zc y_Terms_cutTo b_Terms_cutTo 3 none) ({ frames := 1, cells := 0, slots := 0, locals := 20 }) (zPc D (zty cI cB cZ cS) [(h0, .inr (4, [g0, .int tp, g2, .int bi, .int ke, .int kb, g6, g7, g8]))] sz [.ref h0, .int u1, .int u2]) (va_Qv (fun _ : Unit => True) (fun _ t => va_P D zcl [(h0, .inr (4, [g0, .int u1, g2, .int u2, .int u1, .int u2, g6, g7, g8]))] t.heap ∧ va_D (va_A [(h0, .inr (4, [g0, .int tp, g2, .int bi, .int ke, .int kb, g6, g7, g8]))] sz) [(h0, .inr (4, [g0, .int u1, g2, .int u2, .int u1, .int u2, g6, g7, g8]))]) (va_A [(h0, .inr (4, [g0, .int tp, g2, .int bi, .int ke, .int kb, g6, g7, g8]))] sz)) 0 0 (va_A [(h0, .inr (4, [g0, .int tp, g2, .int bi, .int ke, .int kb, g6, g7, g8]))] sz) := by
  refine Met.ofW (cc := b_Terms_cutTo) (maxL := 3) (ret := none) (by decide) rfl ?_
  intro p e s m args below meth c s₁ B hml hv
  obtain ⟨rfl, hsz, hP, ⟨hK, hN⟩, hD0⟩ := hv
  have hx := B.exec
  have hb := B.bytes
  have hr := B.returns
  have hts0 := atoms_spec (ws := zc y_Terms_cutTo b_Terms_cutTo 3 none) B.pre
  have hts : ∀ w ∈ zw, w.before _ s = true := fun w hw => hts0 w (List.mem_cons_of_mem _ hw)
  have hown : s.vm.findClass "ProofDesk$Terms" = some m.cls := findClass_of_methodNamed B.named
  have hlocks := B.notSynchronized
  subst hsz
  have hD := hD0.self (sz := s.heap.size)
  generalize hAe : va_A [(h0, .inr (4, [g0, .int tp, g2, .int bi, .int ke, .int kb, g6, g7, g8]))] s.heap.size = A at hD ⊢
  have hA : ∀ q : Nat, s.heap.size ≤ q → A q := fun q h => by rw [← hAe]; exact Or.inr h
  have hS : va_S A s.heap s.heap [] := va_S.rf
  have hP : va_P D zcl [(h0, .inr (4, [g0, .int tp, g2, .int bi, .int ke, .int kb, g6, g7, g8]))] s.heap := hP
  have hl := lv_entry ([.ref h0, .int u1, .int u2]) (n := 3) (Nat.le_of_ble_eq_true rfl)
  rw [lg_entry_eq]
  generalize (lg_sl ([.ref h0, .int u1, .int u2]) ++ List.replicate (3 - (lg_sl ([.ref h0, .int u1, .int u2])).length) Slot.unset).toArray = ls at hl ⊢
  have hl : lv_has ls 3 [(0, .ref h0), (1, .int u1), (2, .int u2)] := hl
  refine lv_aload_n hx hb d_Terms_cutTo_0 rfl (lv_at hl 0 rfl) ?_
  refine lv_iload_n hx hb d_Terms_cutTo_1 rfl (lv_at hl 1 rfl) ?_
  refine va_put (D := D) (ci := 4) (v := .int u1) (ty := .int) (C := "ProofDesk$Terms") (T := F_Terms) (N := 9) hx hb hts in_Terms t_Terms t_Terms_ok n_Terms hown hK hP hD hS 0 rfl rfl 1 (by decide) (hts _ kw_175) (fun _ h9 => h9) rfl (by decide +kernel) rfl rfl (Nat.le_of_ble_eq_true rfl) d_Terms_cutTo_2 (fun H locs hP hD hS => ?_)
  have hP : va_P D zcl [(h0, .inr (4, [g0, .int u1, g2, .int bi, .int ke, .int kb, g6, g7, g8]))] H := hP
  have hD : va_D A [(h0, .inr (4, [g0, .int u1, g2, .int bi, .int ke, .int kb, g6, g7, g8]))] := hD
  refine lv_aload_n hx hb d_Terms_cutTo_5 rfl (lv_at hl 0 rfl) ?_
  refine lv_iload_n hx hb d_Terms_cutTo_6 rfl (lv_at hl 2 rfl) ?_
  refine va_put (D := D) (ci := 4) (v := .int u2) (ty := .int) (C := "ProofDesk$Terms") (T := F_Terms) (N := 9) hx hb hts in_Terms t_Terms t_Terms_ok n_Terms hown hK hP hD hS 0 rfl rfl 3 (by decide) (hts _ kw_179) (fun _ h9 => h9) rfl (by decide +kernel) rfl rfl (Nat.le_of_ble_eq_true rfl) d_Terms_cutTo_7 (fun H locs hP hD hS => ?_)
  have hP : va_P D zcl [(h0, .inr (4, [g0, .int u1, g2, .int u2, .int ke, .int kb, g6, g7, g8]))] H := hP
  have hD : va_D A [(h0, .inr (4, [g0, .int u1, g2, .int u2, .int ke, .int kb, g6, g7, g8]))] := hD
  refine lv_aload_n hx hb d_Terms_cutTo_10 rfl (lv_at hl 0 rfl) ?_
  have hPc := hP.sub (ws' := [(h0, .inr (4, [g0, .int u1, g2, .int u2, .int ke, .int kb, g6, g7, g8]))]) [0] rfl
  have hDc := hD.sub (ws' := [(h0, .inr (4, [g0, .int u1, g2, .int u2, .int ke, .int kb, g6, g7, g8]))]) [0] (by decide +kernel) rfl
  have hFc := va_free (wc := [(h0, .inr (4, [g0, .int u1, g2, .int u2, .int ke, .int kb, g6, g7, g8]))]) hD hS hA [0] rfl
  have hkc : 0 + 0 ≤ 0 := by omega
  have hks : 0 + 0 ≤ 0 := by omega
  refine va_callv (va_runV (As := []) (rest := []) ⟨hx, hb, hml, hown, hts⟩ (g_Terms_keepAll l D cI cB cZ cS H.size h0 ke kb u1 u2 g0 g2 g6 g7 g8) (⟨callB_of 0 hts (zgood kw_1401) rfl rfl rfl (hts _ kw_9) (hts _ kw_1708) (by decide +kernel) ⟨Nat.le_of_ble_eq_true rfl, Nat.le_of_ble_eq_true rfl⟩, hts _ kw_1399, hts _ kw_1400⟩) (zPreV hPc hK hN hDc (va_recv (q := ("ProofDesk$Terms", F_Terms, 9)) hK hP rfl (q0 := 0) rfl)) rfl rfl hl.1 rfl (lv_room (Nat.le_of_ble_eq_true rfl)) d_Terms_cutTo_11 ⟨hkc, hks⟩) hS (fun q _ h => hFc q h) hFc (fun u t H1 locs ht hvm hw hB hz1 hk1 hS => ?_)
  obtain ⟨hP1, hD1⟩ := hB
  rw [ht] at hP1
  obtain ⟨hP, hD⟩ := va_join (wr := []) (w1 := [(h0, .inr (4, [g0, .int u1, g2, .int u2, .int u1, .int u2, g6, g7, g8]))]) hP hD [0] [] rfl rfl (by decide +kernel) (by decide +kernel) hk1 hFc hP1 hD1
  generalize H1 = H at hP hS ⊢
  have hP : va_P D zcl [(h0, .inr (4, [g0, .int u1, g2, .int u2, .int u1, .int u2, g6, g7, g8]))] H := hP
  have hD : va_D A [(h0, .inr (4, [g0, .int u1, g2, .int u2, .int u1, .int u2, g6, g7, g8]))] := hD
  refine W.widen (k := 0) (n := 0) (by omega) (by omega) ?_
  have hP9 := hP.sub (ws' := [(h0, .inr (4, [g0, .int u1, g2, .int u2, .int u1, .int u2, g6, g7, g8]))]) [0] rfl
  have hD9 := hD.sub (ws' := [(h0, .inr (4, [g0, .int u1, g2, .int u2, .int u1, .int u2, g6, g7, g8]))]) [0] (by decide +kernel) rfl
  refine W.widen (k := 0) (n := 0) (by omega) (by omega) ?_
  exact W.vret hx hb hr (fun t ht hW => ⟨⟨(), rfl, trivial, by rw [ht]; exact hP9, hD9⟩, hS.F ht⟩) hS.2.2 d_Terms_cutTo_14
abbrev b_Terms_node : ByteArray := prog_11_method_2_code
abbrev y_Terms_node : MethodName := ⟨"ProofDesk$Terms", "node", "(IIIIII)I"⟩
theorem d_Terms_node_0 : decode b_Terms_node 0 = .ok (.aload_n 0, 1) := by decide +kernel
theorem d_Terms_node_1 : decode b_Terms_node 1 = .ok (.getfield 27, 3) := by decide +kernel
theorem d_Terms_node_4 : decode b_Terms_node 4 = .ok (.bipush 7, 2) := by decide +kernel
theorem d_Terms_node_6 : decode b_Terms_node 6 = .ok (.iadd, 1) := by decide +kernel
theorem d_Terms_node_7 : decode b_Terms_node 7 = .ok (.aload_n 0, 1) := by decide +kernel
theorem d_Terms_node_8 : decode b_Terms_node 8 = .ok (.getfield 11, 3) := by decide +kernel
theorem d_Terms_node_11 : decode b_Terms_node 11 = .ok (.arraylength, 1) := by decide +kernel
theorem d_Terms_node_12 : decode b_Terms_node 12 = .ok (.if_icmp .le 21, 3) := by decide +kernel
theorem d_Terms_node_33 : decode b_Terms_node 33 = .ok (.aload_n 0, 1) := by decide +kernel
theorem d_Terms_node_34 : decode b_Terms_node 34 = .ok (.getfield 27, 3) := by decide +kernel
theorem d_Terms_node_37 : decode b_Terms_node 37 = .ok (.istore 7, 2) := by decide +kernel
theorem d_Terms_node_39 : decode b_Terms_node 39 = .ok (.aload_n 0, 1) := by decide +kernel
theorem d_Terms_node_40 : decode b_Terms_node 40 = .ok (.getfield 11, 3) := by decide +kernel
theorem d_Terms_node_43 : decode b_Terms_node 43 = .ok (.iload 7, 2) := by decide +kernel
theorem d_Terms_node_45 : decode b_Terms_node 45 = .ok (.iconst 0, 1) := by decide +kernel
theorem d_Terms_node_46 : decode b_Terms_node 46 = .ok (.iadd, 1) := by decide +kernel
theorem d_Terms_node_47 : decode b_Terms_node 47 = .ok (.iload_n 1, 1) := by decide +kernel
theorem d_Terms_node_48 : decode b_Terms_node 48 = .ok (.iastore, 1) := by decide +kernel
theorem d_Terms_node_49 : decode b_Terms_node 49 = .ok (.aload_n 0, 1) := by decide +kernel
theorem d_Terms_node_50 : decode b_Terms_node 50 = .ok (.getfield 11, 3) := by decide +kernel
theorem d_Terms_node_53 : decode b_Terms_node 53 = .ok (.iload 7, 2) := by decide +kernel
theorem d_Terms_node_55 : decode b_Terms_node 55 = .ok (.iconst 1, 1) := by decide +kernel
theorem d_Terms_node_56 : decode b_Terms_node 56 = .ok (.iadd, 1) := by decide +kernel
theorem d_Terms_node_57 : decode b_Terms_node 57 = .ok (.iload_n 2, 1) := by decide +kernel
theorem d_Terms_node_58 : decode b_Terms_node 58 = .ok (.iastore, 1) := by decide +kernel
theorem d_Terms_node_59 : decode b_Terms_node 59 = .ok (.aload_n 0, 1) := by decide +kernel
theorem d_Terms_node_60 : decode b_Terms_node 60 = .ok (.getfield 11, 3) := by decide +kernel
theorem d_Terms_node_63 : decode b_Terms_node 63 = .ok (.iload 7, 2) := by decide +kernel
theorem d_Terms_node_65 : decode b_Terms_node 65 = .ok (.iconst 2, 1) := by decide +kernel
theorem d_Terms_node_66 : decode b_Terms_node 66 = .ok (.iadd, 1) := by decide +kernel
theorem d_Terms_node_67 : decode b_Terms_node 67 = .ok (.iload_n 3, 1) := by decide +kernel
theorem d_Terms_node_68 : decode b_Terms_node 68 = .ok (.iastore, 1) := by decide +kernel
theorem d_Terms_node_69 : decode b_Terms_node 69 = .ok (.aload_n 0, 1) := by decide +kernel
theorem d_Terms_node_70 : decode b_Terms_node 70 = .ok (.getfield 11, 3) := by decide +kernel
theorem d_Terms_node_73 : decode b_Terms_node 73 = .ok (.iload 7, 2) := by decide +kernel
theorem d_Terms_node_75 : decode b_Terms_node 75 = .ok (.iconst 3, 1) := by decide +kernel
theorem d_Terms_node_76 : decode b_Terms_node 76 = .ok (.iadd, 1) := by decide +kernel
theorem d_Terms_node_77 : decode b_Terms_node 77 = .ok (.iload 4, 2) := by decide +kernel
theorem d_Terms_node_79 : decode b_Terms_node 79 = .ok (.iastore, 1) := by decide +kernel
theorem d_Terms_node_80 : decode b_Terms_node 80 = .ok (.aload_n 0, 1) := by decide +kernel
theorem d_Terms_node_81 : decode b_Terms_node 81 = .ok (.getfield 11, 3) := by decide +kernel
theorem d_Terms_node_84 : decode b_Terms_node 84 = .ok (.iload 7, 2) := by decide +kernel
theorem d_Terms_node_86 : decode b_Terms_node 86 = .ok (.iconst 4, 1) := by decide +kernel
theorem d_Terms_node_87 : decode b_Terms_node 87 = .ok (.iadd, 1) := by decide +kernel
theorem d_Terms_node_88 : decode b_Terms_node 88 = .ok (.iconst (-1), 1) := by decide +kernel
theorem d_Terms_node_89 : decode b_Terms_node 89 = .ok (.iastore, 1) := by decide +kernel
theorem d_Terms_node_90 : decode b_Terms_node 90 = .ok (.aload_n 0, 1) := by decide +kernel
theorem d_Terms_node_91 : decode b_Terms_node 91 = .ok (.getfield 11, 3) := by decide +kernel
theorem d_Terms_node_94 : decode b_Terms_node 94 = .ok (.iload 7, 2) := by decide +kernel
theorem d_Terms_node_96 : decode b_Terms_node 96 = .ok (.iconst 5, 1) := by decide +kernel
theorem d_Terms_node_97 : decode b_Terms_node 97 = .ok (.iadd, 1) := by decide +kernel
theorem d_Terms_node_98 : decode b_Terms_node 98 = .ok (.iload 5, 2) := by decide +kernel
theorem d_Terms_node_100 : decode b_Terms_node 100 = .ok (.ldc 37, 2) := by decide +kernel
theorem kw_746 : (Jvm.Cond.constant "ProofDesk$Terms" (37 : Nat) (268435456 : Int32)) ∈ zw := List.mem_filter.mpr ⟨List.mem_append_right _ (List.mem_of_getElem? (i := 746) (by decide +kernel)), by decide +kernel⟩
theorem d_Terms_node_102 : decode b_Terms_node 102 = .ok (.invokestatic 38, 3) := by decide +kernel
theorem kw_747 : (Jvm.Cond.methodLink "ProofDesk$Terms" (38 : Nat) ({ cls := "java/lang/Math", name := "min", desc := "(II)I" } : Jvm.MethodName)) ∈ zw := List.mem_filter.mpr ⟨List.mem_append_right _ (List.mem_of_getElem? (i := 747) (by decide +kernel)), by decide +kernel⟩
theorem d_Terms_node_105 : decode b_Terms_node 105 = .ok (.iastore, 1) := by decide +kernel
theorem d_Terms_node_106 : decode b_Terms_node 106 = .ok (.aload_n 0, 1) := by decide +kernel
theorem d_Terms_node_107 : decode b_Terms_node 107 = .ok (.getfield 11, 3) := by decide +kernel
theorem d_Terms_node_110 : decode b_Terms_node 110 = .ok (.iload 7, 2) := by decide +kernel
theorem d_Terms_node_112 : decode b_Terms_node 112 = .ok (.bipush 6, 2) := by decide +kernel
theorem d_Terms_node_114 : decode b_Terms_node 114 = .ok (.iadd, 1) := by decide +kernel
theorem d_Terms_node_115 : decode b_Terms_node 115 = .ok (.iload 6, 2) := by decide +kernel
theorem d_Terms_node_117 : decode b_Terms_node 117 = .ok (.iastore, 1) := by decide +kernel
theorem d_Terms_node_118 : decode b_Terms_node 118 = .ok (.aload_n 0, 1) := by decide +kernel
theorem d_Terms_node_119 : decode b_Terms_node 119 = .ok (.dup, 1) := by decide +kernel
theorem d_Terms_node_120 : decode b_Terms_node 120 = .ok (.getfield 27, 3) := by decide +kernel
theorem d_Terms_node_123 : decode b_Terms_node 123 = .ok (.bipush 7, 2) := by decide +kernel
theorem d_Terms_node_125 : decode b_Terms_node 125 = .ok (.iadd, 1) := by decide +kernel
theorem d_Terms_node_126 : decode b_Terms_node 126 = .ok (.putfield 27, 3) := by decide +kernel
theorem d_Terms_node_129 : decode b_Terms_node 129 = .ok (.iload 7, 2) := by decide +kernel
theorem d_Terms_node_131 : decode b_Terms_node 131 = .ok (.ireturn, 1) := by decide +kernel
set_option maxHeartbeats 4000000 in
set_option maxRecDepth 100000 in
theorem g_Terms_node (l : Launch) (D : va_G) (cI cB cZ cS : ClassId) (sz : Nat) (h0 : Nat) (q : Nat) (n : Nat) (f : Nat → Int32) (g2 : Value) (g3 : Value) (g4 : Value) (g5 : Value) (g6 : Value) (g7 : Value) (g8 : Value) (x : Nat) (kd : Int32) (rf : Int32) (fi : Int32) (se : Int32) (si : Int32) (pl : Int32) (hx9 : x + 7 ≤ n) (hN : n ≤ 33554432) : Met l y_Terms_node (zc y_Terms_node b_Terms_node 8 (some .int)) ({ frames := 1, cells := 0, slots := 0, locals := 15 }) (zPc D (zty cI cB cZ cS) [(h0, .inr (4, [.ref q, .int (nI x), g2, g3, g4, g5, g6, g7, g8])), (q, .inl (cI, n, .inl f))] sz [.ref h0, .int kd, .int rf, .int fi, .int se, .int si, .int pl]) (va_Qi (fun (r : Int32) (_ : Unit) => r = (nI x)) (fun _ t => va_P D zcl [(h0, .inr (4, [.ref q, .int (nI (x + 7)), g2, g3, g4, g5, g6, g7, g8])), (q, .inl (cI, n, .inl (upd (upd (upd (upd (upd (upd (upd f (x + 0) kd) (x + 1) rf) (x + 2) fi) (x + 3) se) (x + 4) (-1)) (x + 5) (if 268435456 < si then 268435456 else si)) (x + 6) pl)))] t.heap ∧ va_D (va_A [(h0, .inr (4, [.ref q, .int (nI x), g2, g3, g4, g5, g6, g7, g8])), (q, .inl (cI, n, .inl f))] sz) [(h0, .inr (4, [.ref q, .int (nI (x + 7)), g2, g3, g4, g5, g6, g7, g8])), (q, .inl (cI, n, .inl (upd (upd (upd (upd (upd (upd (upd f (x + 0) kd) (x + 1) rf) (x + 2) fi) (x + 3) se) (x + 4) (-1)) (x + 5) (if 268435456 < si then 268435456 else si)) (x + 6) pl)))]) (va_A [(h0, .inr (4, [.ref q, .int (nI x), g2, g3, g4, g5, g6, g7, g8])), (q, .inl (cI, n, .inl f))] sz)) 0 0 (va_A [(h0, .inr (4, [.ref q, .int (nI x), g2, g3, g4, g5, g6, g7, g8])), (q, .inl (cI, n, .inl f))] sz) := by
  refine Met.ofW (cc := b_Terms_node) (maxL := 8) (ret := (some .int)) (by decide) rfl ?_
  intro p e s m args below meth c s₁ B hml hv
  obtain ⟨rfl, hsz, hP, ⟨hK, hN⟩, hD0⟩ := hv
  have hx := B.exec
  have hb := B.bytes
  have hr := B.returns
  have hts0 := atoms_spec (ws := zc y_Terms_node b_Terms_node 8 (some .int)) B.pre
  have hts : ∀ w ∈ zw, w.before _ s = true := fun w hw => hts0 w (List.mem_cons_of_mem _ hw)
  have hown : s.vm.findClass "ProofDesk$Terms" = some m.cls := findClass_of_methodNamed B.named
  have hlocks := B.notSynchronized
  subst hsz
  have hD := hD0.self (sz := s.heap.size)
  generalize hAe : va_A [(h0, .inr (4, [.ref q, .int (nI x), g2, g3, g4, g5, g6, g7, g8])), (q, .inl (cI, n, .inl f))] s.heap.size = A at hD ⊢
  have hA : ∀ q : Nat, s.heap.size ≤ q → A q := fun q h => by rw [← hAe]; exact Or.inr h
  have hS : va_S A s.heap s.heap [] := va_S.rf
  have hP : va_P D zcl [(h0, .inr (4, [.ref q, .int (nI x), g2, g3, g4, g5, g6, g7, g8])), (q, .inl (cI, n, .inl f))] s.heap := hP
  have hl := lv_entry ([.ref h0, .int kd, .int rf, .int fi, .int se, .int si, .int pl]) (n := 8) (Nat.le_of_ble_eq_true rfl)
  rw [lg_entry_eq]
  generalize (lg_sl ([.ref h0, .int kd, .int rf, .int fi, .int se, .int si, .int pl]) ++ List.replicate (8 - (lg_sl ([.ref h0, .int kd, .int rf, .int fi, .int se, .int si, .int pl])).length) Slot.unset).toArray = ls at hl ⊢
  have hl : lv_has ls 8 [(0, .ref h0), (1, .int kd), (2, .int rf), (3, .int fi), (4, .int se), (5, .int si), (6, .int pl)] := hl
  refine lv_aload_n hx hb d_Terms_node_0 rfl (lv_at hl 0 rfl) ?_
  refine va_get (D := D) (ci := 4) (v := .int (nI x)) (C := "ProofDesk$Terms") (T := F_Terms) (N := 9) hx hb hts in_Terms hown hK hP 0 rfl rfl 1 (by decide) (hts _ kw_175) (fun _ h9 => h9) rfl d_Terms_node_1 ?_
  refine lv_bipush (v := 7) hx hb d_Terms_node_4 (by decide) ?_
  refine lv_iadd hx hb d_Terms_node_6 ?_
  refine zz_i (y := nI (x + 7)) (nI_add x 7) ?_
  refine lv_aload_n hx hb d_Terms_node_7 rfl (lv_at hl 0 rfl) ?_
  refine va_get (D := D) (ci := 4) (v := .ref q) (C := "ProofDesk$Terms") (T := F_Terms) (N := 9) hx hb hts in_Terms hown hK hP 0 rfl rfl 0 (by decide) (hts _ kw_174) (fun _ h9 => h9) rfl d_Terms_node_8 ?_
  refine va_alen (v := (nI n)) hx hb hK hP 1 0 rfl rfl rfl d_Terms_node_11 ?_
  have hc_1 : ((nI (x + 7)) : Int32) ≤ (nI n) := nI_le (by omega) (by omega)
  refine lv_icmp_le hx hb d_Terms_node_12 rfl (fun _ => ?_) (fun h => absurd hc_1 h)
  refine lv_aload_n hx hb d_Terms_node_33 rfl (lv_at hl 0 rfl) ?_
  refine va_get (D := D) (ci := 4) (v := .int (nI x)) (C := "ProofDesk$Terms") (T := F_Terms) (N := 9) hx hb hts in_Terms hown hK hP 0 rfl rfl 1 (by decide) (hts _ kw_175) (fun _ h9 => h9) rfl d_Terms_node_34 ?_
  refine lv_istore (lv' := [(7, .int (nI x)), (0, .ref h0), (1, .int kd), (2, .int rf), (3, .int fi), (4, .int se), (5, .int si), (6, .int pl)]) hx hb d_Terms_node_37 hl (by decide) rfl (fun ls hl => ?_)
  refine lv_aload_n hx hb d_Terms_node_39 rfl (lv_at hl 1 rfl) ?_
  refine va_get (D := D) (ci := 4) (v := .ref q) (C := "ProofDesk$Terms") (T := F_Terms) (N := 9) hx hb hts in_Terms hown hK hP 0 rfl rfl 0 (by decide) (hts _ kw_174) (fun _ h9 => h9) rfl d_Terms_node_40 ?_
  refine lv_iload hx hb d_Terms_node_43 (lv_at hl 0 rfl) ?_
  refine lv_iconst (v := 0) hx hb d_Terms_node_45 (by decide) ?_
  refine lv_iadd hx hb d_Terms_node_46 ?_
  refine zz_i (y := nI (x + 0)) (nI_add x 0) ?_
  refine lv_iload_n hx hb d_Terms_node_47 rfl (lv_at hl 2 rfl) ?_
  refine zz_iast hx hb hK hP hD hS 1 0 rfl rfl (i := (nI (x + 0))) (x := kd) (x + 0) (zix_nI (by omega) (by omega)) d_Terms_node_48 (fun H locs hP hD hS => ?_)
  have hP : va_P D zcl [(h0, .inr (4, [.ref q, .int (nI x), g2, g3, g4, g5, g6, g7, g8])), (q, .inl (cI, n, .inl (upd f (x + 0) kd)))] H := hP
  have hD : va_D A [(h0, .inr (4, [.ref q, .int (nI x), g2, g3, g4, g5, g6, g7, g8])), (q, .inl (cI, n, .inl (upd f (x + 0) kd)))] := hD
  refine lv_aload_n hx hb d_Terms_node_49 rfl (lv_at hl 1 rfl) ?_
  refine va_get (D := D) (ci := 4) (v := .ref q) (C := "ProofDesk$Terms") (T := F_Terms) (N := 9) hx hb hts in_Terms hown hK hP 0 rfl rfl 0 (by decide) (hts _ kw_174) (fun _ h9 => h9) rfl d_Terms_node_50 ?_
  refine lv_iload hx hb d_Terms_node_53 (lv_at hl 0 rfl) ?_
  refine lv_iconst (v := 1) hx hb d_Terms_node_55 (by decide) ?_
  refine lv_iadd hx hb d_Terms_node_56 ?_
  refine zz_i (y := nI (x + 1)) (nI_add x 1) ?_
  refine lv_iload_n hx hb d_Terms_node_57 rfl (lv_at hl 3 rfl) ?_
  refine zz_iast hx hb hK hP hD hS 1 0 rfl rfl (i := (nI (x + 1))) (x := rf) (x + 1) (zix_nI (by omega) (by omega)) d_Terms_node_58 (fun H locs hP hD hS => ?_)
  have hP : va_P D zcl [(h0, .inr (4, [.ref q, .int (nI x), g2, g3, g4, g5, g6, g7, g8])), (q, .inl (cI, n, .inl (upd (upd f (x + 0) kd) (x + 1) rf)))] H := hP
  have hD : va_D A [(h0, .inr (4, [.ref q, .int (nI x), g2, g3, g4, g5, g6, g7, g8])), (q, .inl (cI, n, .inl (upd (upd f (x + 0) kd) (x + 1) rf)))] := hD
  refine lv_aload_n hx hb d_Terms_node_59 rfl (lv_at hl 1 rfl) ?_
  refine va_get (D := D) (ci := 4) (v := .ref q) (C := "ProofDesk$Terms") (T := F_Terms) (N := 9) hx hb hts in_Terms hown hK hP 0 rfl rfl 0 (by decide) (hts _ kw_174) (fun _ h9 => h9) rfl d_Terms_node_60 ?_
  refine lv_iload hx hb d_Terms_node_63 (lv_at hl 0 rfl) ?_
  refine lv_iconst (v := 2) hx hb d_Terms_node_65 (by decide) ?_
  refine lv_iadd hx hb d_Terms_node_66 ?_
  refine zz_i (y := nI (x + 2)) (nI_add x 2) ?_
  refine lv_iload_n hx hb d_Terms_node_67 rfl (lv_at hl 4 rfl) ?_
  refine zz_iast hx hb hK hP hD hS 1 0 rfl rfl (i := (nI (x + 2))) (x := fi) (x + 2) (zix_nI (by omega) (by omega)) d_Terms_node_68 (fun H locs hP hD hS => ?_)
  have hP : va_P D zcl [(h0, .inr (4, [.ref q, .int (nI x), g2, g3, g4, g5, g6, g7, g8])), (q, .inl (cI, n, .inl (upd (upd (upd f (x + 0) kd) (x + 1) rf) (x + 2) fi)))] H := hP
  have hD : va_D A [(h0, .inr (4, [.ref q, .int (nI x), g2, g3, g4, g5, g6, g7, g8])), (q, .inl (cI, n, .inl (upd (upd (upd f (x + 0) kd) (x + 1) rf) (x + 2) fi)))] := hD
  refine lv_aload_n hx hb d_Terms_node_69 rfl (lv_at hl 1 rfl) ?_
  refine va_get (D := D) (ci := 4) (v := .ref q) (C := "ProofDesk$Terms") (T := F_Terms) (N := 9) hx hb hts in_Terms hown hK hP 0 rfl rfl 0 (by decide) (hts _ kw_174) (fun _ h9 => h9) rfl d_Terms_node_70 ?_
  refine lv_iload hx hb d_Terms_node_73 (lv_at hl 0 rfl) ?_
  refine lv_iconst (v := 3) hx hb d_Terms_node_75 (by decide) ?_
  refine lv_iadd hx hb d_Terms_node_76 ?_
  refine zz_i (y := nI (x + 3)) (nI_add x 3) ?_
  refine lv_iload hx hb d_Terms_node_77 (lv_at hl 5 rfl) ?_
  refine zz_iast hx hb hK hP hD hS 1 0 rfl rfl (i := (nI (x + 3))) (x := se) (x + 3) (zix_nI (by omega) (by omega)) d_Terms_node_79 (fun H locs hP hD hS => ?_)
  have hP : va_P D zcl [(h0, .inr (4, [.ref q, .int (nI x), g2, g3, g4, g5, g6, g7, g8])), (q, .inl (cI, n, .inl (upd (upd (upd (upd f (x + 0) kd) (x + 1) rf) (x + 2) fi) (x + 3) se)))] H := hP
  have hD : va_D A [(h0, .inr (4, [.ref q, .int (nI x), g2, g3, g4, g5, g6, g7, g8])), (q, .inl (cI, n, .inl (upd (upd (upd (upd f (x + 0) kd) (x + 1) rf) (x + 2) fi) (x + 3) se)))] := hD
  refine lv_aload_n hx hb d_Terms_node_80 rfl (lv_at hl 1 rfl) ?_
  refine va_get (D := D) (ci := 4) (v := .ref q) (C := "ProofDesk$Terms") (T := F_Terms) (N := 9) hx hb hts in_Terms hown hK hP 0 rfl rfl 0 (by decide) (hts _ kw_174) (fun _ h9 => h9) rfl d_Terms_node_81 ?_
  refine lv_iload hx hb d_Terms_node_84 (lv_at hl 0 rfl) ?_
  refine lv_iconst (v := 4) hx hb d_Terms_node_86 (by decide) ?_
  refine lv_iadd hx hb d_Terms_node_87 ?_
  refine zz_i (y := nI (x + 4)) (nI_add x 4) ?_
  refine lv_iconst (v := (-1)) hx hb d_Terms_node_88 (by decide) ?_
  refine zz_iast hx hb hK hP hD hS 1 0 rfl rfl (i := (nI (x + 4))) (x := (-1)) (x + 4) (zix_nI (by omega) (by omega)) d_Terms_node_89 (fun H locs hP hD hS => ?_)
  have hP : va_P D zcl [(h0, .inr (4, [.ref q, .int (nI x), g2, g3, g4, g5, g6, g7, g8])), (q, .inl (cI, n, .inl (upd (upd (upd (upd (upd f (x + 0) kd) (x + 1) rf) (x + 2) fi) (x + 3) se) (x + 4) (-1))))] H := hP
  have hD : va_D A [(h0, .inr (4, [.ref q, .int (nI x), g2, g3, g4, g5, g6, g7, g8])), (q, .inl (cI, n, .inl (upd (upd (upd (upd (upd f (x + 0) kd) (x + 1) rf) (x + 2) fi) (x + 3) se) (x + 4) (-1))))] := hD
  refine lv_aload_n hx hb d_Terms_node_90 rfl (lv_at hl 1 rfl) ?_
  refine va_get (D := D) (ci := 4) (v := .ref q) (C := "ProofDesk$Terms") (T := F_Terms) (N := 9) hx hb hts in_Terms hown hK hP 0 rfl rfl 0 (by decide) (hts _ kw_174) (fun _ h9 => h9) rfl d_Terms_node_91 ?_
  refine lv_iload hx hb d_Terms_node_94 (lv_at hl 0 rfl) ?_
  refine lv_iconst (v := 5) hx hb d_Terms_node_96 (by decide) ?_
  refine lv_iadd hx hb d_Terms_node_97 ?_
  refine zz_i (y := nI (x + 5)) (nI_add x 5) ?_
  refine lv_iload hx hb d_Terms_node_98 (lv_at hl 6 rfl) ?_
  refine lv_ldc (v := 268435456) hx hb hown (hts _ kw_746) d_Terms_node_100 ?_
  refine va_mmin hx hb (hml.trans hl.1.symm) hown (hts _ kw_747) (hts _ kw_129) (hts _ kw_6) (by exact hts _ kw_130) (Nat.le_of_ble_eq_true rfl) (Nat.le_of_ble_eq_true rfl) (show 0 ≤ 0 by omega) (show 0 ≤ 0 by omega) d_Terms_node_102 ?_
  refine zz_i (y := (if 268435456 < si then 268435456 else si)) (rfl) ?_
  refine zz_iast hx hb hK hP hD hS 1 0 rfl rfl (i := (nI (x + 5))) (x := (if 268435456 < si then 268435456 else si)) (x + 5) (zix_nI (by omega) (by omega)) d_Terms_node_105 (fun H locs hP hD hS => ?_)
  have hP : va_P D zcl [(h0, .inr (4, [.ref q, .int (nI x), g2, g3, g4, g5, g6, g7, g8])), (q, .inl (cI, n, .inl (upd (upd (upd (upd (upd (upd f (x + 0) kd) (x + 1) rf) (x + 2) fi) (x + 3) se) (x + 4) (-1)) (x + 5) (if 268435456 < si then 268435456 else si))))] H := hP
  have hD : va_D A [(h0, .inr (4, [.ref q, .int (nI x), g2, g3, g4, g5, g6, g7, g8])), (q, .inl (cI, n, .inl (upd (upd (upd (upd (upd (upd f (x + 0) kd) (x + 1) rf) (x + 2) fi) (x + 3) se) (x + 4) (-1)) (x + 5) (if 268435456 < si then 268435456 else si))))] := hD
  refine lv_aload_n hx hb d_Terms_node_106 rfl (lv_at hl 1 rfl) ?_
  refine va_get (D := D) (ci := 4) (v := .ref q) (C := "ProofDesk$Terms") (T := F_Terms) (N := 9) hx hb hts in_Terms hown hK hP 0 rfl rfl 0 (by decide) (hts _ kw_174) (fun _ h9 => h9) rfl d_Terms_node_107 ?_
  refine lv_iload hx hb d_Terms_node_110 (lv_at hl 0 rfl) ?_
  refine lv_bipush (v := 6) hx hb d_Terms_node_112 (by decide) ?_
  refine lv_iadd hx hb d_Terms_node_114 ?_
  refine zz_i (y := nI (x + 6)) (nI_add x 6) ?_
  refine lv_iload hx hb d_Terms_node_115 (lv_at hl 7 rfl) ?_
  refine zz_iast hx hb hK hP hD hS 1 0 rfl rfl (i := (nI (x + 6))) (x := pl) (x + 6) (zix_nI (by omega) (by omega)) d_Terms_node_117 (fun H locs hP hD hS => ?_)
  have hP : va_P D zcl [(h0, .inr (4, [.ref q, .int (nI x), g2, g3, g4, g5, g6, g7, g8])), (q, .inl (cI, n, .inl (upd (upd (upd (upd (upd (upd (upd f (x + 0) kd) (x + 1) rf) (x + 2) fi) (x + 3) se) (x + 4) (-1)) (x + 5) (if 268435456 < si then 268435456 else si)) (x + 6) pl)))] H := hP
  have hD : va_D A [(h0, .inr (4, [.ref q, .int (nI x), g2, g3, g4, g5, g6, g7, g8])), (q, .inl (cI, n, .inl (upd (upd (upd (upd (upd (upd (upd f (x + 0) kd) (x + 1) rf) (x + 2) fi) (x + 3) se) (x + 4) (-1)) (x + 5) (if 268435456 < si then 268435456 else si)) (x + 6) pl)))] := hD
  refine lv_aload_n hx hb d_Terms_node_118 rfl (lv_at hl 1 rfl) ?_
  refine lv_dup hx hb d_Terms_node_119 rfl ?_
  refine va_get (D := D) (ci := 4) (v := .int (nI x)) (C := "ProofDesk$Terms") (T := F_Terms) (N := 9) hx hb hts in_Terms hown hK hP 0 rfl rfl 1 (by decide) (hts _ kw_175) (fun _ h9 => h9) rfl d_Terms_node_120 ?_
  refine lv_bipush (v := 7) hx hb d_Terms_node_123 (by decide) ?_
  refine lv_iadd hx hb d_Terms_node_125 ?_
  refine zz_i (y := nI (x + 7)) (nI_add x 7) ?_
  refine va_put (D := D) (ci := 4) (v := .int (nI (x + 7))) (ty := .int) (C := "ProofDesk$Terms") (T := F_Terms) (N := 9) hx hb hts in_Terms t_Terms t_Terms_ok n_Terms hown hK hP hD hS 0 rfl rfl 1 (by decide) (hts _ kw_175) (fun _ h9 => h9) rfl (by decide +kernel) rfl rfl (Nat.le_of_ble_eq_true rfl) d_Terms_node_126 (fun H locs hP hD hS => ?_)
  have hP : va_P D zcl [(h0, .inr (4, [.ref q, .int (nI (x + 7)), g2, g3, g4, g5, g6, g7, g8])), (q, .inl (cI, n, .inl (upd (upd (upd (upd (upd (upd (upd f (x + 0) kd) (x + 1) rf) (x + 2) fi) (x + 3) se) (x + 4) (-1)) (x + 5) (if 268435456 < si then 268435456 else si)) (x + 6) pl)))] H := hP
  have hD : va_D A [(h0, .inr (4, [.ref q, .int (nI (x + 7)), g2, g3, g4, g5, g6, g7, g8])), (q, .inl (cI, n, .inl (upd (upd (upd (upd (upd (upd (upd f (x + 0) kd) (x + 1) rf) (x + 2) fi) (x + 3) se) (x + 4) (-1)) (x + 5) (if 268435456 < si then 268435456 else si)) (x + 6) pl)))] := hD
  refine lv_iload hx hb d_Terms_node_129 (lv_at hl 0 rfl) ?_
  have hP9 := hP.sub (ws' := [(h0, .inr (4, [.ref q, .int (nI (x + 7)), g2, g3, g4, g5, g6, g7, g8])), (q, .inl (cI, n, .inl (upd (upd (upd (upd (upd (upd (upd f (x + 0) kd) (x + 1) rf) (x + 2) fi) (x + 3) se) (x + 4) (-1)) (x + 5) (if 268435456 < si then 268435456 else si)) (x + 6) pl)))]) [0, 1] rfl
  have hD9 := hD.sub (ws' := [(h0, .inr (4, [.ref q, .int (nI (x + 7)), g2, g3, g4, g5, g6, g7, g8])), (q, .inl (cI, n, .inl (upd (upd (upd (upd (upd (upd (upd f (x + 0) kd) (x + 1) rf) (x + 2) fi) (x + 3) se) (x + 4) (-1)) (x + 5) (if 268435456 < si then 268435456 else si)) (x + 6) pl)))]) [0, 1] (by decide +kernel) rfl
  refine W.widen (k := 0) (n := 0) (by omega) (by omega) ?_
  exact W.iret (v := (nI x)) hx hb hr (fun t ht hW => ⟨⟨(nI x), (), rfl, rfl, by rw [ht]; exact hP9, hD9⟩, hS.F ht⟩) hS.2.2 d_Terms_node_131
theorem d_Terms_node_15 : decode b_Terms_node 15 = .ok (.aload_n 0, 1) := by decide +kernel
theorem d_Terms_node_16 : decode b_Terms_node 16 = .ok (.aload_n 0, 1) := by decide +kernel
theorem d_Terms_node_17 : decode b_Terms_node 17 = .ok (.getfield 11, 3) := by decide +kernel
theorem d_Terms_node_20 : decode b_Terms_node 20 = .ok (.iconst 2, 1) := by decide +kernel
theorem d_Terms_node_21 : decode b_Terms_node 21 = .ok (.aload_n 0, 1) := by decide +kernel
theorem d_Terms_node_22 : decode b_Terms_node 22 = .ok (.getfield 11, 3) := by decide +kernel
theorem d_Terms_node_25 : decode b_Terms_node 25 = .ok (.arraylength, 1) := by decide +kernel
theorem d_Terms_node_26 : decode b_Terms_node 26 = .ok (.imul, 1) := by decide +kernel
theorem d_Terms_node_27 : decode b_Terms_node 27 = .ok (.invokestatic 31, 3) := by decide +kernel
theorem kw_745 : (Jvm.Cond.methodLink "ProofDesk$Terms" (31 : Nat) ({ cls := "java/util/Arrays", name := "copyOf", desc := "([II)[I" } : Jvm.MethodName)) ∈ zw := List.mem_filter.mpr ⟨List.mem_append_right _ (List.mem_of_getElem? (i := 745) (by decide +kernel)), by decide +kernel⟩
theorem d_Terms_node_30 : decode b_Terms_node 30 = .ok (.putfield 11, 3) := by decide +kernel
set_option maxHeartbeats 4000000 in
set_option maxRecDepth 100000 in
theorem g_Terms_nodeG (l : Launch) (D : va_G) (cI cB cZ cS : ClassId) (sz : Nat) (h0 : Nat) (q : Nat) (n : Nat) (f : Nat → Int32) (g2 : Value) (g3 : Value) (g4 : Value) (g5 : Value) (g6 : Value) (g7 : Value) (g8 : Value) (x : Nat) (kd : Int32) (rf : Int32) (fi : Int32) (se : Int32) (si : Int32) (pl : Int32) (hx9 : n < x + 7) (hx8 : x ≤ n) (h1 : 7 ≤ n) (hN : n ≤ 33554432) : Met l y_Terms_node (zc y_Terms_node b_Terms_node 8 (some .int)) ({ frames := 2, cells := 1, slots := 2 * n, locals := 62 }) (zPc D (zty cI cB cZ cS) [(h0, .inr (4, [.ref q, .int (nI x), g2, g3, g4, g5, g6, g7, g8])), (q, .inl (cI, n, .inl f))] sz [.ref h0, .int kd, .int rf, .int fi, .int se, .int si, .int pl]) (va_Qi (fun (r : Int32) (_ : Unit) => r = (nI x)) (fun _ t => ∃ x1 : Nat, va_P D zcl [(h0, .inr (4, [.ref x1, .int (nI (x + 7)), g2, g3, g4, g5, g6, g7, g8])), (q, .inl (cI, n, .inl f)), (x1, .inl (cI, (2 * n), .inl (upd (upd (upd (upd (upd (upd (upd (zcp f n) (x + 0) kd) (x + 1) rf) (x + 2) fi) (x + 3) se) (x + 4) (-1)) (x + 5) (if 268435456 < si then 268435456 else si)) (x + 6) pl)))] t.heap ∧ va_D (va_A [(h0, .inr (4, [.ref q, .int (nI x), g2, g3, g4, g5, g6, g7, g8])), (q, .inl (cI, n, .inl f))] sz) [(h0, .inr (4, [.ref x1, .int (nI (x + 7)), g2, g3, g4, g5, g6, g7, g8])), (q, .inl (cI, n, .inl f)), (x1, .inl (cI, (2 * n), .inl (upd (upd (upd (upd (upd (upd (upd (zcp f n) (x + 0) kd) (x + 1) rf) (x + 2) fi) (x + 3) se) (x + 4) (-1)) (x + 5) (if 268435456 < si then 268435456 else si)) (x + 6) pl)))]) (va_A [(h0, .inr (4, [.ref q, .int (nI x), g2, g3, g4, g5, g6, g7, g8])), (q, .inl (cI, n, .inl f))] sz)) 1 (2 * n) (va_A [(h0, .inr (4, [.ref q, .int (nI x), g2, g3, g4, g5, g6, g7, g8])), (q, .inl (cI, n, .inl f))] sz) := by
  refine Met.ofW (cc := b_Terms_node) (maxL := 8) (ret := (some .int)) (by decide) rfl ?_
  intro p e s m args below meth c s₁ B hml hv
  obtain ⟨rfl, hsz, hP, ⟨hK, hN⟩, hD0⟩ := hv
  have hx := B.exec
  have hb := B.bytes
  have hr := B.returns
  have hts0 := atoms_spec (ws := zc y_Terms_node b_Terms_node 8 (some .int)) B.pre
  have hts : ∀ w ∈ zw, w.before _ s = true := fun w hw => hts0 w (List.mem_cons_of_mem _ hw)
  have hown : s.vm.findClass "ProofDesk$Terms" = some m.cls := findClass_of_methodNamed B.named
  have hlocks := B.notSynchronized
  subst hsz
  have hD := hD0.self (sz := s.heap.size)
  generalize hAe : va_A [(h0, .inr (4, [.ref q, .int (nI x), g2, g3, g4, g5, g6, g7, g8])), (q, .inl (cI, n, .inl f))] s.heap.size = A at hD ⊢
  have hA : ∀ q : Nat, s.heap.size ≤ q → A q := fun q h => by rw [← hAe]; exact Or.inr h
  have hS : va_S A s.heap s.heap [] := va_S.rf
  have hP : va_P D zcl [(h0, .inr (4, [.ref q, .int (nI x), g2, g3, g4, g5, g6, g7, g8])), (q, .inl (cI, n, .inl f))] s.heap := hP
  have hl := lv_entry ([.ref h0, .int kd, .int rf, .int fi, .int se, .int si, .int pl]) (n := 8) (Nat.le_of_ble_eq_true rfl)
  rw [lg_entry_eq]
  generalize (lg_sl ([.ref h0, .int kd, .int rf, .int fi, .int se, .int si, .int pl]) ++ List.replicate (8 - (lg_sl ([.ref h0, .int kd, .int rf, .int fi, .int se, .int si, .int pl])).length) Slot.unset).toArray = ls at hl ⊢
  have hl : lv_has ls 8 [(0, .ref h0), (1, .int kd), (2, .int rf), (3, .int fi), (4, .int se), (5, .int si), (6, .int pl)] := hl
  refine lv_aload_n hx hb d_Terms_node_0 rfl (lv_at hl 0 rfl) ?_
  refine va_get (D := D) (ci := 4) (v := .int (nI x)) (C := "ProofDesk$Terms") (T := F_Terms) (N := 9) hx hb hts in_Terms hown hK hP 0 rfl rfl 1 (by decide) (hts _ kw_175) (fun _ h9 => h9) rfl d_Terms_node_1 ?_
  refine lv_bipush (v := 7) hx hb d_Terms_node_4 (by decide) ?_
  refine lv_iadd hx hb d_Terms_node_6 ?_
  refine zz_i (y := nI (x + 7)) (nI_add x 7) ?_
  refine lv_aload_n hx hb d_Terms_node_7 rfl (lv_at hl 0 rfl) ?_
  refine va_get (D := D) (ci := 4) (v := .ref q) (C := "ProofDesk$Terms") (T := F_Terms) (N := 9) hx hb hts in_Terms hown hK hP 0 rfl rfl 0 (by decide) (hts _ kw_174) (fun _ h9 => h9) rfl d_Terms_node_8 ?_
  refine va_alen (v := (nI n)) hx hb hK hP 1 0 rfl rfl rfl d_Terms_node_11 ?_
  have hc_1 : ¬ ((nI (x + 7)) : Int32) ≤ (nI n) := nI_ge (by omega) (by omega)
  refine lv_icmp_le hx hb d_Terms_node_12 rfl (fun h => absurd h hc_1) (fun _ => ?_)
  refine lv_aload_n hx hb d_Terms_node_15 rfl (lv_at hl 0 rfl) ?_
  refine lv_aload_n hx hb d_Terms_node_16 rfl (lv_at hl 0 rfl) ?_
  refine va_get (D := D) (ci := 4) (v := .ref q) (C := "ProofDesk$Terms") (T := F_Terms) (N := 9) hx hb hts in_Terms hown hK hP 0 rfl rfl 0 (by decide) (hts _ kw_174) (fun _ h9 => h9) rfl d_Terms_node_17 ?_
  refine lv_iconst (v := 2) hx hb d_Terms_node_20 (by decide) ?_
  refine lv_aload_n hx hb d_Terms_node_21 rfl (lv_at hl 0 rfl) ?_
  refine va_get (D := D) (ci := 4) (v := .ref q) (C := "ProofDesk$Terms") (T := F_Terms) (N := 9) hx hb hts in_Terms hown hK hP 0 rfl rfl 0 (by decide) (hts _ kw_174) (fun _ h9 => h9) rfl d_Terms_node_22 ?_
  refine va_alen (v := (nI n)) hx hb hK hP 1 0 rfl rfl rfl d_Terms_node_25 ?_
  refine lv_imul hx hb d_Terms_node_26 ?_
  refine zz_i (y := nI (2 * n)) (pk_mul 2 n) ?_
  have hPc := hP.sub (ws' := [(q, .inl (cI, n, .inl f))]) [1] rfl
  have hDc := hD.sub (ws' := [(q, .inl (cI, n, .inl f))]) [1] (by decide +kernel) rfl
  have hFc := va_free (wc := [(q, .inl (cI, n, .inl f))]) hD hS hA [1] rfl
  have hkc : 0 + 1 ≤ 1 := by omega
  have hks : 0 + (2 * n) ≤ 2 * n := by omega
  refine va_callr (va_runS (As := [.ref q, .int (nI (2 * n))]) (rest := [.ref h0]) ⟨hx, hb, hml, hown, hts⟩ (c_copyOf_int l D cI cB cZ cS s.heap.size q n f (2 * n) (by omega) (by omega)) (⟨callB_of 2 hts (zgood kw_136) rfl rfl rfl (hts _ kw_5) (hts _ kw_745) (by decide +kernel) ⟨Nat.le_of_ble_eq_true rfl, Nat.le_of_ble_eq_true rfl⟩, hts _ kw_135⟩) (zPreS hPc hK hN hDc) rfl rfl hl.1 rfl (lv_room (Nat.le_of_ble_eq_true rfl)) d_Terms_node_27 ⟨hkc, hks⟩) hS (fun q _ h => hFc q h) hFc (fun u r_2 t H1 locs ht hvm hw hB hz1 hk1 hS => ?_)
  obtain ⟨hP1, hD1⟩ := hB
  rw [ht] at hP1
  obtain ⟨hP, hD⟩ := va_join (wr := [(h0, .inr (4, [.ref q, .int (nI x), g2, g3, g4, g5, g6, g7, g8]))]) (w1 := [(q, .inl (cI, n, .inl f)), (r_2, .inl (cI, (2 * n), .inl (zcp f n)))]) hP hD [1] [0] rfl rfl (by decide +kernel) (by decide +kernel) hk1 hFc hP1 hD1
  generalize H1 = H at hP hS ⊢
  have hP : va_P D zcl [(h0, .inr (4, [.ref q, .int (nI x), g2, g3, g4, g5, g6, g7, g8])), (q, .inl (cI, n, .inl f)), (r_2, .inl (cI, (2 * n), .inl (zcp f n)))] H := hP
  have hD : va_D A [(h0, .inr (4, [.ref q, .int (nI x), g2, g3, g4, g5, g6, g7, g8])), (q, .inl (cI, n, .inl f)), (r_2, .inl (cI, (2 * n), .inl (zcp f n)))] := hD
  refine W.widen (k := 1) (n := (0 + (2 * n))) (by omega) (by omega) ?_
  refine va_put (D := D) (ci := 4) (v := .ref r_2) (ty := (.array .int)) (C := "ProofDesk$Terms") (T := F_Terms) (N := 9) hx hb hts in_Terms t_Terms t_Terms_ok n_Terms hown hK hP hD hS 0 rfl rfl 0 (by decide) (hts _ kw_174) (fun _ h9 => h9) rfl (by decide +kernel) rfl rfl (Nat.le_of_ble_eq_true rfl) d_Terms_node_30 (fun H locs hP hD hS => ?_)
  have hP : va_P D zcl [(h0, .inr (4, [.ref r_2, .int (nI x), g2, g3, g4, g5, g6, g7, g8])), (q, .inl (cI, n, .inl f)), (r_2, .inl (cI, (2 * n), .inl (zcp f n)))] H := hP
  have hD : va_D A [(h0, .inr (4, [.ref r_2, .int (nI x), g2, g3, g4, g5, g6, g7, g8])), (q, .inl (cI, n, .inl f)), (r_2, .inl (cI, (2 * n), .inl (zcp f n)))] := hD
  refine lv_aload_n hx hb d_Terms_node_33 rfl (lv_at hl 0 rfl) ?_
  refine va_get (D := D) (ci := 4) (v := .int (nI x)) (C := "ProofDesk$Terms") (T := F_Terms) (N := 9) hx hb hts in_Terms hown hK hP 0 rfl rfl 1 (by decide) (hts _ kw_175) (fun _ h9 => h9) rfl d_Terms_node_34 ?_
  refine lv_istore (lv' := [(7, .int (nI x)), (0, .ref h0), (1, .int kd), (2, .int rf), (3, .int fi), (4, .int se), (5, .int si), (6, .int pl)]) hx hb d_Terms_node_37 hl (by decide) rfl (fun ls hl => ?_)
  refine lv_aload_n hx hb d_Terms_node_39 rfl (lv_at hl 1 rfl) ?_
  refine va_get (D := D) (ci := 4) (v := .ref r_2) (C := "ProofDesk$Terms") (T := F_Terms) (N := 9) hx hb hts in_Terms hown hK hP 0 rfl rfl 0 (by decide) (hts _ kw_174) (fun _ h9 => h9) rfl d_Terms_node_40 ?_
  refine lv_iload hx hb d_Terms_node_43 (lv_at hl 0 rfl) ?_
  refine lv_iconst (v := 0) hx hb d_Terms_node_45 (by decide) ?_
  refine lv_iadd hx hb d_Terms_node_46 ?_
  refine zz_i (y := nI (x + 0)) (nI_add x 0) ?_
  refine lv_iload_n hx hb d_Terms_node_47 rfl (lv_at hl 2 rfl) ?_
  refine zz_iast hx hb hK hP hD hS 2 0 rfl rfl (i := (nI (x + 0))) (x := kd) (x + 0) (zix_nI (by omega) (by omega)) d_Terms_node_48 (fun H locs hP hD hS => ?_)
  have hP : va_P D zcl [(h0, .inr (4, [.ref r_2, .int (nI x), g2, g3, g4, g5, g6, g7, g8])), (q, .inl (cI, n, .inl f)), (r_2, .inl (cI, (2 * n), .inl (upd (zcp f n) (x + 0) kd)))] H := hP
  have hD : va_D A [(h0, .inr (4, [.ref r_2, .int (nI x), g2, g3, g4, g5, g6, g7, g8])), (q, .inl (cI, n, .inl f)), (r_2, .inl (cI, (2 * n), .inl (upd (zcp f n) (x + 0) kd)))] := hD
  refine lv_aload_n hx hb d_Terms_node_49 rfl (lv_at hl 1 rfl) ?_
  refine va_get (D := D) (ci := 4) (v := .ref r_2) (C := "ProofDesk$Terms") (T := F_Terms) (N := 9) hx hb hts in_Terms hown hK hP 0 rfl rfl 0 (by decide) (hts _ kw_174) (fun _ h9 => h9) rfl d_Terms_node_50 ?_
  refine lv_iload hx hb d_Terms_node_53 (lv_at hl 0 rfl) ?_
  refine lv_iconst (v := 1) hx hb d_Terms_node_55 (by decide) ?_
  refine lv_iadd hx hb d_Terms_node_56 ?_
  refine zz_i (y := nI (x + 1)) (nI_add x 1) ?_
  refine lv_iload_n hx hb d_Terms_node_57 rfl (lv_at hl 3 rfl) ?_
  refine zz_iast hx hb hK hP hD hS 2 0 rfl rfl (i := (nI (x + 1))) (x := rf) (x + 1) (zix_nI (by omega) (by omega)) d_Terms_node_58 (fun H locs hP hD hS => ?_)
  have hP : va_P D zcl [(h0, .inr (4, [.ref r_2, .int (nI x), g2, g3, g4, g5, g6, g7, g8])), (q, .inl (cI, n, .inl f)), (r_2, .inl (cI, (2 * n), .inl (upd (upd (zcp f n) (x + 0) kd) (x + 1) rf)))] H := hP
  have hD : va_D A [(h0, .inr (4, [.ref r_2, .int (nI x), g2, g3, g4, g5, g6, g7, g8])), (q, .inl (cI, n, .inl f)), (r_2, .inl (cI, (2 * n), .inl (upd (upd (zcp f n) (x + 0) kd) (x + 1) rf)))] := hD
  refine lv_aload_n hx hb d_Terms_node_59 rfl (lv_at hl 1 rfl) ?_
  refine va_get (D := D) (ci := 4) (v := .ref r_2) (C := "ProofDesk$Terms") (T := F_Terms) (N := 9) hx hb hts in_Terms hown hK hP 0 rfl rfl 0 (by decide) (hts _ kw_174) (fun _ h9 => h9) rfl d_Terms_node_60 ?_
  refine lv_iload hx hb d_Terms_node_63 (lv_at hl 0 rfl) ?_
  refine lv_iconst (v := 2) hx hb d_Terms_node_65 (by decide) ?_
  refine lv_iadd hx hb d_Terms_node_66 ?_
  refine zz_i (y := nI (x + 2)) (nI_add x 2) ?_
  refine lv_iload_n hx hb d_Terms_node_67 rfl (lv_at hl 4 rfl) ?_
  refine zz_iast hx hb hK hP hD hS 2 0 rfl rfl (i := (nI (x + 2))) (x := fi) (x + 2) (zix_nI (by omega) (by omega)) d_Terms_node_68 (fun H locs hP hD hS => ?_)
  have hP : va_P D zcl [(h0, .inr (4, [.ref r_2, .int (nI x), g2, g3, g4, g5, g6, g7, g8])), (q, .inl (cI, n, .inl f)), (r_2, .inl (cI, (2 * n), .inl (upd (upd (upd (zcp f n) (x + 0) kd) (x + 1) rf) (x + 2) fi)))] H := hP
  have hD : va_D A [(h0, .inr (4, [.ref r_2, .int (nI x), g2, g3, g4, g5, g6, g7, g8])), (q, .inl (cI, n, .inl f)), (r_2, .inl (cI, (2 * n), .inl (upd (upd (upd (zcp f n) (x + 0) kd) (x + 1) rf) (x + 2) fi)))] := hD
  refine lv_aload_n hx hb d_Terms_node_69 rfl (lv_at hl 1 rfl) ?_
  refine va_get (D := D) (ci := 4) (v := .ref r_2) (C := "ProofDesk$Terms") (T := F_Terms) (N := 9) hx hb hts in_Terms hown hK hP 0 rfl rfl 0 (by decide) (hts _ kw_174) (fun _ h9 => h9) rfl d_Terms_node_70 ?_
  refine lv_iload hx hb d_Terms_node_73 (lv_at hl 0 rfl) ?_
  refine lv_iconst (v := 3) hx hb d_Terms_node_75 (by decide) ?_
  refine lv_iadd hx hb d_Terms_node_76 ?_
  refine zz_i (y := nI (x + 3)) (nI_add x 3) ?_
  refine lv_iload hx hb d_Terms_node_77 (lv_at hl 5 rfl) ?_
  refine zz_iast hx hb hK hP hD hS 2 0 rfl rfl (i := (nI (x + 3))) (x := se) (x + 3) (zix_nI (by omega) (by omega)) d_Terms_node_79 (fun H locs hP hD hS => ?_)
  have hP : va_P D zcl [(h0, .inr (4, [.ref r_2, .int (nI x), g2, g3, g4, g5, g6, g7, g8])), (q, .inl (cI, n, .inl f)), (r_2, .inl (cI, (2 * n), .inl (upd (upd (upd (upd (zcp f n) (x + 0) kd) (x + 1) rf) (x + 2) fi) (x + 3) se)))] H := hP
  have hD : va_D A [(h0, .inr (4, [.ref r_2, .int (nI x), g2, g3, g4, g5, g6, g7, g8])), (q, .inl (cI, n, .inl f)), (r_2, .inl (cI, (2 * n), .inl (upd (upd (upd (upd (zcp f n) (x + 0) kd) (x + 1) rf) (x + 2) fi) (x + 3) se)))] := hD
  refine lv_aload_n hx hb d_Terms_node_80 rfl (lv_at hl 1 rfl) ?_
  refine va_get (D := D) (ci := 4) (v := .ref r_2) (C := "ProofDesk$Terms") (T := F_Terms) (N := 9) hx hb hts in_Terms hown hK hP 0 rfl rfl 0 (by decide) (hts _ kw_174) (fun _ h9 => h9) rfl d_Terms_node_81 ?_
  refine lv_iload hx hb d_Terms_node_84 (lv_at hl 0 rfl) ?_
  refine lv_iconst (v := 4) hx hb d_Terms_node_86 (by decide) ?_
  refine lv_iadd hx hb d_Terms_node_87 ?_
  refine zz_i (y := nI (x + 4)) (nI_add x 4) ?_
  refine lv_iconst (v := (-1)) hx hb d_Terms_node_88 (by decide) ?_
  refine zz_iast hx hb hK hP hD hS 2 0 rfl rfl (i := (nI (x + 4))) (x := (-1)) (x + 4) (zix_nI (by omega) (by omega)) d_Terms_node_89 (fun H locs hP hD hS => ?_)
  have hP : va_P D zcl [(h0, .inr (4, [.ref r_2, .int (nI x), g2, g3, g4, g5, g6, g7, g8])), (q, .inl (cI, n, .inl f)), (r_2, .inl (cI, (2 * n), .inl (upd (upd (upd (upd (upd (zcp f n) (x + 0) kd) (x + 1) rf) (x + 2) fi) (x + 3) se) (x + 4) (-1))))] H := hP
  have hD : va_D A [(h0, .inr (4, [.ref r_2, .int (nI x), g2, g3, g4, g5, g6, g7, g8])), (q, .inl (cI, n, .inl f)), (r_2, .inl (cI, (2 * n), .inl (upd (upd (upd (upd (upd (zcp f n) (x + 0) kd) (x + 1) rf) (x + 2) fi) (x + 3) se) (x + 4) (-1))))] := hD
  refine lv_aload_n hx hb d_Terms_node_90 rfl (lv_at hl 1 rfl) ?_
  refine va_get (D := D) (ci := 4) (v := .ref r_2) (C := "ProofDesk$Terms") (T := F_Terms) (N := 9) hx hb hts in_Terms hown hK hP 0 rfl rfl 0 (by decide) (hts _ kw_174) (fun _ h9 => h9) rfl d_Terms_node_91 ?_
  refine lv_iload hx hb d_Terms_node_94 (lv_at hl 0 rfl) ?_
  refine lv_iconst (v := 5) hx hb d_Terms_node_96 (by decide) ?_
  refine lv_iadd hx hb d_Terms_node_97 ?_
  refine zz_i (y := nI (x + 5)) (nI_add x 5) ?_
  refine lv_iload hx hb d_Terms_node_98 (lv_at hl 6 rfl) ?_
  refine lv_ldc (v := 268435456) hx hb hown (hts _ kw_746) d_Terms_node_100 ?_
  refine va_mmin hx hb (hml.trans hl.1.symm) hown (hts _ kw_747) (hts _ kw_129) (hts _ kw_6) (by exact hts _ kw_130) (Nat.le_of_ble_eq_true rfl) (Nat.le_of_ble_eq_true rfl) (show 1 ≤ 1 by omega) (show 0 + (2 * n) ≤ 2 * n by omega) d_Terms_node_102 ?_
  refine zz_i (y := (if 268435456 < si then 268435456 else si)) (rfl) ?_
  refine zz_iast hx hb hK hP hD hS 2 0 rfl rfl (i := (nI (x + 5))) (x := (if 268435456 < si then 268435456 else si)) (x + 5) (zix_nI (by omega) (by omega)) d_Terms_node_105 (fun H locs hP hD hS => ?_)
  have hP : va_P D zcl [(h0, .inr (4, [.ref r_2, .int (nI x), g2, g3, g4, g5, g6, g7, g8])), (q, .inl (cI, n, .inl f)), (r_2, .inl (cI, (2 * n), .inl (upd (upd (upd (upd (upd (upd (zcp f n) (x + 0) kd) (x + 1) rf) (x + 2) fi) (x + 3) se) (x + 4) (-1)) (x + 5) (if 268435456 < si then 268435456 else si))))] H := hP
  have hD : va_D A [(h0, .inr (4, [.ref r_2, .int (nI x), g2, g3, g4, g5, g6, g7, g8])), (q, .inl (cI, n, .inl f)), (r_2, .inl (cI, (2 * n), .inl (upd (upd (upd (upd (upd (upd (zcp f n) (x + 0) kd) (x + 1) rf) (x + 2) fi) (x + 3) se) (x + 4) (-1)) (x + 5) (if 268435456 < si then 268435456 else si))))] := hD
  refine lv_aload_n hx hb d_Terms_node_106 rfl (lv_at hl 1 rfl) ?_
  refine va_get (D := D) (ci := 4) (v := .ref r_2) (C := "ProofDesk$Terms") (T := F_Terms) (N := 9) hx hb hts in_Terms hown hK hP 0 rfl rfl 0 (by decide) (hts _ kw_174) (fun _ h9 => h9) rfl d_Terms_node_107 ?_
  refine lv_iload hx hb d_Terms_node_110 (lv_at hl 0 rfl) ?_
  refine lv_bipush (v := 6) hx hb d_Terms_node_112 (by decide) ?_
  refine lv_iadd hx hb d_Terms_node_114 ?_
  refine zz_i (y := nI (x + 6)) (nI_add x 6) ?_
  refine lv_iload hx hb d_Terms_node_115 (lv_at hl 7 rfl) ?_
  refine zz_iast hx hb hK hP hD hS 2 0 rfl rfl (i := (nI (x + 6))) (x := pl) (x + 6) (zix_nI (by omega) (by omega)) d_Terms_node_117 (fun H locs hP hD hS => ?_)
  have hP : va_P D zcl [(h0, .inr (4, [.ref r_2, .int (nI x), g2, g3, g4, g5, g6, g7, g8])), (q, .inl (cI, n, .inl f)), (r_2, .inl (cI, (2 * n), .inl (upd (upd (upd (upd (upd (upd (upd (zcp f n) (x + 0) kd) (x + 1) rf) (x + 2) fi) (x + 3) se) (x + 4) (-1)) (x + 5) (if 268435456 < si then 268435456 else si)) (x + 6) pl)))] H := hP
  have hD : va_D A [(h0, .inr (4, [.ref r_2, .int (nI x), g2, g3, g4, g5, g6, g7, g8])), (q, .inl (cI, n, .inl f)), (r_2, .inl (cI, (2 * n), .inl (upd (upd (upd (upd (upd (upd (upd (zcp f n) (x + 0) kd) (x + 1) rf) (x + 2) fi) (x + 3) se) (x + 4) (-1)) (x + 5) (if 268435456 < si then 268435456 else si)) (x + 6) pl)))] := hD
  refine lv_aload_n hx hb d_Terms_node_118 rfl (lv_at hl 1 rfl) ?_
  refine lv_dup hx hb d_Terms_node_119 rfl ?_
  refine va_get (D := D) (ci := 4) (v := .int (nI x)) (C := "ProofDesk$Terms") (T := F_Terms) (N := 9) hx hb hts in_Terms hown hK hP 0 rfl rfl 1 (by decide) (hts _ kw_175) (fun _ h9 => h9) rfl d_Terms_node_120 ?_
  refine lv_bipush (v := 7) hx hb d_Terms_node_123 (by decide) ?_
  refine lv_iadd hx hb d_Terms_node_125 ?_
  refine zz_i (y := nI (x + 7)) (nI_add x 7) ?_
  refine va_put (D := D) (ci := 4) (v := .int (nI (x + 7))) (ty := .int) (C := "ProofDesk$Terms") (T := F_Terms) (N := 9) hx hb hts in_Terms t_Terms t_Terms_ok n_Terms hown hK hP hD hS 0 rfl rfl 1 (by decide) (hts _ kw_175) (fun _ h9 => h9) rfl (by decide +kernel) rfl rfl (Nat.le_of_ble_eq_true rfl) d_Terms_node_126 (fun H locs hP hD hS => ?_)
  have hP : va_P D zcl [(h0, .inr (4, [.ref r_2, .int (nI (x + 7)), g2, g3, g4, g5, g6, g7, g8])), (q, .inl (cI, n, .inl f)), (r_2, .inl (cI, (2 * n), .inl (upd (upd (upd (upd (upd (upd (upd (zcp f n) (x + 0) kd) (x + 1) rf) (x + 2) fi) (x + 3) se) (x + 4) (-1)) (x + 5) (if 268435456 < si then 268435456 else si)) (x + 6) pl)))] H := hP
  have hD : va_D A [(h0, .inr (4, [.ref r_2, .int (nI (x + 7)), g2, g3, g4, g5, g6, g7, g8])), (q, .inl (cI, n, .inl f)), (r_2, .inl (cI, (2 * n), .inl (upd (upd (upd (upd (upd (upd (upd (zcp f n) (x + 0) kd) (x + 1) rf) (x + 2) fi) (x + 3) se) (x + 4) (-1)) (x + 5) (if 268435456 < si then 268435456 else si)) (x + 6) pl)))] := hD
  refine lv_iload hx hb d_Terms_node_129 (lv_at hl 0 rfl) ?_
  have hP9 := hP.sub (ws' := [(h0, .inr (4, [.ref r_2, .int (nI (x + 7)), g2, g3, g4, g5, g6, g7, g8])), (q, .inl (cI, n, .inl f)), (r_2, .inl (cI, (2 * n), .inl (upd (upd (upd (upd (upd (upd (upd (zcp f n) (x + 0) kd) (x + 1) rf) (x + 2) fi) (x + 3) se) (x + 4) (-1)) (x + 5) (if 268435456 < si then 268435456 else si)) (x + 6) pl)))]) [0, 1, 2] rfl
  have hD9 := hD.sub (ws' := [(h0, .inr (4, [.ref r_2, .int (nI (x + 7)), g2, g3, g4, g5, g6, g7, g8])), (q, .inl (cI, n, .inl f)), (r_2, .inl (cI, (2 * n), .inl (upd (upd (upd (upd (upd (upd (upd (zcp f n) (x + 0) kd) (x + 1) rf) (x + 2) fi) (x + 3) se) (x + 4) (-1)) (x + 5) (if 268435456 < si then 268435456 else si)) (x + 6) pl)))]) [0, 1, 2] (by decide +kernel) rfl
  refine W.widen (k := 1) (n := (2 * n)) (by omega) (by omega) ?_
  exact W.iret (v := (nI x)) hx hb hr (fun t ht hW => ⟨⟨(nI x), (), rfl, rfl, r_2, by rw [ht]; exact hP9, hD9⟩, hS.F ht⟩) hS.2.2 d_Terms_node_131
