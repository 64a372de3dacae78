abbrev b_Pile_init : ByteArray := prog_7_method_1_code
abbrev y_Pile_init : MethodName := ⟨"ProofDesk$Pile", "<init>", "(I)V"⟩
theorem d_Pile_init_0 : decode b_Pile_init 0 = .ok (.aload_n 0, 1) := by decide +kernel
theorem d_Pile_init_1 : decode b_Pile_init 1 = .ok (.invokespecial 1, 3) := by decide +kernel
theorem kw_44 : (Jvm.Cond.methodLink "ProofDesk$Pile" (1 : Nat) ({ cls := "java/lang/Object", name := "<init>", desc := "()V" } : Jvm.MethodName)) ∈ zw := List.mem_filter.mpr ⟨List.mem_append_right _ (List.mem_of_getElem? (i := 44) (by decide +kernel)), by decide +kernel⟩
theorem kw_31 : (Jvm.Cond.instanceMethod ({ cls := "java/lang/Object", name := "<init>", desc := "()V" } : Jvm.MethodName)) ∈ zw := List.mem_filter.mpr ⟨List.mem_append_right _ (List.mem_of_getElem? (i := 31) (by decide +kernel)), by decide +kernel⟩
theorem kw_32 : (Jvm.Cond.code ({ cls := "java/lang/Object", name := "<init>", desc := "()V" } : Jvm.MethodName) object_method_1_code (1 : Nat) (Option.none : Option Jvm.ClassFile.FieldType)) ∈ zw := List.mem_filter.mpr ⟨List.mem_append_right _ (List.mem_of_getElem? (i := 32) rfl), by decide +kernel⟩
theorem d_Pile_init_4 : decode b_Pile_init 4 = .ok (.aload_n 0, 1) := by decide +kernel
theorem d_Pile_init_5 : decode b_Pile_init 5 = .ok (.iload_n 1, 1) := by decide +kernel
theorem d_Pile_init_6 : decode b_Pile_init 6 = .ok (.putfield 7, 3) := by decide +kernel
theorem kw_45 : (Jvm.Cond.fieldLink "ProofDesk$Pile" (7 : Nat) "ProofDesk$Pile" "width" "I") ∈ zw := List.mem_filter.mpr ⟨List.mem_append_right _ (List.mem_of_getElem? (i := 45) (by decide +kernel)), by decide +kernel⟩
theorem d_Pile_init_9 : decode b_Pile_init 9 = .ok (.aload_n 0, 1) := by decide +kernel
theorem d_Pile_init_10 : decode b_Pile_init 10 = .ok (.bipush 16, 2) := by decide +kernel
theorem d_Pile_init_12 : decode b_Pile_init 12 = .ok (.iload_n 1, 1) := by decide +kernel
theorem d_Pile_init_13 : decode b_Pile_init 13 = .ok (.imul, 1) := by decide +kernel
theorem d_Pile_init_14 : decode b_Pile_init 14 = .ok (.newarray .int, 2) := by decide +kernel
theorem kw_64 : (Jvm.Cond.arrayClass Jvm.ClassFile.FieldType.int) ∈ zw := List.mem_filter.mpr ⟨List.mem_append_right _ (List.mem_of_getElem? (i := 64) (by decide +kernel)), by decide +kernel⟩
theorem d_Pile_init_16 : decode b_Pile_init 16 = .ok (.putfield 13, 3) := by decide +kernel
theorem kw_46 : (Jvm.Cond.fieldLink "ProofDesk$Pile" (13 : Nat) "ProofDesk$Pile" "cells" "[I") ∈ zw := List.mem_filter.mpr ⟨List.mem_append_right _ (List.mem_of_getElem? (i := 46) (by decide +kernel)), by decide +kernel⟩
theorem d_Pile_init_19 : decode b_Pile_init 19 = .ok (.return_, 1) := by decide +kernel
set_option maxHeartbeats 4000000 in
set_option maxRecDepth 100000 in
theorem c_Pile_init1 (l : Launch) (D : va_G) (cI cB cZ cS : ClassId) (sz : Nat) (h0 : Nat) : Met l y_Pile_init (zc y_Pile_init b_Pile_init 2 none) ({ frames := 1, cells := 1, slots := 16, locals := 12 }) (zPc D (zty cI cB cZ cS) [(h0, .inr (0, [.int 0, .null, .int 0]))] sz [.ref h0, .int 1]) (va_Qv (fun _ : Unit => True) (fun _ t => ∃ x1 : Nat, va_P D zcl [(h0, .inr (0, [.int 1, .ref x1, .int 0])), (x1, .inl (cI, 16, .inl (fun _ => 0)))] t.heap ∧ va_D (va_A [(h0, .inr (0, [.int 0, .null, .int 0]))] sz) [(h0, .inr (0, [.int 1, .ref x1, .int 0])), (x1, .inl (cI, 16, .inl (fun _ => 0)))]) (va_A [(h0, .inr (0, [.int 0, .null, .int 0]))] sz)) 1 16 (va_A [(h0, .inr (0, [.int 0, .null, .int 0]))] sz) := by
  refine Met.ofW (cc := b_Pile_init) (maxL := 2) (ret := none) (by decide) rfl ?_
  intro p e s m args below meth c s₁ B hml hv
  obtain ⟨rfl, hsz, hP, ⟨hK, hN⟩, hD0⟩ := hv
  have hx := B.exec
  have hb := B.bytes
  have hr := B.returns
  have hts0 := atoms_spec (ws := zc y_Pile_init b_Pile_init 2 none) B.pre
  have hts : ∀ w ∈ zw, w.before _ s = true := fun w hw => hts0 w (List.mem_cons_of_mem _ hw)
  have hown : s.vm.findClass "ProofDesk$Pile" = some m.cls := findClass_of_methodNamed B.named
  have hlocks := B.notSynchronized
  have hin : meth.name = "<init>" := (name_of_methodNamed B.named B.method).1
  subst hsz
  have hD := hD0.self (sz := s.heap.size)
  generalize hAe : va_A [(h0, .inr (0, [.int 0, .null, .int 0]))] s.heap.size = A at hD ⊢
  have hA : ∀ q : Nat, s.heap.size ≤ q → A q := fun q h => by rw [← hAe]; exact Or.inr h
  have hS : va_S A s.heap s.heap [] := va_S.rf
  have hP : va_P D zcl [(h0, .inr (0, [.int 0, .null, .int 0]))] s.heap := hP
  have hl := lv_entry ([.ref h0, .int 1]) (n := 2) (Nat.le_of_ble_eq_true rfl)
  rw [lg_entry_eq]
  generalize (lg_sl ([.ref h0, .int 1]) ++ List.replicate (2 - (lg_sl ([.ref h0, .int 1])).length) Slot.unset).toArray = ls at hl ⊢
  have hl : lv_has ls 2 [(0, .ref h0), (1, .int 1)] := hl
  refine lv_aload_n hx hb d_Pile_init_0 rfl (lv_at hl 0 rfl) ?_
  refine W.objInit hx hb hown (hts _ kw_44) (hts _ kw_31) (hts _ kw_32) rfl (by rw [hml]; exact hl.1) rfl d_Pile_init_1 (Nat.le_of_ble_eq_true rfl) (Nat.le_of_ble_eq_true rfl) ?_
  refine W.eq (g2 := F0 m 4 ls []) rfl ?_
  refine lv_aload_n hx hb d_Pile_init_4 rfl (lv_at hl 0 rfl) ?_
  refine lv_iload_n hx hb d_Pile_init_5 rfl (lv_at hl 1 rfl) ?_
  refine va_putF (D := D) (ci := 0) (v := .int 1) (ty := .int) (C := "ProofDesk$Pile") (T := F_Pile) (N := 3) hx hb hts in_Pile t_Pile t_Pile_ok n_Pile hown hK hP hD hS 0 rfl rfl 0 (by decide) (hts _ kw_45) (fun _ h9 => h9) rfl hin rfl (by decide +kernel) rfl rfl (Nat.le_of_ble_eq_true rfl) d_Pile_init_6 (fun H locs hP hD hS => ?_)
  have hP : va_P D zcl [(h0, .inr (0, [.int 1, .null, .int 0]))] H := hP
  have hD : va_D A [(h0, .inr (0, [.int 1, .null, .int 0]))] := hD
  refine lv_aload_n hx hb d_Pile_init_9 rfl (lv_at hl 0 rfl) ?_
  refine lv_bipush (v := 16) hx hb d_Pile_init_10 (by decide) ?_
  refine lv_iload_n hx hb d_Pile_init_12 rfl (lv_at hl 1 rfl) ?_
  refine lv_imul hx hb d_Pile_init_13 ?_
  refine zz_i (y := 16) (by decide +kernel) ?_
  have hkc : 0 + 1 ≤ 1 := by omega
  have hks : 0 + 16 ≤ 16 := by omega
  refine zz_newa (atype := .int) (ty := .int) (cA := cI) (a0 := (16, .inl (fun _ => 0))) (N' := 16) hx hb (hts _ kw_64) rfl hK hP hD hS hA 0 rfl (fun _ => rfl) (by decide +kernel) (by decide +kernel) (by decide) hkc hks d_Pile_init_14 (fun q_1 H hP hD hS => ?_)
  have hP : va_P D zcl [(h0, .inr (0, [.int 1, .null, .int 0])), (q_1, .inl (cI, 16, .inl (fun _ => 0)))] H := hP
  have hD : va_D A [(h0, .inr (0, [.int 1, .null, .int 0])), (q_1, .inl (cI, 16, .inl (fun _ => 0)))] := hD
  refine W.widen (k := 1) (n := 16) (by omega) (by omega) ?_
  refine va_put (D := D) (ci := 0) (v := .ref q_1) (ty := (.array .int)) (C := "ProofDesk$Pile") (T := F_Pile) (N := 3) hx hb hts in_Pile t_Pile t_Pile_ok n_Pile hown hK hP hD hS 0 rfl rfl 1 (by decide) (hts _ kw_46) (fun _ h9 => h9) rfl (by decide +kernel) rfl rfl (Nat.le_of_ble_eq_true rfl) d_Pile_init_16 (fun H locs hP hD hS => ?_)
  have hP : va_P D zcl [(h0, .inr (0, [.int 1, .ref q_1, .int 0])), (q_1, .inl (cI, 16, .inl (fun _ => 0)))] H := hP
  have hD : va_D A [(h0, .inr (0, [.int 1, .ref q_1, .int 0])), (q_1, .inl (cI, 16, .inl (fun _ => 0)))] := hD
  have hP9 := hP.sub (ws' := [(h0, .inr (0, [.int 1, .ref q_1, .int 0])), (q_1, .inl (cI, 16, .inl (fun _ => 0)))]) [0, 1] rfl
  have hD9 := hD.sub (ws' := [(h0, .inr (0, [.int 1, .ref q_1, .int 0])), (q_1, .inl (cI, 16, .inl (fun _ => 0)))]) [0, 1] (by decide +kernel) rfl
  refine W.widen (k := 1) (n := 16) (by omega) (by omega) ?_
  exact W.vret hx hb hr (fun t ht hW => ⟨⟨(), rfl, trivial, q_1, by rw [ht]; exact hP9, hD9⟩, hS.F ht⟩) hS.2.2 d_Pile_init_19
set_option maxHeartbeats 4000000 in
set_option maxRecDepth 100000 in
theorem c_Pile_init3 (l : Launch) (D : va_G) (cI cB cZ cS : ClassId) (sz : Nat) (h0 : Nat) : Met l y_Pile_init (zc y_Pile_init b_Pile_init 2 none) ({ frames := 1, cells := 1, slots := 48, locals := 12 }) (zPc D (zty cI cB cZ cS) [(h0, .inr (0, [.int 0, .null, .int 0]))] sz [.ref h0, .int 3]) (va_Qv (fun _ : Unit => True) (fun _ t => ∃ x1 : Nat, va_P D zcl [(h0, .inr (0, [.int 3, .ref x1, .int 0])), (x1, .inl (cI, 48, .inl (fun _ => 0)))] t.heap ∧ va_D (va_A [(h0, .inr (0, [.int 0, .null, .int 0]))] sz) [(h0, .inr (0, [.int 3, .ref x1, .int 0])), (x1, .inl (cI, 48, .inl (fun _ => 0)))]) (va_A [(h0, .inr (0, [.int 0, .null, .int 0]))] sz)) 1 48 (va_A [(h0, .inr (0, [.int 0, .null, .int 0]))] sz) := by
  refine Met.ofW (cc := b_Pile_init) (maxL := 2) (ret := none) (by decide) rfl ?_
  intro p e s m args below meth c s₁ B hml hv
  obtain ⟨rfl, hsz, hP, ⟨hK, hN⟩, hD0⟩ := hv
  have hx := B.exec
  have hb := B.bytes
  have hr := B.returns
  have hts0 := atoms_spec (ws := zc y_Pile_init b_Pile_init 2 none) B.pre
  have hts : ∀ w ∈ zw, w.before _ s = true := fun w hw => hts0 w (List.mem_cons_of_mem _ hw)
  have hown : s.vm.findClass "ProofDesk$Pile" = some m.cls := findClass_of_methodNamed B.named
  have hlocks := B.notSynchronized
  have hin : meth.name = "<init>" := (name_of_methodNamed B.named B.method).1
  subst hsz
  have hD := hD0.self (sz := s.heap.size)
  generalize hAe : va_A [(h0, .inr (0, [.int 0, .null, .int 0]))] s.heap.size = A at hD ⊢
  have hA : ∀ q : Nat, s.heap.size ≤ q → A q := fun q h => by rw [← hAe]; exact Or.inr h
  have hS : va_S A s.heap s.heap [] := va_S.rf
  have hP : va_P D zcl [(h0, .inr (0, [.int 0, .null, .int 0]))] s.heap := hP
  have hl := lv_entry ([.ref h0, .int 3]) (n := 2) (Nat.le_of_ble_eq_true rfl)
  rw [lg_entry_eq]
  generalize (lg_sl ([.ref h0, .int 3]) ++ List.replicate (2 - (lg_sl ([.ref h0, .int 3])).length) Slot.unset).toArray = ls at hl ⊢
  have hl : lv_has ls 2 [(0, .ref h0), (1, .int 3)] := hl
  refine lv_aload_n hx hb d_Pile_init_0 rfl (lv_at hl 0 rfl) ?_
  refine W.objInit hx hb hown (hts _ kw_44) (hts _ kw_31) (hts _ kw_32) rfl (by rw [hml]; exact hl.1) rfl d_Pile_init_1 (Nat.le_of_ble_eq_true rfl) (Nat.le_of_ble_eq_true rfl) ?_
  refine W.eq (g2 := F0 m 4 ls []) rfl ?_
  refine lv_aload_n hx hb d_Pile_init_4 rfl (lv_at hl 0 rfl) ?_
  refine lv_iload_n hx hb d_Pile_init_5 rfl (lv_at hl 1 rfl) ?_
  refine va_putF (D := D) (ci := 0) (v := .int 3) (ty := .int) (C := "ProofDesk$Pile") (T := F_Pile) (N := 3) hx hb hts in_Pile t_Pile t_Pile_ok n_Pile hown hK hP hD hS 0 rfl rfl 0 (by decide) (hts _ kw_45) (fun _ h9 => h9) rfl hin rfl (by decide +kernel) rfl rfl (Nat.le_of_ble_eq_true rfl) d_Pile_init_6 (fun H locs hP hD hS => ?_)
  have hP : va_P D zcl [(h0, .inr (0, [.int 3, .null, .int 0]))] H := hP
  have hD : va_D A [(h0, .inr (0, [.int 3, .null, .int 0]))] := hD
  refine lv_aload_n hx hb d_Pile_init_9 rfl (lv_at hl 0 rfl) ?_
  refine lv_bipush (v := 16) hx hb d_Pile_init_10 (by decide) ?_
  refine lv_iload_n hx hb d_Pile_init_12 rfl (lv_at hl 1 rfl) ?_
  refine lv_imul hx hb d_Pile_init_13 ?_
  refine zz_i (y := 48) (by decide +kernel) ?_
  have hkc : 0 + 1 ≤ 1 := by omega
  have hks : 0 + 48 ≤ 48 := by omega
  refine zz_newa (atype := .int) (ty := .int) (cA := cI) (a0 := (48, .inl (fun _ => 0))) (N' := 48) hx hb (hts _ kw_64) rfl hK hP hD hS hA 0 rfl (fun _ => rfl) (by decide +kernel) (by decide +kernel) (by decide) hkc hks d_Pile_init_14 (fun q_1 H hP hD hS => ?_)
  have hP : va_P D zcl [(h0, .inr (0, [.int 3, .null, .int 0])), (q_1, .inl (cI, 48, .inl (fun _ => 0)))] H := hP
  have hD : va_D A [(h0, .inr (0, [.int 3, .null, .int 0])), (q_1, .inl (cI, 48, .inl (fun _ => 0)))] := hD
  refine W.widen (k := 1) (n := 48) (by omega) (by omega) ?_
  refine va_put (D := D) (ci := 0) (v := .ref q_1) (ty := (.array .int)) (C := "ProofDesk$Pile") (T := F_Pile) (N := 3) hx hb hts in_Pile t_Pile t_Pile_ok n_Pile hown hK hP hD hS 0 rfl rfl 1 (by decide) (hts _ kw_46) (fun _ h9 => h9) rfl (by decide +kernel) rfl rfl (Nat.le_of_ble_eq_true rfl) d_Pile_init_16 (fun H locs hP hD hS => ?_)
  have hP : va_P D zcl [(h0, .inr (0, [.int 3, .ref q_1, .int 0])), (q_1, .inl (cI, 48, .inl (fun _ => 0)))] H := hP
  have hD : va_D A [(h0, .inr (0, [.int 3, .ref q_1, .int 0])), (q_1, .inl (cI, 48, .inl (fun _ => 0)))] := hD
  have hP9 := hP.sub (ws' := [(h0, .inr (0, [.int 3, .ref q_1, .int 0])), (q_1, .inl (cI, 48, .inl (fun _ => 0)))]) [0, 1] rfl
  have hD9 := hD.sub (ws' := [(h0, .inr (0, [.int 3, .ref q_1, .int 0])), (q_1, .inl (cI, 48, .inl (fun _ => 0)))]) [0, 1] (by decide +kernel) rfl
  refine W.widen (k := 1) (n := 48) (by omega) (by omega) ?_
  exact W.vret hx hb hr (fun t ht hW => ⟨⟨(), rfl, trivial, q_1, by rw [ht]; exact hP9, hD9⟩, hS.F ht⟩) hS.2.2 d_Pile_init_19
set_option maxHeartbeats 4000000 in
set_option maxRecDepth 100000 in
theorem c_Pile_init4 (l : Launch) (D : va_G) (cI cB cZ cS : ClassId) (sz : Nat) (h0 : Nat) : Met l y_Pile_init (zc y_Pile_init b_Pile_init 2 none) ({ frames := 1, cells := 1, slots := 64, locals := 12 }) (zPc D (zty cI cB cZ cS) [(h0, .inr (0, [.int 0, .null, .int 0]))] sz [.ref h0, .int 4]) (va_Qv (fun _ : Unit => True) (fun _ t => ∃ x1 : Nat, va_P D zcl [(h0, .inr (0, [.int 4, .ref x1, .int 0])), (x1, .inl (cI, 64, .inl (fun _ => 0)))] t.heap ∧ va_D (va_A [(h0, .inr (0, [.int 0, .null, .int 0]))] sz) [(h0, .inr (0, [.int 4, .ref x1, .int 0])), (x1, .inl (cI, 64, .inl (fun _ => 0)))]) (va_A [(h0, .inr (0, [.int 0, .null, .int 0]))] sz)) 1 64 (va_A [(h0, .inr (0, [.int 0, .null, .int 0]))] sz) := by
  refine Met.ofW (cc := b_Pile_init) (maxL := 2) (ret := none) (by decide) rfl ?_
  intro p e s m args below meth c s₁ B hml hv
  obtain ⟨rfl, hsz, hP, ⟨hK, hN⟩, hD0⟩ := hv
  have hx := B.exec
  have hb := B.bytes
  have hr := B.returns
  have hts0 := atoms_spec (ws := zc y_Pile_init b_Pile_init 2 none) B.pre
  have hts : ∀ w ∈ zw, w.before _ s = true := fun w hw => hts0 w (List.mem_cons_of_mem _ hw)
  have hown : s.vm.findClass "ProofDesk$Pile" = some m.cls := findClass_of_methodNamed B.named
  have hlocks := B.notSynchronized
  have hin : meth.name = "<init>" := (name_of_methodNamed B.named B.method).1
  subst hsz
  have hD := hD0.self (sz := s.heap.size)
  generalize hAe : va_A [(h0, .inr (0, [.int 0, .null, .int 0]))] s.heap.size = A at hD ⊢
  have hA : ∀ q : Nat, s.heap.size ≤ q → A q := fun q h => by rw [← hAe]; exact Or.inr h
  have hS : va_S A s.heap s.heap [] := va_S.rf
  have hP : va_P D zcl [(h0, .inr (0, [.int 0, .null, .int 0]))] s.heap := hP
  have hl := lv_entry ([.ref h0, .int 4]) (n := 2) (Nat.le_of_ble_eq_true rfl)
  rw [lg_entry_eq]
  generalize (lg_sl ([.ref h0, .int 4]) ++ List.replicate (2 - (lg_sl ([.ref h0, .int 4])).length) Slot.unset).toArray = ls at hl ⊢
  have hl : lv_has ls 2 [(0, .ref h0), (1, .int 4)] := hl
  refine lv_aload_n hx hb d_Pile_init_0 rfl (lv_at hl 0 rfl) ?_
  refine W.objInit hx hb hown (hts _ kw_44) (hts _ kw_31) (hts _ kw_32) rfl (by rw [hml]; exact hl.1) rfl d_Pile_init_1 (Nat.le_of_ble_eq_true rfl) (Nat.le_of_ble_eq_true rfl) ?_
  refine W.eq (g2 := F0 m 4 ls []) rfl ?_
  refine lv_aload_n hx hb d_Pile_init_4 rfl (lv_at hl 0 rfl) ?_
  refine lv_iload_n hx hb d_Pile_init_5 rfl (lv_at hl 1 rfl) ?_
  refine va_putF (D := D) (ci := 0) (v := .int 4) (ty := .int) (C := "ProofDesk$Pile") (T := F_Pile) (N := 3) hx hb hts in_Pile t_Pile t_Pile_ok n_Pile hown hK hP hD hS 0 rfl rfl 0 (by decide) (hts _ kw_45) (fun _ h9 => h9) rfl hin rfl (by decide +kernel) rfl rfl (Nat.le_of_ble_eq_true rfl) d_Pile_init_6 (fun H locs hP hD hS => ?_)
  have hP : va_P D zcl [(h0, .inr (0, [.int 4, .null, .int 0]))] H := hP
  have hD : va_D A [(h0, .inr (0, [.int 4, .null, .int 0]))] := hD
  refine lv_aload_n hx hb d_Pile_init_9 rfl (lv_at hl 0 rfl) ?_
  refine lv_bipush (v := 16) hx hb d_Pile_init_10 (by decide) ?_
  refine lv_iload_n hx hb d_Pile_init_12 rfl (lv_at hl 1 rfl) ?_
  refine lv_imul hx hb d_Pile_init_13 ?_
  refine zz_i (y := 64) (by decide +kernel) ?_
  have hkc : 0 + 1 ≤ 1 := by omega
  have hks : 0 + 64 ≤ 64 := by omega
  refine zz_newa (atype := .int) (ty := .int) (cA := cI) (a0 := (64, .inl (fun _ => 0))) (N' := 64) hx hb (hts _ kw_64) rfl hK hP hD hS hA 0 rfl (fun _ => rfl) (by decide +kernel) (by decide +kernel) (by decide) hkc hks d_Pile_init_14 (fun q_1 H hP hD hS => ?_)
  have hP : va_P D zcl [(h0, .inr (0, [.int 4, .null, .int 0])), (q_1, .inl (cI, 64, .inl (fun _ => 0)))] H := hP
  have hD : va_D A [(h0, .inr (0, [.int 4, .null, .int 0])), (q_1, .inl (cI, 64, .inl (fun _ => 0)))] := hD
  refine W.widen (k := 1) (n := 64) (by omega) (by omega) ?_
  refine va_put (D := D) (ci := 0) (v := .ref q_1) (ty := (.array .int)) (C := "ProofDesk$Pile") (T := F_Pile) (N := 3) hx hb hts in_Pile t_Pile t_Pile_ok n_Pile hown hK hP hD hS 0 rfl rfl 1 (by decide) (hts _ kw_46) (fun _ h9 => h9) rfl (by decide +kernel) rfl rfl (Nat.le_of_ble_eq_true rfl) d_Pile_init_16 (fun H locs hP hD hS => ?_)
  have hP : va_P D zcl [(h0, .inr (0, [.int 4, .ref q_1, .int 0])), (q_1, .inl (cI, 64, .inl (fun _ => 0)))] H := hP
  have hD : va_D A [(h0, .inr (0, [.int 4, .ref q_1, .int 0])), (q_1, .inl (cI, 64, .inl (fun _ => 0)))] := hD
  have hP9 := hP.sub (ws' := [(h0, .inr (0, [.int 4, .ref q_1, .int 0])), (q_1, .inl (cI, 64, .inl (fun _ => 0)))]) [0, 1] rfl
  have hD9 := hD.sub (ws' := [(h0, .inr (0, [.int 4, .ref q_1, .int 0])), (q_1, .inl (cI, 64, .inl (fun _ => 0)))]) [0, 1] (by decide +kernel) rfl
  refine W.widen (k := 1) (n := 64) (by omega) (by omega) ?_
  exact W.vret hx hb hr (fun t ht hW => ⟨⟨(), rfl, trivial, q_1, by rw [ht]; exact hP9, hD9⟩, hS.F ht⟩) hS.2.2 d_Pile_init_19
set_option maxHeartbeats 4000000 in
set_option maxRecDepth 100000 in
theorem c_Pile_init5 (l : Launch) (D : va_G) (cI cB cZ cS : ClassId) (sz : Nat) (h0 : Nat) : Met l y_Pile_init (zc y_Pile_init b_Pile_init 2 none) ({ frames := 1, cells := 1, slots := 80, locals := 12 }) (zPc D (zty cI cB cZ cS) [(h0, .inr (0, [.int 0, .null, .int 0]))] sz [.ref h0, .int 5]) (va_Qv (fun _ : Unit => True) (fun _ t => ∃ x1 : Nat, va_P D zcl [(h0, .inr (0, [.int 5, .ref x1, .int 0])), (x1, .inl (cI, 80, .inl (fun _ => 0)))] t.heap ∧ va_D (va_A [(h0, .inr (0, [.int 0, .null, .int 0]))] sz) [(h0, .inr (0, [.int 5, .ref x1, .int 0])), (x1, .inl (cI, 80, .inl (fun _ => 0)))]) (va_A [(h0, .inr (0, [.int 0, .null, .int 0]))] sz)) 1 80 (va_A [(h0, .inr (0, [.int 0, .null, .int 0]))] sz) := by
  refine Met.ofW (cc := b_Pile_init) (maxL := 2) (ret := none) (by decide) rfl ?_
  intro p e s m args below meth c s₁ B hml hv
  obtain ⟨rfl, hsz, hP, ⟨hK, hN⟩, hD0⟩ := hv
  have hx := B.exec
  have hb := B.bytes
  have hr := B.returns
  have hts0 := atoms_spec (ws := zc y_Pile_init b_Pile_init 2 none) B.pre
  have hts : ∀ w ∈ zw, w.before _ s = true := fun w hw => hts0 w (List.mem_cons_of_mem _ hw)
  have hown : s.vm.findClass "ProofDesk$Pile" = some m.cls := findClass_of_methodNamed B.named
  have hlocks := B.notSynchronized
  have hin : meth.name = "<init>" := (name_of_methodNamed B.named B.method).1
  subst hsz
  have hD := hD0.self (sz := s.heap.size)
  generalize hAe : va_A [(h0, .inr (0, [.int 0, .null, .int 0]))] s.heap.size = A at hD ⊢
  have hA : ∀ q : Nat, s.heap.size ≤ q → A q := fun q h => by rw [← hAe]; exact Or.inr h
  have hS : va_S A s.heap s.heap [] := va_S.rf
  have hP : va_P D zcl [(h0, .inr (0, [.int 0, .null, .int 0]))] s.heap := hP
  have hl := lv_entry ([.ref h0, .int 5]) (n := 2) (Nat.le_of_ble_eq_true rfl)
  rw [lg_entry_eq]
  generalize (lg_sl ([.ref h0, .int 5]) ++ List.replicate (2 - (lg_sl ([.ref h0, .int 5])).length) Slot.unset).toArray = ls at hl ⊢
  have hl : lv_has ls 2 [(0, .ref h0), (1, .int 5)] := hl
  refine lv_aload_n hx hb d_Pile_init_0 rfl (lv_at hl 0 rfl) ?_
  refine W.objInit hx hb hown (hts _ kw_44) (hts _ kw_31) (hts _ kw_32) rfl (by rw [hml]; exact hl.1) rfl d_Pile_init_1 (Nat.le_of_ble_eq_true rfl) (Nat.le_of_ble_eq_true rfl) ?_
  refine W.eq (g2 := F0 m 4 ls []) rfl ?_
  refine lv_aload_n hx hb d_Pile_init_4 rfl (lv_at hl 0 rfl) ?_
  refine lv_iload_n hx hb d_Pile_init_5 rfl (lv_at hl 1 rfl) ?_
  refine va_putF (D := D) (ci := 0) (v := .int 5) (ty := .int) (C := "ProofDesk$Pile") (T := F_Pile) (N := 3) hx hb hts in_Pile t_Pile t_Pile_ok n_Pile hown hK hP hD hS 0 rfl rfl 0 (by decide) (hts _ kw_45) (fun _ h9 => h9) rfl hin rfl (by decide +kernel) rfl rfl (Nat.le_of_ble_eq_true rfl) d_Pile_init_6 (fun H locs hP hD hS => ?_)
  have hP : va_P D zcl [(h0, .inr (0, [.int 5, .null, .int 0]))] H := hP
  have hD : va_D A [(h0, .inr (0, [.int 5, .null, .int 0]))] := hD
  refine lv_aload_n hx hb d_Pile_init_9 rfl (lv_at hl 0 rfl) ?_
  refine lv_bipush (v := 16) hx hb d_Pile_init_10 (by decide) ?_
  refine lv_iload_n hx hb d_Pile_init_12 rfl (lv_at hl 1 rfl) ?_
  refine lv_imul hx hb d_Pile_init_13 ?_
  refine zz_i (y := 80) (by decide +kernel) ?_
  have hkc : 0 + 1 ≤ 1 := by omega
  have hks : 0 + 80 ≤ 80 := by omega
  refine zz_newa (atype := .int) (ty := .int) (cA := cI) (a0 := (80, .inl (fun _ => 0))) (N' := 80) hx hb (hts _ kw_64) rfl hK hP hD hS hA 0 rfl (fun _ => rfl) (by decide +kernel) (by decide +kernel) (by decide) hkc hks d_Pile_init_14 (fun q_1 H hP hD hS => ?_)
  have hP : va_P D zcl [(h0, .inr (0, [.int 5, .null, .int 0])), (q_1, .inl (cI, 80, .inl (fun _ => 0)))] H := hP
  have hD : va_D A [(h0, .inr (0, [.int 5, .null, .int 0])), (q_1, .inl (cI, 80, .inl (fun _ => 0)))] := hD
  refine W.widen (k := 1) (n := 80) (by omega) (by omega) ?_
  refine va_put (D := D) (ci := 0) (v := .ref q_1) (ty := (.array .int)) (C := "ProofDesk$Pile") (T := F_Pile) (N := 3) hx hb hts in_Pile t_Pile t_Pile_ok n_Pile hown hK hP hD hS 0 rfl rfl 1 (by decide) (hts _ kw_46) (fun _ h9 => h9) rfl (by decide +kernel) rfl rfl (Nat.le_of_ble_eq_true rfl) d_Pile_init_16 (fun H locs hP hD hS => ?_)
  have hP : va_P D zcl [(h0, .inr (0, [.int 5, .ref q_1, .int 0])), (q_1, .inl (cI, 80, .inl (fun _ => 0)))] H := hP
  have hD : va_D A [(h0, .inr (0, [.int 5, .ref q_1, .int 0])), (q_1, .inl (cI, 80, .inl (fun _ => 0)))] := hD
  have hP9 := hP.sub (ws' := [(h0, .inr (0, [.int 5, .ref q_1, .int 0])), (q_1, .inl (cI, 80, .inl (fun _ => 0)))]) [0, 1] rfl
  have hD9 := hD.sub (ws' := [(h0, .inr (0, [.int 5, .ref q_1, .int 0])), (q_1, .inl (cI, 80, .inl (fun _ => 0)))]) [0, 1] (by decide +kernel) rfl
  refine W.widen (k := 1) (n := 80) (by omega) (by omega) ?_
  exact W.vret hx hb hr (fun t ht hW => ⟨⟨(), rfl, trivial, q_1, by rw [ht]; exact hP9, hD9⟩, hS.F ht⟩) hS.2.2 d_Pile_init_19
abbrev b_Ledger_init : ByteArray := prog_3_method_1_code
abbrev y_Ledger_init : MethodName := ⟨"ProofDesk$Ledger", "<init>", "()V"⟩
theorem d_Ledger_init_0 : decode b_Ledger_init 0 = .ok (.aload_n 0, 1) := by decide +kernel
theorem d_Ledger_init_1 : decode b_Ledger_init 1 = .ok (.invokespecial 3, 3) := by decide +kernel
theorem kw_38 : (Jvm.Cond.methodLink "ProofDesk$Ledger" (3 : Nat) ({ cls := "java/lang/Object", name := "<init>", desc := "()V" } : Jvm.MethodName)) ∈ zw := List.mem_filter.mpr ⟨List.mem_append_right _ (List.mem_of_getElem? (i := 38) (by decide +kernel)), by decide +kernel⟩
theorem d_Ledger_init_4 : decode b_Ledger_init 4 = .ok (.aload_n 0, 1) := by decide +kernel
theorem d_Ledger_init_5 : decode b_Ledger_init 5 = .ok (.new 9, 3) := by decide +kernel
theorem kw_39 : (Jvm.Cond.classLink "ProofDesk$Ledger" (9 : Nat) "ProofDesk$Pile") ∈ zw := List.mem_filter.mpr ⟨List.mem_append_right _ (List.mem_of_getElem? (i := 39) (by decide +kernel)), by decide +kernel⟩
theorem kw_40 : (Jvm.Cond.instantiable "ProofDesk$Pile" (3 : Nat)) ∈ zw := List.mem_filter.mpr ⟨List.mem_append_right _ (List.mem_of_getElem? (i := 40) (by decide +kernel)), by decide +kernel⟩
theorem kw_3 : (Jvm.Cond.initialized "ProofDesk$Pile") ∈ zw := List.mem_filter.mpr ⟨List.mem_append_right _ (List.mem_of_getElem? (i := 3) (by decide +kernel)), by decide +kernel⟩
theorem d_Ledger_init_8 : decode b_Ledger_init 8 = .ok (.dup, 1) := by decide +kernel
theorem d_Ledger_init_9 : decode b_Ledger_init 9 = .ok (.iconst 4, 1) := by decide +kernel
theorem d_Ledger_init_10 : decode b_Ledger_init 10 = .ok (.invokespecial 13, 3) := by decide +kernel
theorem kw_43 : (Jvm.Cond.code ({ cls := "ProofDesk$Pile", name := "<init>", desc := "(I)V" } : Jvm.MethodName) prog_7_method_1_code (2 : Nat) (Option.none : Option Jvm.ClassFile.FieldType)) ∈ zw := List.mem_filter.mpr ⟨List.mem_append_right _ (List.mem_of_getElem? (i := 43) rfl), by decide +kernel⟩
theorem kw_41 : (Jvm.Cond.methodLink "ProofDesk$Ledger" (13 : Nat) ({ cls := "ProofDesk$Pile", name := "<init>", desc := "(I)V" } : Jvm.MethodName)) ∈ zw := List.mem_filter.mpr ⟨List.mem_append_right _ (List.mem_of_getElem? (i := 41) (by decide +kernel)), by decide +kernel⟩
theorem kw_42 : (Jvm.Cond.instanceMethod ({ cls := "ProofDesk$Pile", name := "<init>", desc := "(I)V" } : Jvm.MethodName)) ∈ zw := List.mem_filter.mpr ⟨List.mem_append_right _ (List.mem_of_getElem? (i := 42) (by decide +kernel)), by decide +kernel⟩
theorem d_Ledger_init_13 : decode b_Ledger_init 13 = .ok (.putfield 16, 3) := by decide +kernel
theorem kw_65 : (Jvm.Cond.fieldLink "ProofDesk$Ledger" (16 : Nat) "ProofDesk$Ledger" "verdicts" "LProofDesk$Pile;") ∈ zw := List.mem_filter.mpr ⟨List.mem_append_right _ (List.mem_of_getElem? (i := 65) (by decide +kernel)), by decide +kernel⟩
theorem d_Ledger_init_16 : decode b_Ledger_init 16 = .ok (.aload_n 0, 1) := by decide +kernel
theorem d_Ledger_init_17 : decode b_Ledger_init 17 = .ok (.sipush 5000, 3) := by decide +kernel
theorem d_Ledger_init_20 : decode b_Ledger_init 20 = .ok (.putfield 20, 3) := by decide +kernel
theorem kw_67 : (Jvm.Cond.fieldLink "ProofDesk$Ledger" (20 : Nat) "ProofDesk$Ledger" "fuel" "I") ∈ zw := List.mem_filter.mpr ⟨List.mem_append_right _ (List.mem_of_getElem? (i := 67) (by decide +kernel)), by decide +kernel⟩
theorem d_Ledger_init_23 : decode b_Ledger_init 23 = .ok (.return_, 1) := by decide +kernel
set_option maxHeartbeats 4000000 in
set_option maxRecDepth 100000 in
theorem c_Ledger_init (l : Launch) (D : va_G) (cI cB cZ cS : ClassId) (sz : Nat) (h0 : Nat) : Met l y_Ledger_init (zc y_Ledger_init b_Ledger_init 1 none) ({ frames := 2, cells := 2, slots := 67, locals := 33 }) (zPc D (zty cI cB cZ cS) [(h0, .inr (1, [.null, .int 0, .int 0, .int 0, .int 0, .int 0]))] sz [.ref h0]) (va_Qv (fun _ : Unit => True) (fun _ t => ∃ x1 x2 : Nat, va_P D zcl [(h0, .inr (1, [.ref x1, .int 5000, .int 0, .int 0, .int 0, .int 0])), (x1, .inr (0, [.int 4, .ref x2, .int 0])), (x2, .inl (cI, 64, .inl (fun _ => 0)))] t.heap ∧ va_D (va_A [(h0, .inr (1, [.null, .int 0, .int 0, .int 0, .int 0, .int 0]))] sz) [(h0, .inr (1, [.ref x1, .int 5000, .int 0, .int 0, .int 0, .int 0])), (x1, .inr (0, [.int 4, .ref x2, .int 0])), (x2, .inl (cI, 64, .inl (fun _ => 0)))]) (va_A [(h0, .inr (1, [.null, .int 0, .int 0, .int 0, .int 0, .int 0]))] sz)) 2 67 (va_A [(h0, .inr (1, [.null, .int 0, .int 0, .int 0, .int 0, .int 0]))] sz) := by
  refine Met.ofW (cc := b_Ledger_init) (maxL := 1) (ret := none) (by decide) rfl ?_
  intro p e s m args below meth c s₁ B hml hv
  obtain ⟨rfl, hsz, hP, ⟨hK, hN⟩, hD0⟩ := hv
  have hx := B.exec
  have hb := B.bytes
  have hr := B.returns
  have hts0 := atoms_spec (ws := zc y_Ledger_init b_Ledger_init 1 none) B.pre
  have hts : ∀ w ∈ zw, w.before _ s = true := fun w hw => hts0 w (List.mem_cons_of_mem _ hw)
  have hown : s.vm.findClass "ProofDesk$Ledger" = some m.cls := findClass_of_methodNamed B.named
  have hlocks := B.notSynchronized
  have hin : meth.name = "<init>" := (name_of_methodNamed B.named B.method).1
  subst hsz
  have hD := hD0.self (sz := s.heap.size)
  generalize hAe : va_A [(h0, .inr (1, [.null, .int 0, .int 0, .int 0, .int 0, .int 0]))] s.heap.size = A at hD ⊢
  have hA : ∀ q : Nat, s.heap.size ≤ q → A q := fun q h => by rw [← hAe]; exact Or.inr h
  have hS : va_S A s.heap s.heap [] := va_S.rf
  have hP : va_P D zcl [(h0, .inr (1, [.null, .int 0, .int 0, .int 0, .int 0, .int 0]))] s.heap := hP
  have hl := lv_entry ([.ref h0]) (n := 1) (Nat.le_of_ble_eq_true rfl)
  rw [lg_entry_eq]
  generalize (lg_sl ([.ref h0]) ++ List.replicate (1 - (lg_sl ([.ref h0])).length) Slot.unset).toArray = ls at hl ⊢
  have hl : lv_has ls 1 [(0, .ref h0)] := hl
  refine lv_aload_n hx hb d_Ledger_init_0 rfl (lv_at hl 0 rfl) ?_
  refine W.objInit hx hb hown (hts _ kw_38) (hts _ kw_31) (hts _ kw_32) rfl (by rw [hml]; exact hl.1) rfl d_Ledger_init_1 (Nat.le_of_ble_eq_true rfl) (Nat.le_of_ble_eq_true rfl) ?_
  refine W.eq (g2 := F0 m 4 ls []) rfl ?_
  refine lv_aload_n hx hb d_Ledger_init_4 rfl (lv_at hl 0 rfl) ?_
  have hkc : 0 + 1 ≤ 2 := by omega
  have hks : 0 + 3 ≤ 67 := by omega
  refine va_new (ci := 0) (fs := z0f_Pile) (C := "ProofDesk$Pile") (T := F_Pile) (N := 3) hx hb hts in_Pile t_Pile t_Pile_ok hown (hts _ kw_39) (hts _ kw_40) (hts _ kw_3) hK hP hD hS hA rfl z0_Pile hkc hks d_Ledger_init_5 (fun q_1 H hP hD hS => ?_)
  have hP : va_P D zcl [(h0, .inr (1, [.null, .int 0, .int 0, .int 0, .int 0, .int 0])), (q_1, .inr (0, [.int 0, .null, .int 0]))] H := hP
  have hD : va_D A [(h0, .inr (1, [.null, .int 0, .int 0, .int 0, .int 0, .int 0])), (q_1, .inr (0, [.int 0, .null, .int 0]))] := hD
  refine W.widen (k := 1) (n := 3) (by omega) (by omega) ?_
  refine lv_dup hx hb d_Ledger_init_8 rfl ?_
  refine lv_iconst (v := 4) hx hb d_Ledger_init_9 (by decide) ?_
  have hPc := hP.sub (ws' := [(q_1, .inr (0, [.int 0, .null, .int 0]))]) [1] rfl
  have hDc := hD.sub (ws' := [(q_1, .inr (0, [.int 0, .null, .int 0]))]) [1] (by decide +kernel) rfl
  have hFc := va_free (wc := [(q_1, .inr (0, [.int 0, .null, .int 0]))]) hD hS hA [1] rfl
  have hkc : 1 + 1 ≤ 2 := by omega
  have hks : 3 + 64 ≤ 67 := by omega
  refine va_callv (va_runI (As := [.int 4]) (rest := [.ref q_1, .ref h0]) ⟨hx, hb, hml, hown, hts⟩ (c_Pile_init4 l D cI cB cZ cS H.size q_1) (⟨callB_of 1 hts (zgood kw_43) rfl rfl rfl (hts _ kw_3) (hts _ kw_41) (by decide +kernel) ⟨Nat.le_of_ble_eq_true rfl, Nat.le_of_ble_eq_true rfl⟩, rfl, hts _ kw_42⟩) (zPreS hPc hK hN hDc) rfl rfl hl.1 rfl (lv_room (Nat.le_of_ble_eq_true rfl)) d_Ledger_init_10 ⟨hkc, hks⟩) hS (fun q _ h => hFc q h) hFc (fun u t H1 locs ht hvm hw hB hz1 hk1 hS => ?_)
  obtain ⟨x1_2, hP1, hD1⟩ := hB
  rw [ht] at hP1
  obtain ⟨hP, hD⟩ := va_join (wr := [(h0, .inr (1, [.null, .int 0, .int 0, .int 0, .int 0, .int 0]))]) (w1 := [(q_1, .inr (0, [.int 4, .ref x1_2, .int 0])), (x1_2, .inl (cI, 64, .inl (fun _ => 0)))]) hP hD [1] [0] rfl rfl (by decide +kernel) (by decide +kernel) hk1 hFc hP1 hD1
  generalize H1 = H at hP hS ⊢
  have hP : va_P D zcl [(h0, .inr (1, [.null, .int 0, .int 0, .int 0, .int 0, .int 0])), (q_1, .inr (0, [.int 4, .ref x1_2, .int 0])), (x1_2, .inl (cI, 64, .inl (fun _ => 0)))] H := hP
  have hD : va_D A [(h0, .inr (1, [.null, .int 0, .int 0, .int 0, .int 0, .int 0])), (q_1, .inr (0, [.int 4, .ref x1_2, .int 0])), (x1_2, .inl (cI, 64, .inl (fun _ => 0)))] := hD
  refine W.widen (k := 2) (n := 67) (by omega) (by omega) ?_
  refine va_putF (D := D) (ci := 1) (v := .ref q_1) (ty := (.object "ProofDesk$Pile")) (C := "ProofDesk$Ledger") (T := F_Ledger) (N := 6) hx hb hts in_Ledger t_Ledger t_Ledger_ok n_Ledger hown hK hP hD hS 0 rfl rfl 0 (by decide) (hts _ kw_65) (fun _ h9 => h9) rfl hin rfl (by decide +kernel) rfl rfl (Nat.le_of_ble_eq_true rfl) d_Ledger_init_13 (fun H locs hP hD hS => ?_)
  have hP : va_P D zcl [(h0, .inr (1, [.ref q_1, .int 0, .int 0, .int 0, .int 0, .int 0])), (q_1, .inr (0, [.int 4, .ref x1_2, .int 0])), (x1_2, .inl (cI, 64, .inl (fun _ => 0)))] H := hP
  have hD : va_D A [(h0, .inr (1, [.ref q_1, .int 0, .int 0, .int 0, .int 0, .int 0])), (q_1, .inr (0, [.int 4, .ref x1_2, .int 0])), (x1_2, .inl (cI, 64, .inl (fun _ => 0)))] := hD
  refine lv_aload_n hx hb d_Ledger_init_16 rfl (lv_at hl 0 rfl) ?_
  refine lv_sipush (v := 5000) hx hb d_Ledger_init_17 (by decide) ?_
  refine va_put (D := D) (ci := 1) (v := .int 5000) (ty := .int) (C := "ProofDesk$Ledger") (T := F_Ledger) (N := 6) hx hb hts in_Ledger t_Ledger t_Ledger_ok n_Ledger hown hK hP hD hS 0 rfl rfl 1 (by decide) (hts _ kw_67) (fun _ h9 => h9) rfl (by decide +kernel) rfl rfl (Nat.le_of_ble_eq_true rfl) d_Ledger_init_20 (fun H locs hP hD hS => ?_)
  have hP : va_P D zcl [(h0, .inr (1, [.ref q_1, .int 5000, .int 0, .int 0, .int 0, .int 0])), (q_1, .inr (0, [.int 4, .ref x1_2, .int 0])), (x1_2, .inl (cI, 64, .inl (fun _ => 0)))] H := hP
  have hD : va_D A [(h0, .inr (1, [.ref q_1, .int 5000, .int 0, .int 0, .int 0, .int 0])), (q_1, .inr (0, [.int 4, .ref x1_2, .int 0])), (x1_2, .inl (cI, 64, .inl (fun _ => 0)))] := hD
  have hP9 := hP.sub (ws' := [(h0, .inr (1, [.ref q_1, .int 5000, .int 0, .int 0, .int 0, .int 0])), (q_1, .inr (0, [.int 4, .ref x1_2, .int 0])), (x1_2, .inl (cI, 64, .inl (fun _ => 0)))]) [0, 1, 2] rfl
  have hD9 := hD.sub (ws' := [(h0, .inr (1, [.ref q_1, .int 5000, .int 0, .int 0, .int 0, .int 0])), (q_1, .inr (0, [.int 4, .ref x1_2, .int 0])), (x1_2, .inl (cI, 64, .inl (fun _ => 0)))]) [0, 1, 2] (by decide +kernel) rfl
  refine W.widen (k := 2) (n := 67) (by omega) (by omega) ?_
  exact W.vret hx hb hr (fun t ht hW => ⟨⟨(), rfl, trivial, q_1, x1_2, by rw [ht]; exact hP9, hD9⟩, hS.F ht⟩) hS.2.2 d_Ledger_init_23
