abbrev b_Terms_variable : ByteArray := prog_11_method_3_code
abbrev y_Terms_variable : MethodName := ⟨"ProofDesk$Terms", "variable", "(II)I"⟩
theorem d_Terms_variable_0 : decode b_Terms_variable 0 = .ok (.aload_n 0, 1) := by decide +kernel
theorem d_Terms_variable_1 : decode b_Terms_variable 1 = .ok (.iconst 0, 1) := by decide +kernel
theorem d_Terms_variable_2 : decode b_Terms_variable 2 = .ok (.iload_n 1, 1) := by decide +kernel
theorem d_Terms_variable_3 : decode b_Terms_variable 3 = .ok (.iconst (-1), 1) := by decide +kernel
theorem d_Terms_variable_4 : decode b_Terms_variable 4 = .ok (.iconst (-1), 1) := by decide +kernel
theorem d_Terms_variable_5 : decode b_Terms_variable 5 = .ok (.iconst 1, 1) := by decide +kernel
theorem d_Terms_variable_6 : decode b_Terms_variable 6 = .ok (.iload_n 2, 1) := by decide +kernel
theorem d_Terms_variable_7 : decode b_Terms_variable 7 = .ok (.invokevirtual 44, 3) := by decide +kernel
set_option maxRecDepth 100000 in
theorem kw_744 : (Jvm.Cond.code ({ cls := "ProofDesk$Terms", name := "node", desc := "(IIIIII)I" } : Jvm.MethodName) prog_11_method_2_code (8 : Nat) (Option.some Jvm.ClassFile.FieldType.int)) ∈ zw := List.mem_filter.mpr ⟨List.mem_append_right _ (List.mem_of_getElem? (i := 744) rfl), by decide +kernel⟩
theorem kw_741 : (Jvm.Cond.methodLink "ProofDesk$Terms" (44 : Nat) ({ cls := "ProofDesk$Terms", name := "node", desc := "(IIIIII)I" } : Jvm.MethodName)) ∈ zw := List.mem_filter.mpr ⟨List.mem_append_right _ (List.mem_of_getElem? (i := 741) (by decide +kernel)), by decide +kernel⟩
theorem kw_743 : (Jvm.Cond.instanceMethod ({ cls := "ProofDesk$Terms", name := "node", desc := "(IIIIII)I" } : Jvm.MethodName)) ∈ zw := List.mem_filter.mpr ⟨List.mem_append_right _ (List.mem_of_getElem? (i := 743) (by decide +kernel)), by decide +kernel⟩
theorem kp_16 : (Jvm.Cond.selects "ProofDesk$Terms" ({ cls := "ProofDesk$Terms", name := "node", desc := "(IIIIII)I" } : Jvm.MethodName) ({ cls := "ProofDesk$Terms", name := "node", desc := "(IIIIII)I" } : Jvm.MethodName)) ∈ zw := List.mem_filter.mpr ⟨List.mem_append_left _ (List.mem_of_getElem? (i := 16) (by decide +kernel)), by decide +kernel⟩
theorem d_Terms_variable_10 : decode b_Terms_variable 10 = .ok (.ireturn, 1) := by decide +kernel
set_option maxHeartbeats 4000000 in
set_option maxRecDepth 100000 in
theorem g_Terms_variable (l : Launch) (D : va_G) (cI cB cZ cS : ClassId) (sz : Nat) (h0 : Nat) (q : Nat) (n : Nat) (f : Nat → Int32) (g2 : Value) (g3 : Value) (g4 : Value) (g5 : Value) (g6 : Value) (g7 : Value) (g8 : Value) (x : Nat) (uu : Int32) (pl : Int32) (hx9 : x + 7 ≤ n) (hN : n ≤ 33554432) : Met l y_Terms_variable (zc y_Terms_variable b_Terms_variable 3 (some .int)) ({ frames := 2, cells := 0, slots := 0, locals := 42 }) (zPc D (zty cI cB cZ cS) [(h0, .inr (4, [.ref q, .int (nI x), g2, g3, g4, g5, g6, g7, g8])), (q, .inl (cI, n, .inl f))] sz [.ref h0, .int uu, .int pl]) (va_Qi (fun (r : Int32) (_ : Unit) => r = (nI x)) (fun _ t => va_P D zcl [(h0, .inr (4, [.ref q, .int (nI (x + 7)), g2, g3, g4, g5, g6, g7, g8])), (q, .inl (cI, n, .inl (upd (upd (upd (upd (upd (upd (upd f (x + 0) 0) (x + 1) uu) (x + 2) (-1)) (x + 3) (-1)) (x + 4) (-1)) (x + 5) (if 268435456 < 1 then 268435456 else 1)) (x + 6) pl)))] t.heap ∧ va_D (va_A [(h0, .inr (4, [.ref q, .int (nI x), g2, g3, g4, g5, g6, g7, g8])), (q, .inl (cI, n, .inl f))] sz) [(h0, .inr (4, [.ref q, .int (nI (x + 7)), g2, g3, g4, g5, g6, g7, g8])), (q, .inl (cI, n, .inl (upd (upd (upd (upd (upd (upd (upd f (x + 0) 0) (x + 1) uu) (x + 2) (-1)) (x + 3) (-1)) (x + 4) (-1)) (x + 5) (if 268435456 < 1 then 268435456 else 1)) (x + 6) pl)))]) (va_A [(h0, .inr (4, [.ref q, .int (nI x), g2, g3, g4, g5, g6, g7, g8])), (q, .inl (cI, n, .inl f))] sz)) 0 0 (va_A [(h0, .inr (4, [.ref q, .int (nI x), g2, g3, g4, g5, g6, g7, g8])), (q, .inl (cI, n, .inl f))] sz) := by
  refine Met.ofW (cc := b_Terms_variable) (maxL := 3) (ret := (some .int)) (by decide) rfl ?_
  intro p e s m args below meth c s₁ B hml hv
  obtain ⟨rfl, hsz, hP, ⟨hK, hN⟩, hD0⟩ := hv
  have hx := B.exec
  have hb := B.bytes
  have hr := B.returns
  have hts0 := atoms_spec (ws := zc y_Terms_variable b_Terms_variable 3 (some .int)) B.pre
  have hts : ∀ w ∈ zw, w.before _ s = true := fun w hw => hts0 w (List.mem_cons_of_mem _ hw)
  have hown : s.vm.findClass "ProofDesk$Terms" = some m.cls := findClass_of_methodNamed B.named
  have hlocks := B.notSynchronized
  subst hsz
  have hD := hD0.self (sz := s.heap.size)
  generalize hAe : va_A [(h0, .inr (4, [.ref q, .int (nI x), g2, g3, g4, g5, g6, g7, g8])), (q, .inl (cI, n, .inl f))] s.heap.size = A at hD ⊢
  have hA : ∀ q : Nat, s.heap.size ≤ q → A q := fun q h => by rw [← hAe]; exact Or.inr h
  have hS : va_S A s.heap s.heap [] := va_S.rf
  have hP : va_P D zcl [(h0, .inr (4, [.ref q, .int (nI x), g2, g3, g4, g5, g6, g7, g8])), (q, .inl (cI, n, .inl f))] s.heap := hP
  have hl := lv_entry ([.ref h0, .int uu, .int pl]) (n := 3) (Nat.le_of_ble_eq_true rfl)
  rw [lg_entry_eq]
  generalize (lg_sl ([.ref h0, .int uu, .int pl]) ++ List.replicate (3 - (lg_sl ([.ref h0, .int uu, .int pl])).length) Slot.unset).toArray = ls at hl ⊢
  have hl : lv_has ls 3 [(0, .ref h0), (1, .int uu), (2, .int pl)] := hl
  refine lv_aload_n hx hb d_Terms_variable_0 rfl (lv_at hl 0 rfl) ?_
  refine lv_iconst (v := 0) hx hb d_Terms_variable_1 (by decide) ?_
  refine lv_iload_n hx hb d_Terms_variable_2 rfl (lv_at hl 1 rfl) ?_
  refine lv_iconst (v := (-1)) hx hb d_Terms_variable_3 (by decide) ?_
  refine lv_iconst (v := (-1)) hx hb d_Terms_variable_4 (by decide) ?_
  refine lv_iconst (v := 1) hx hb d_Terms_variable_5 (by decide) ?_
  refine lv_iload_n hx hb d_Terms_variable_6 rfl (lv_at hl 2 rfl) ?_
  have hPc := hP.sub (ws' := [(h0, .inr (4, [.ref q, .int (nI x), g2, g3, g4, g5, g6, g7, g8])), (q, .inl (cI, n, .inl f))]) [0, 1] rfl
  have hDc := hD.sub (ws' := [(h0, .inr (4, [.ref q, .int (nI x), g2, g3, g4, g5, g6, g7, g8])), (q, .inl (cI, n, .inl f))]) [0, 1] (by decide +kernel) rfl
  have hFc := va_free (wc := [(h0, .inr (4, [.ref q, .int (nI x), g2, g3, g4, g5, g6, g7, g8])), (q, .inl (cI, n, .inl f))]) hD hS hA [0, 1] rfl
  have hkc : 0 + 0 ≤ 0 := by omega
  have hks : 0 + 0 ≤ 0 := by omega
  refine va_calli (va_runV (As := [.int 0, .int uu, .int (-1), .int (-1), .int 1, .int pl]) (rest := []) ⟨hx, hb, hml, hown, hts⟩ (g_Terms_node l D cI cB cZ cS s.heap.size h0 q n f g2 g3 g4 g5 g6 g7 g8 x 0 uu (-1) (-1) 1 pl (by omega) (by omega)) (⟨callB_of 6 hts (zgood kw_744) rfl rfl rfl (hts _ kw_9) (hts _ kw_741) (by decide +kernel) ⟨Nat.le_of_ble_eq_true rfl, Nat.le_of_ble_eq_true rfl⟩, hts _ kw_743, hts _ kp_16⟩) (zPreV hPc hK hN hDc (va_recv (q := ("ProofDesk$Terms", F_Terms, 9)) hK hP rfl (q0 := 0) rfl)) rfl rfl hl.1 rfl (lv_room (Nat.le_of_ble_eq_true rfl)) d_Terms_variable_7 ⟨hkc, hks⟩) hS (fun q _ h => hFc q h) hFc (fun r u t H1 locs ht hvm hw hB hz1 hk1 hS => ?_)
  obtain ⟨hP1, hD1⟩ := hB
  rw [ht] at hP1
  obtain ⟨hP, hD⟩ := va_join (wr := []) (w1 := [(h0, .inr (4, [.ref q, .int (nI (x + 7)), g2, g3, g4, g5, g6, g7, g8])), (q, .inl (cI, n, .inl (upd (upd (upd (upd (upd (upd (upd f (x + 0) 0) (x + 1) uu) (x + 2) (-1)) (x + 3) (-1)) (x + 4) (-1)) (x + 5) (if 268435456 < 1 then 268435456 else 1)) (x + 6) pl)))]) hP hD [0, 1] [] rfl rfl (by decide +kernel) (by decide +kernel) hk1 hFc hP1 hD1
  generalize H1 = H at hP hS ⊢
  have hP : va_P D zcl [(h0, .inr (4, [.ref q, .int (nI (x + 7)), g2, g3, g4, g5, g6, g7, g8])), (q, .inl (cI, n, .inl (upd (upd (upd (upd (upd (upd (upd f (x + 0) 0) (x + 1) uu) (x + 2) (-1)) (x + 3) (-1)) (x + 4) (-1)) (x + 5) (if 268435456 < 1 then 268435456 else 1)) (x + 6) pl)))] H := hP
  have hD : va_D A [(h0, .inr (4, [.ref q, .int (nI (x + 7)), g2, g3, g4, g5, g6, g7, g8])), (q, .inl (cI, n, .inl (upd (upd (upd (upd (upd (upd (upd f (x + 0) 0) (x + 1) uu) (x + 2) (-1)) (x + 3) (-1)) (x + 4) (-1)) (x + 5) (if 268435456 < 1 then 268435456 else 1)) (x + 6) pl)))] := hD
  subst hw
  refine W.widen (k := 0) (n := 0) (by omega) (by omega) ?_
  have hP9 := hP.sub (ws' := [(h0, .inr (4, [.ref q, .int (nI (x + 7)), g2, g3, g4, g5, g6, g7, g8])), (q, .inl (cI, n, .inl (upd (upd (upd (upd (upd (upd (upd f (x + 0) 0) (x + 1) uu) (x + 2) (-1)) (x + 3) (-1)) (x + 4) (-1)) (x + 5) (if 268435456 < 1 then 268435456 else 1)) (x + 6) pl)))]) [0, 1] rfl
  have hD9 := hD.sub (ws' := [(h0, .inr (4, [.ref q, .int (nI (x + 7)), g2, g3, g4, g5, g6, g7, g8])), (q, .inl (cI, n, .inl (upd (upd (upd (upd (upd (upd (upd f (x + 0) 0) (x + 1) uu) (x + 2) (-1)) (x + 3) (-1)) (x + 4) (-1)) (x + 5) (if 268435456 < 1 then 268435456 else 1)) (x + 6) pl)))]) [0, 1] (by decide +kernel) rfl
  refine W.widen (k := 0) (n := 0) (by omega) (by omega) ?_
  exact W.iret (v := (nI x)) hx hb hr (fun t ht hW => ⟨⟨(nI x), (), rfl, rfl, by rw [ht]; exact hP9, hD9⟩, hS.F ht⟩) hS.2.2 d_Terms_variable_10
abbrev b_Terms_global : ByteArray := prog_11_method_4_code
abbrev y_Terms_global : MethodName := ⟨"ProofDesk$Terms", "global", "(II)I"⟩
theorem d_Terms_global_0 : decode b_Terms_global 0 = .ok (.aload_n 0, 1) := by decide +kernel
theorem d_Terms_global_1 : decode b_Terms_global 1 = .ok (.iconst 1, 1) := by decide +kernel
theorem d_Terms_global_2 : decode b_Terms_global 2 = .ok (.iload_n 1, 1) := by decide +kernel
theorem d_Terms_global_3 : decode b_Terms_global 3 = .ok (.iconst (-1), 1) := by decide +kernel
theorem d_Terms_global_4 : decode b_Terms_global 4 = .ok (.iconst (-1), 1) := by decide +kernel
theorem d_Terms_global_5 : decode b_Terms_global 5 = .ok (.iconst 1, 1) := by decide +kernel
theorem d_Terms_global_6 : decode b_Terms_global 6 = .ok (.iload_n 2, 1) := by decide +kernel
theorem d_Terms_global_7 : decode b_Terms_global 7 = .ok (.invokevirtual 44, 3) := by decide +kernel
theorem d_Terms_global_10 : decode b_Terms_global 10 = .ok (.ireturn, 1) := by decide +kernel
set_option maxHeartbeats 4000000 in
set_option maxRecDepth 100000 in
theorem g_Terms_global (l : Launch) (D : va_G) (cI cB cZ cS : ClassId) (sz : Nat) (h0 : Nat) (q : Nat) (n : Nat) (f : Nat → Int32) (g2 : Value) (g3 : Value) (g4 : Value) (g5 : Value) (g6 : Value) (g7 : Value) (g8 : Value) (x : Nat) (uu : Int32) (pl : Int32) (hx9 : x + 7 ≤ n) (hN : n ≤ 33554432) : Met l y_Terms_global (zc y_Terms_global b_Terms_global 3 (some .int)) ({ frames := 2, cells := 0, slots := 0, locals := 42 }) (zPc D (zty cI cB cZ cS) [(h0, .inr (4, [.ref q, .int (nI x), g2, g3, g4, g5, g6, g7, g8])), (q, .inl (cI, n, .inl f))] sz [.ref h0, .int uu, .int pl]) (va_Qi (fun (r : Int32) (_ : Unit) => r = (nI x)) (fun _ t => va_P D zcl [(h0, .inr (4, [.ref q, .int (nI (x + 7)), g2, g3, g4, g5, g6, g7, g8])), (q, .inl (cI, n, .inl (upd (upd (upd (upd (upd (upd (upd f (x + 0) 1) (x + 1) uu) (x + 2) (-1)) (x + 3) (-1)) (x + 4) (-1)) (x + 5) (if 268435456 < 1 then 268435456 else 1)) (x + 6) pl)))] t.heap ∧ va_D (va_A [(h0, .inr (4, [.ref q, .int (nI x), g2, g3, g4, g5, g6, g7, g8])), (q, .inl (cI, n, .inl f))] sz) [(h0, .inr (4, [.ref q, .int (nI (x + 7)), g2, g3, g4, g5, g6, g7, g8])), (q, .inl (cI, n, .inl (upd (upd (upd (upd (upd (upd (upd f (x + 0) 1) (x + 1) uu) (x + 2) (-1)) (x + 3) (-1)) (x + 4) (-1)) (x + 5) (if 268435456 < 1 then 268435456 else 1)) (x + 6) pl)))]) (va_A [(h0, .inr (4, [.ref q, .int (nI x), g2, g3, g4, g5, g6, g7, g8])), (q, .inl (cI, n, .inl f))] sz)) 0 0 (va_A [(h0, .inr (4, [.ref q, .int (nI x), g2, g3, g4, g5, g6, g7, g8])), (q, .inl (cI, n, .inl f))] sz) := by
  refine Met.ofW (cc := b_Terms_global) (maxL := 3) (ret := (some .int)) (by decide) rfl ?_
  intro p e s m args below meth c s₁ B hml hv
  obtain ⟨rfl, hsz, hP, ⟨hK, hN⟩, hD0⟩ := hv
  have hx := B.exec
  have hb := B.bytes
  have hr := B.returns
  have hts0 := atoms_spec (ws := zc y_Terms_global b_Terms_global 3 (some .int)) B.pre
  have hts : ∀ w ∈ zw, w.before _ s = true := fun w hw => hts0 w (List.mem_cons_of_mem _ hw)
  have hown : s.vm.findClass "ProofDesk$Terms" = some m.cls := findClass_of_methodNamed B.named
  have hlocks := B.notSynchronized
  subst hsz
  have hD := hD0.self (sz := s.heap.size)
  generalize hAe : va_A [(h0, .inr (4, [.ref q, .int (nI x), g2, g3, g4, g5, g6, g7, g8])), (q, .inl (cI, n, .inl f))] s.heap.size = A at hD ⊢
  have hA : ∀ q : Nat, s.heap.size ≤ q → A q := fun q h => by rw [← hAe]; exact Or.inr h
  have hS : va_S A s.heap s.heap [] := va_S.rf
  have hP : va_P D zcl [(h0, .inr (4, [.ref q, .int (nI x), g2, g3, g4, g5, g6, g7, g8])), (q, .inl (cI, n, .inl f))] s.heap := hP
  have hl := lv_entry ([.ref h0, .int uu, .int pl]) (n := 3) (Nat.le_of_ble_eq_true rfl)
  rw [lg_entry_eq]
  generalize (lg_sl ([.ref h0, .int uu, .int pl]) ++ List.replicate (3 - (lg_sl ([.ref h0, .int uu, .int pl])).length) Slot.unset).toArray = ls at hl ⊢
  have hl : lv_has ls 3 [(0, .ref h0), (1, .int uu), (2, .int pl)] := hl
  refine lv_aload_n hx hb d_Terms_global_0 rfl (lv_at hl 0 rfl) ?_
  refine lv_iconst (v := 1) hx hb d_Terms_global_1 (by decide) ?_
  refine lv_iload_n hx hb d_Terms_global_2 rfl (lv_at hl 1 rfl) ?_
  refine lv_iconst (v := (-1)) hx hb d_Terms_global_3 (by decide) ?_
  refine lv_iconst (v := (-1)) hx hb d_Terms_global_4 (by decide) ?_
  refine lv_iconst (v := 1) hx hb d_Terms_global_5 (by decide) ?_
  refine lv_iload_n hx hb d_Terms_global_6 rfl (lv_at hl 2 rfl) ?_
  have hPc := hP.sub (ws' := [(h0, .inr (4, [.ref q, .int (nI x), g2, g3, g4, g5, g6, g7, g8])), (q, .inl (cI, n, .inl f))]) [0, 1] rfl
  have hDc := hD.sub (ws' := [(h0, .inr (4, [.ref q, .int (nI x), g2, g3, g4, g5, g6, g7, g8])), (q, .inl (cI, n, .inl f))]) [0, 1] (by decide +kernel) rfl
  have hFc := va_free (wc := [(h0, .inr (4, [.ref q, .int (nI x), g2, g3, g4, g5, g6, g7, g8])), (q, .inl (cI, n, .inl f))]) hD hS hA [0, 1] rfl
  have hkc : 0 + 0 ≤ 0 := by omega
  have hks : 0 + 0 ≤ 0 := by omega
  refine va_calli (va_runV (As := [.int 1, .int uu, .int (-1), .int (-1), .int 1, .int pl]) (rest := []) ⟨hx, hb, hml, hown, hts⟩ (g_Terms_node l D cI cB cZ cS s.heap.size h0 q n f g2 g3 g4 g5 g6 g7 g8 x 1 uu (-1) (-1) 1 pl (by omega) (by omega)) (⟨callB_of 6 hts (zgood kw_744) rfl rfl rfl (hts _ kw_9) (hts _ kw_741) (by decide +kernel) ⟨Nat.le_of_ble_eq_true rfl, Nat.le_of_ble_eq_true rfl⟩, hts _ kw_743, hts _ kp_16⟩) (zPreV hPc hK hN hDc (va_recv (q := ("ProofDesk$Terms", F_Terms, 9)) hK hP rfl (q0 := 0) rfl)) rfl rfl hl.1 rfl (lv_room (Nat.le_of_ble_eq_true rfl)) d_Terms_global_7 ⟨hkc, hks⟩) hS (fun q _ h => hFc q h) hFc (fun r u t H1 locs ht hvm hw hB hz1 hk1 hS => ?_)
  obtain ⟨hP1, hD1⟩ := hB
  rw [ht] at hP1
  obtain ⟨hP, hD⟩ := va_join (wr := []) (w1 := [(h0, .inr (4, [.ref q, .int (nI (x + 7)), g2, g3, g4, g5, g6, g7, g8])), (q, .inl (cI, n, .inl (upd (upd (upd (upd (upd (upd (upd f (x + 0) 1) (x + 1) uu) (x + 2) (-1)) (x + 3) (-1)) (x + 4) (-1)) (x + 5) (if 268435456 < 1 then 268435456 else 1)) (x + 6) pl)))]) hP hD [0, 1] [] rfl rfl (by decide +kernel) (by decide +kernel) hk1 hFc hP1 hD1
  generalize H1 = H at hP hS ⊢
  have hP : va_P D zcl [(h0, .inr (4, [.ref q, .int (nI (x + 7)), g2, g3, g4, g5, g6, g7, g8])), (q, .inl (cI, n, .inl (upd (upd (upd (upd (upd (upd (upd f (x + 0) 1) (x + 1) uu) (x + 2) (-1)) (x + 3) (-1)) (x + 4) (-1)) (x + 5) (if 268435456 < 1 then 268435456 else 1)) (x + 6) pl)))] H := hP
  have hD : va_D A [(h0, .inr (4, [.ref q, .int (nI (x + 7)), g2, g3, g4, g5, g6, g7, g8])), (q, .inl (cI, n, .inl (upd (upd (upd (upd (upd (upd (upd f (x + 0) 1) (x + 1) uu) (x + 2) (-1)) (x + 3) (-1)) (x + 4) (-1)) (x + 5) (if 268435456 < 1 then 268435456 else 1)) (x + 6) pl)))] := hD
  subst hw
  refine W.widen (k := 0) (n := 0) (by omega) (by omega) ?_
  have hP9 := hP.sub (ws' := [(h0, .inr (4, [.ref q, .int (nI (x + 7)), g2, g3, g4, g5, g6, g7, g8])), (q, .inl (cI, n, .inl (upd (upd (upd (upd (upd (upd (upd f (x + 0) 1) (x + 1) uu) (x + 2) (-1)) (x + 3) (-1)) (x + 4) (-1)) (x + 5) (if 268435456 < 1 then 268435456 else 1)) (x + 6) pl)))]) [0, 1] rfl
  have hD9 := hD.sub (ws' := [(h0, .inr (4, [.ref q, .int (nI (x + 7)), g2, g3, g4, g5, g6, g7, g8])), (q, .inl (cI, n, .inl (upd (upd (upd (upd (upd (upd (upd f (x + 0) 1) (x + 1) uu) (x + 2) (-1)) (x + 3) (-1)) (x + 4) (-1)) (x + 5) (if 268435456 < 1 then 268435456 else 1)) (x + 6) pl)))]) [0, 1] (by decide +kernel) rfl
  refine W.widen (k := 0) (n := 0) (by omega) (by omega) ?_
  exact W.iret (v := (nI x)) hx hb hr (fun t ht hW => ⟨⟨(nI x), (), rfl, rfl, by rw [ht]; exact hP9, hD9⟩, hS.F ht⟩) hS.2.2 d_Terms_global_10
abbrev b_Terms_sort : ByteArray := prog_11_method_5_code
abbrev y_Terms_sort : MethodName := ⟨"ProofDesk$Terms", "sort", "(II)I"⟩
theorem d_Terms_sort_0 : decode b_Terms_sort 0 = .ok (.aload_n 0, 1) := by decide +kernel
theorem d_Terms_sort_1 : decode b_Terms_sort 1 = .ok (.iconst 2, 1) := by decide +kernel
theorem d_Terms_sort_2 : decode b_Terms_sort 2 = .ok (.iload_n 1, 1) := by decide +kernel
theorem d_Terms_sort_3 : decode b_Terms_sort 3 = .ok (.iconst (-1), 1) := by decide +kernel
theorem d_Terms_sort_4 : decode b_Terms_sort 4 = .ok (.iconst (-1), 1) := by decide +kernel
theorem d_Terms_sort_5 : decode b_Terms_sort 5 = .ok (.iconst 1, 1) := by decide +kernel
theorem d_Terms_sort_6 : decode b_Terms_sort 6 = .ok (.iload_n 2, 1) := by decide +kernel
theorem d_Terms_sort_7 : decode b_Terms_sort 7 = .ok (.invokevirtual 44, 3) := by decide +kernel
theorem d_Terms_sort_10 : decode b_Terms_sort 10 = .ok (.ireturn, 1) := by decide +kernel
set_option maxHeartbeats 4000000 in
set_option maxRecDepth 100000 in
theorem g_Terms_sort (l : Launch) (D : va_G) (cI cB cZ cS : ClassId) (sz : Nat) (h0 : Nat) (q : Nat) (n : Nat) (f : Nat → Int32) (g2 : Value) (g3 : Value) (g4 : Value) (g5 : Value) (g6 : Value) (g7 : Value) (g8 : Value) (x : Nat) (uu : Int32) (pl : Int32) (hx9 : x + 7 ≤ n) (hN : n ≤ 33554432) : Met l y_Terms_sort (zc y_Terms_sort b_Terms_sort 3 (some .int)) ({ frames := 2, cells := 0, slots := 0, locals := 42 }) (zPc D (zty cI cB cZ cS) [(h0, .inr (4, [.ref q, .int (nI x), g2, g3, g4, g5, g6, g7, g8])), (q, .inl (cI, n, .inl f))] sz [.ref h0, .int uu, .int pl]) (va_Qi (fun (r : Int32) (_ : Unit) => r = (nI x)) (fun _ t => va_P D zcl [(h0, .inr (4, [.ref q, .int (nI (x + 7)), g2, g3, g4, g5, g6, g7, g8])), (q, .inl (cI, n, .inl (upd (upd (upd (upd (upd (upd (upd f (x + 0) 2) (x + 1) uu) (x + 2) (-1)) (x + 3) (-1)) (x + 4) (-1)) (x + 5) (if 268435456 < 1 then 268435456 else 1)) (x + 6) pl)))] t.heap ∧ va_D (va_A [(h0, .inr (4, [.ref q, .int (nI x), g2, g3, g4, g5, g6, g7, g8])), (q, .inl (cI, n, .inl f))] sz) [(h0, .inr (4, [.ref q, .int (nI (x + 7)), g2, g3, g4, g5, g6, g7, g8])), (q, .inl (cI, n, .inl (upd (upd (upd (upd (upd (upd (upd f (x + 0) 2) (x + 1) uu) (x + 2) (-1)) (x + 3) (-1)) (x + 4) (-1)) (x + 5) (if 268435456 < 1 then 268435456 else 1)) (x + 6) pl)))]) (va_A [(h0, .inr (4, [.ref q, .int (nI x), g2, g3, g4, g5, g6, g7, g8])), (q, .inl (cI, n, .inl f))] sz)) 0 0 (va_A [(h0, .inr (4, [.ref q, .int (nI x), g2, g3, g4, g5, g6, g7, g8])), (q, .inl (cI, n, .inl f))] sz) := by
  refine Met.ofW (cc := b_Terms_sort) (maxL := 3) (ret := (some .int)) (by decide) rfl ?_
  intro p e s m args below meth c s₁ B hml hv
  obtain ⟨rfl, hsz, hP, ⟨hK, hN⟩, hD0⟩ := hv
  have hx := B.exec
  have hb := B.bytes
  have hr := B.returns
  have hts0 := atoms_spec (ws := zc y_Terms_sort b_Terms_sort 3 (some .int)) B.pre
  have hts : ∀ w ∈ zw, w.before _ s = true := fun w hw => hts0 w (List.mem_cons_of_mem _ hw)
  have hown : s.vm.findClass "ProofDesk$Terms" = some m.cls := findClass_of_methodNamed B.named
  have hlocks := B.notSynchronized
  subst hsz
  have hD := hD0.self (sz := s.heap.size)
  generalize hAe : va_A [(h0, .inr (4, [.ref q, .int (nI x), g2, g3, g4, g5, g6, g7, g8])), (q, .inl (cI, n, .inl f))] s.heap.size = A at hD ⊢
  have hA : ∀ q : Nat, s.heap.size ≤ q → A q := fun q h => by rw [← hAe]; exact Or.inr h
  have hS : va_S A s.heap s.heap [] := va_S.rf
  have hP : va_P D zcl [(h0, .inr (4, [.ref q, .int (nI x), g2, g3, g4, g5, g6, g7, g8])), (q, .inl (cI, n, .inl f))] s.heap := hP
  have hl := lv_entry ([.ref h0, .int uu, .int pl]) (n := 3) (Nat.le_of_ble_eq_true rfl)
  rw [lg_entry_eq]
  generalize (lg_sl ([.ref h0, .int uu, .int pl]) ++ List.replicate (3 - (lg_sl ([.ref h0, .int uu, .int pl])).length) Slot.unset).toArray = ls at hl ⊢
  have hl : lv_has ls 3 [(0, .ref h0), (1, .int uu), (2, .int pl)] := hl
  refine lv_aload_n hx hb d_Terms_sort_0 rfl (lv_at hl 0 rfl) ?_
  refine lv_iconst (v := 2) hx hb d_Terms_sort_1 (by decide) ?_
  refine lv_iload_n hx hb d_Terms_sort_2 rfl (lv_at hl 1 rfl) ?_
  refine lv_iconst (v := (-1)) hx hb d_Terms_sort_3 (by decide) ?_
  refine lv_iconst (v := (-1)) hx hb d_Terms_sort_4 (by decide) ?_
  refine lv_iconst (v := 1) hx hb d_Terms_sort_5 (by decide) ?_
  refine lv_iload_n hx hb d_Terms_sort_6 rfl (lv_at hl 2 rfl) ?_
  have hPc := hP.sub (ws' := [(h0, .inr (4, [.ref q, .int (nI x), g2, g3, g4, g5, g6, g7, g8])), (q, .inl (cI, n, .inl f))]) [0, 1] rfl
  have hDc := hD.sub (ws' := [(h0, .inr (4, [.ref q, .int (nI x), g2, g3, g4, g5, g6, g7, g8])), (q, .inl (cI, n, .inl f))]) [0, 1] (by decide +kernel) rfl
  have hFc := va_free (wc := [(h0, .inr (4, [.ref q, .int (nI x), g2, g3, g4, g5, g6, g7, g8])), (q, .inl (cI, n, .inl f))]) hD hS hA [0, 1] rfl
  have hkc : 0 + 0 ≤ 0 := by omega
  have hks : 0 + 0 ≤ 0 := by omega
  refine va_calli (va_runV (As := [.int 2, .int uu, .int (-1), .int (-1), .int 1, .int pl]) (rest := []) ⟨hx, hb, hml, hown, hts⟩ (g_Terms_node l D cI cB cZ cS s.heap.size h0 q n f g2 g3 g4 g5 g6 g7 g8 x 2 uu (-1) (-1) 1 pl (by omega) (by omega)) (⟨callB_of 6 hts (zgood kw_744) rfl rfl rfl (hts _ kw_9) (hts _ kw_741) (by decide +kernel) ⟨Nat.le_of_ble_eq_true rfl, Nat.le_of_ble_eq_true rfl⟩, hts _ kw_743, hts _ kp_16⟩) (zPreV hPc hK hN hDc (va_recv (q := ("ProofDesk$Terms", F_Terms, 9)) hK hP rfl (q0 := 0) rfl)) rfl rfl hl.1 rfl (lv_room (Nat.le_of_ble_eq_true rfl)) d_Terms_sort_7 ⟨hkc, hks⟩) hS (fun q _ h => hFc q h) hFc (fun r u t H1 locs ht hvm hw hB hz1 hk1 hS => ?_)
  obtain ⟨hP1, hD1⟩ := hB
  rw [ht] at hP1
  obtain ⟨hP, hD⟩ := va_join (wr := []) (w1 := [(h0, .inr (4, [.ref q, .int (nI (x + 7)), g2, g3, g4, g5, g6, g7, g8])), (q, .inl (cI, n, .inl (upd (upd (upd (upd (upd (upd (upd f (x + 0) 2) (x + 1) uu) (x + 2) (-1)) (x + 3) (-1)) (x + 4) (-1)) (x + 5) (if 268435456 < 1 then 268435456 else 1)) (x + 6) pl)))]) hP hD [0, 1] [] rfl rfl (by decide +kernel) (by decide +kernel) hk1 hFc hP1 hD1
  generalize H1 = H at hP hS ⊢
  have hP : va_P D zcl [(h0, .inr (4, [.ref q, .int (nI (x + 7)), g2, g3, g4, g5, g6, g7, g8])), (q, .inl (cI, n, .inl (upd (upd (upd (upd (upd (upd (upd f (x + 0) 2) (x + 1) uu) (x + 2) (-1)) (x + 3) (-1)) (x + 4) (-1)) (x + 5) (if 268435456 < 1 then 268435456 else 1)) (x + 6) pl)))] H := hP
  have hD : va_D A [(h0, .inr (4, [.ref q, .int (nI (x + 7)), g2, g3, g4, g5, g6, g7, g8])), (q, .inl (cI, n, .inl (upd (upd (upd (upd (upd (upd (upd f (x + 0) 2) (x + 1) uu) (x + 2) (-1)) (x + 3) (-1)) (x + 4) (-1)) (x + 5) (if 268435456 < 1 then 268435456 else 1)) (x + 6) pl)))] := hD
  subst hw
  refine W.widen (k := 0) (n := 0) (by omega) (by omega) ?_
  have hP9 := hP.sub (ws' := [(h0, .inr (4, [.ref q, .int (nI (x + 7)), g2, g3, g4, g5, g6, g7, g8])), (q, .inl (cI, n, .inl (upd (upd (upd (upd (upd (upd (upd f (x + 0) 2) (x + 1) uu) (x + 2) (-1)) (x + 3) (-1)) (x + 4) (-1)) (x + 5) (if 268435456 < 1 then 268435456 else 1)) (x + 6) pl)))]) [0, 1] rfl
  have hD9 := hD.sub (ws' := [(h0, .inr (4, [.ref q, .int (nI (x + 7)), g2, g3, g4, g5, g6, g7, g8])), (q, .inl (cI, n, .inl (upd (upd (upd (upd (upd (upd (upd f (x + 0) 2) (x + 1) uu) (x + 2) (-1)) (x + 3) (-1)) (x + 4) (-1)) (x + 5) (if 268435456 < 1 then 268435456 else 1)) (x + 6) pl)))]) [0, 1] (by decide +kernel) rfl
  refine W.widen (k := 0) (n := 0) (by omega) (by omega) ?_
  exact W.iret (v := (nI x)) hx hb hr (fun t ht hW => ⟨⟨(nI x), (), rfl, rfl, by rw [ht]; exact hP9, hD9⟩, hS.F ht⟩) hS.2.2 d_Terms_sort_10
abbrev b_Terms_rec : ByteArray := prog_11_method_6_code
abbrev y_Terms_rec : MethodName := ⟨"ProofDesk$Terms", "rec", "(III)I"⟩
theorem d_Terms_rec_0 : decode b_Terms_rec 0 = .ok (.aload_n 0, 1) := by decide +kernel
theorem d_Terms_rec_1 : decode b_Terms_rec 1 = .ok (.iconst 3, 1) := by decide +kernel
theorem d_Terms_rec_2 : decode b_Terms_rec 2 = .ok (.iload_n 1, 1) := by decide +kernel
theorem d_Terms_rec_3 : decode b_Terms_rec 3 = .ok (.iload_n 2, 1) := by decide +kernel
theorem d_Terms_rec_4 : decode b_Terms_rec 4 = .ok (.iconst (-1), 1) := by decide +kernel
theorem d_Terms_rec_5 : decode b_Terms_rec 5 = .ok (.iconst 1, 1) := by decide +kernel
theorem d_Terms_rec_6 : decode b_Terms_rec 6 = .ok (.iload_n 3, 1) := by decide +kernel
theorem d_Terms_rec_7 : decode b_Terms_rec 7 = .ok (.invokevirtual 44, 3) := by decide +kernel
theorem d_Terms_rec_10 : decode b_Terms_rec 10 = .ok (.ireturn, 1) := by decide +kernel
set_option maxHeartbeats 4000000 in
set_option maxRecDepth 100000 in
theorem g_Terms_rec (l : Launch) (D : va_G) (cI cB cZ cS : ClassId) (sz : Nat) (h0 : Nat) (q : Nat) (n : Nat) (f : Nat → Int32) (g2 : Value) (g3 : Value) (g4 : Value) (g5 : Value) (g6 : Value) (g7 : Value) (g8 : Value) (x : Nat) (uu : Int32) (v : Int32) (pl : Int32) (hx9 : x + 7 ≤ n) (hN : n ≤ 33554432) : Met l y_Terms_rec (zc y_Terms_rec b_Terms_rec 4 (some .int)) ({ frames := 2, cells := 0, slots := 0, locals := 42 }) (zPc D (zty cI cB cZ cS) [(h0, .inr (4, [.ref q, .int (nI x), g2, g3, g4, g5, g6, g7, g8])), (q, .inl (cI, n, .inl f))] sz [.ref h0, .int uu, .int v, .int pl]) (va_Qi (fun (r : Int32) (_ : Unit) => r = (nI x)) (fun _ t => va_P D zcl [(h0, .inr (4, [.ref q, .int (nI (x + 7)), g2, g3, g4, g5, g6, g7, g8])), (q, .inl (cI, n, .inl (upd (upd (upd (upd (upd (upd (upd f (x + 0) 3) (x + 1) uu) (x + 2) v) (x + 3) (-1)) (x + 4) (-1)) (x + 5) (if 268435456 < 1 then 268435456 else 1)) (x + 6) pl)))] t.heap ∧ va_D (va_A [(h0, .inr (4, [.ref q, .int (nI x), g2, g3, g4, g5, g6, g7, g8])), (q, .inl (cI, n, .inl f))] sz) [(h0, .inr (4, [.ref q, .int (nI (x + 7)), g2, g3, g4, g5, g6, g7, g8])), (q, .inl (cI, n, .inl (upd (upd (upd (upd (upd (upd (upd f (x + 0) 3) (x + 1) uu) (x + 2) v) (x + 3) (-1)) (x + 4) (-1)) (x + 5) (if 268435456 < 1 then 268435456 else 1)) (x + 6) pl)))]) (va_A [(h0, .inr (4, [.ref q, .int (nI x), g2, g3, g4, g5, g6, g7, g8])), (q, .inl (cI, n, .inl f))] sz)) 0 0 (va_A [(h0, .inr (4, [.ref q, .int (nI x), g2, g3, g4, g5, g6, g7, g8])), (q, .inl (cI, n, .inl f))] sz) := by
  refine Met.ofW (cc := b_Terms_rec) (maxL := 4) (ret := (some .int)) (by decide) rfl ?_
  intro p e s m args below meth c s₁ B hml hv
  obtain ⟨rfl, hsz, hP, ⟨hK, hN⟩, hD0⟩ := hv
  have hx := B.exec
  have hb := B.bytes
  have hr := B.returns
  have hts0 := atoms_spec (ws := zc y_Terms_rec b_Terms_rec 4 (some .int)) B.pre
  have hts : ∀ w ∈ zw, w.before _ s = true := fun w hw => hts0 w (List.mem_cons_of_mem _ hw)
  have hown : s.vm.findClass "ProofDesk$Terms" = some m.cls := findClass_of_methodNamed B.named
  have hlocks := B.notSynchronized
  subst hsz
  have hD := hD0.self (sz := s.heap.size)
  generalize hAe : va_A [(h0, .inr (4, [.ref q, .int (nI x), g2, g3, g4, g5, g6, g7, g8])), (q, .inl (cI, n, .inl f))] s.heap.size = A at hD ⊢
  have hA : ∀ q : Nat, s.heap.size ≤ q → A q := fun q h => by rw [← hAe]; exact Or.inr h
  have hS : va_S A s.heap s.heap [] := va_S.rf
  have hP : va_P D zcl [(h0, .inr (4, [.ref q, .int (nI x), g2, g3, g4, g5, g6, g7, g8])), (q, .inl (cI, n, .inl f))] s.heap := hP
  have hl := lv_entry ([.ref h0, .int uu, .int v, .int pl]) (n := 4) (Nat.le_of_ble_eq_true rfl)
  rw [lg_entry_eq]
  generalize (lg_sl ([.ref h0, .int uu, .int v, .int pl]) ++ List.replicate (4 - (lg_sl ([.ref h0, .int uu, .int v, .int pl])).length) Slot.unset).toArray = ls at hl ⊢
  have hl : lv_has ls 4 [(0, .ref h0), (1, .int uu), (2, .int v), (3, .int pl)] := hl
  refine lv_aload_n hx hb d_Terms_rec_0 rfl (lv_at hl 0 rfl) ?_
  refine lv_iconst (v := 3) hx hb d_Terms_rec_1 (by decide) ?_
  refine lv_iload_n hx hb d_Terms_rec_2 rfl (lv_at hl 1 rfl) ?_
  refine lv_iload_n hx hb d_Terms_rec_3 rfl (lv_at hl 2 rfl) ?_
  refine lv_iconst (v := (-1)) hx hb d_Terms_rec_4 (by decide) ?_
  refine lv_iconst (v := 1) hx hb d_Terms_rec_5 (by decide) ?_
  refine lv_iload_n hx hb d_Terms_rec_6 rfl (lv_at hl 3 rfl) ?_
  have hPc := hP.sub (ws' := [(h0, .inr (4, [.ref q, .int (nI x), g2, g3, g4, g5, g6, g7, g8])), (q, .inl (cI, n, .inl f))]) [0, 1] rfl
  have hDc := hD.sub (ws' := [(h0, .inr (4, [.ref q, .int (nI x), g2, g3, g4, g5, g6, g7, g8])), (q, .inl (cI, n, .inl f))]) [0, 1] (by decide +kernel) rfl
  have hFc := va_free (wc := [(h0, .inr (4, [.ref q, .int (nI x), g2, g3, g4, g5, g6, g7, g8])), (q, .inl (cI, n, .inl f))]) hD hS hA [0, 1] rfl
  have hkc : 0 + 0 ≤ 0 := by omega
  have hks : 0 + 0 ≤ 0 := by omega
  refine va_calli (va_runV (As := [.int 3, .int uu, .int v, .int (-1), .int 1, .int pl]) (rest := []) ⟨hx, hb, hml, hown, hts⟩ (g_Terms_node l D cI cB cZ cS s.heap.size h0 q n f g2 g3 g4 g5 g6 g7 g8 x 3 uu v (-1) 1 pl (by omega) (by omega)) (⟨callB_of 6 hts (zgood kw_744) rfl rfl rfl (hts _ kw_9) (hts _ kw_741) (by decide +kernel) ⟨Nat.le_of_ble_eq_true rfl, Nat.le_of_ble_eq_true rfl⟩, hts _ kw_743, hts _ kp_16⟩) (zPreV hPc hK hN hDc (va_recv (q := ("ProofDesk$Terms", F_Terms, 9)) hK hP rfl (q0 := 0) rfl)) rfl rfl hl.1 rfl (lv_room (Nat.le_of_ble_eq_true rfl)) d_Terms_rec_7 ⟨hkc, hks⟩) hS (fun q _ h => hFc q h) hFc (fun r u t H1 locs ht hvm hw hB hz1 hk1 hS => ?_)
  obtain ⟨hP1, hD1⟩ := hB
  rw [ht] at hP1
  obtain ⟨hP, hD⟩ := va_join (wr := []) (w1 := [(h0, .inr (4, [.ref q, .int (nI (x + 7)), g2, g3, g4, g5, g6, g7, g8])), (q, .inl (cI, n, .inl (upd (upd (upd (upd (upd (upd (upd f (x + 0) 3) (x + 1) uu) (x + 2) v) (x + 3) (-1)) (x + 4) (-1)) (x + 5) (if 268435456 < 1 then 268435456 else 1)) (x + 6) pl)))]) hP hD [0, 1] [] rfl rfl (by decide +kernel) (by decide +kernel) hk1 hFc hP1 hD1
  generalize H1 = H at hP hS ⊢
  have hP : va_P D zcl [(h0, .inr (4, [.ref q, .int (nI (x + 7)), g2, g3, g4, g5, g6, g7, g8])), (q, .inl (cI, n, .inl (upd (upd (upd (upd (upd (upd (upd f (x + 0) 3) (x + 1) uu) (x + 2) v) (x + 3) (-1)) (x + 4) (-1)) (x + 5) (if 268435456 < 1 then 268435456 else 1)) (x + 6) pl)))] H := hP
  have hD : va_D A [(h0, .inr (4, [.ref q, .int (nI (x + 7)), g2, g3, g4, g5, g6, g7, g8])), (q, .inl (cI, n, .inl (upd (upd (upd (upd (upd (upd (upd f (x + 0) 3) (x + 1) uu) (x + 2) v) (x + 3) (-1)) (x + 4) (-1)) (x + 5) (if 268435456 < 1 then 268435456 else 1)) (x + 6) pl)))] := hD
  subst hw
  refine W.widen (k := 0) (n := 0) (by omega) (by omega) ?_
  have hP9 := hP.sub (ws' := [(h0, .inr (4, [.ref q, .int (nI (x + 7)), g2, g3, g4, g5, g6, g7, g8])), (q, .inl (cI, n, .inl (upd (upd (upd (upd (upd (upd (upd f (x + 0) 3) (x + 1) uu) (x + 2) v) (x + 3) (-1)) (x + 4) (-1)) (x + 5) (if 268435456 < 1 then 268435456 else 1)) (x + 6) pl)))]) [0, 1] rfl
  have hD9 := hD.sub (ws' := [(h0, .inr (4, [.ref q, .int (nI (x + 7)), g2, g3, g4, g5, g6, g7, g8])), (q, .inl (cI, n, .inl (upd (upd (upd (upd (upd (upd (upd f (x + 0) 3) (x + 1) uu) (x + 2) v) (x + 3) (-1)) (x + 4) (-1)) (x + 5) (if 268435456 < 1 then 268435456 else 1)) (x + 6) pl)))]) [0, 1] (by decide +kernel) rfl
  refine W.widen (k := 0) (n := 0) (by omega) (by omega) ?_
  exact W.iret (v := (nI x)) hx hb hr (fun t ht hW => ⟨⟨(nI x), (), rfl, rfl, by rw [ht]; exact hP9, hD9⟩, hS.F ht⟩) hS.2.2 d_Terms_rec_10
abbrev b_Terms_apply : ByteArray := prog_11_method_7_code
abbrev y_Terms_apply : MethodName := ⟨"ProofDesk$Terms", "apply", "(II)I"⟩
theorem d_Terms_apply_0 : decode b_Terms_apply 0 = .ok (.iconst 1, 1) := by decide +kernel
theorem d_Terms_apply_1 : decode b_Terms_apply 1 = .ok (.aload_n 0, 1) := by decide +kernel
theorem d_Terms_apply_2 : decode b_Terms_apply 2 = .ok (.getfield 11, 3) := by decide +kernel
theorem d_Terms_apply_5 : decode b_Terms_apply 5 = .ok (.iload_n 1, 1) := by decide +kernel
theorem d_Terms_apply_6 : decode b_Terms_apply 6 = .ok (.iconst 5, 1) := by decide +kernel
theorem d_Terms_apply_7 : decode b_Terms_apply 7 = .ok (.iadd, 1) := by decide +kernel
theorem d_Terms_apply_8 : decode b_Terms_apply 8 = .ok (.iaload, 1) := by decide +kernel
theorem d_Terms_apply_9 : decode b_Terms_apply 9 = .ok (.iadd, 1) := by decide +kernel
theorem d_Terms_apply_10 : decode b_Terms_apply 10 = .ok (.aload_n 0, 1) := by decide +kernel
theorem d_Terms_apply_11 : decode b_Terms_apply 11 = .ok (.getfield 11, 3) := by decide +kernel
theorem d_Terms_apply_14 : decode b_Terms_apply 14 = .ok (.iload_n 2, 1) := by decide +kernel
theorem d_Terms_apply_15 : decode b_Terms_apply 15 = .ok (.iconst 5, 1) := by decide +kernel
theorem d_Terms_apply_16 : decode b_Terms_apply 16 = .ok (.iadd, 1) := by decide +kernel
theorem d_Terms_apply_17 : decode b_Terms_apply 17 = .ok (.iaload, 1) := by decide +kernel
theorem d_Terms_apply_18 : decode b_Terms_apply 18 = .ok (.iadd, 1) := by decide +kernel
theorem d_Terms_apply_19 : decode b_Terms_apply 19 = .ok (.istore_n 3, 1) := by decide +kernel
theorem d_Terms_apply_20 : decode b_Terms_apply 20 = .ok (.aload_n 0, 1) := by decide +kernel
theorem d_Terms_apply_21 : decode b_Terms_apply 21 = .ok (.iconst 4, 1) := by decide +kernel
theorem d_Terms_apply_22 : decode b_Terms_apply 22 = .ok (.iconst (-1), 1) := by decide +kernel
theorem d_Terms_apply_23 : decode b_Terms_apply 23 = .ok (.iload_n 1, 1) := by decide +kernel
theorem d_Terms_apply_24 : decode b_Terms_apply 24 = .ok (.iload_n 2, 1) := by decide +kernel
theorem d_Terms_apply_25 : decode b_Terms_apply 25 = .ok (.iload_n 3, 1) := by decide +kernel
theorem d_Terms_apply_26 : decode b_Terms_apply 26 = .ok (.aload_n 0, 1) := by decide +kernel
theorem d_Terms_apply_27 : decode b_Terms_apply 27 = .ok (.getfield 11, 3) := by decide +kernel
theorem d_Terms_apply_30 : decode b_Terms_apply 30 = .ok (.iload_n 1, 1) := by decide +kernel
theorem d_Terms_apply_31 : decode b_Terms_apply 31 = .ok (.bipush 6, 2) := by decide +kernel
theorem d_Terms_apply_33 : decode b_Terms_apply 33 = .ok (.iadd, 1) := by decide +kernel
theorem d_Terms_apply_34 : decode b_Terms_apply 34 = .ok (.iaload, 1) := by decide +kernel
theorem d_Terms_apply_35 : decode b_Terms_apply 35 = .ok (.invokevirtual 44, 3) := by decide +kernel
theorem d_Terms_apply_38 : decode b_Terms_apply 38 = .ok (.ireturn, 1) := by decide +kernel
set_option maxHeartbeats 4000000 in
set_option maxRecDepth 100000 in
theorem g_Terms_apply (l : Launch) (D : va_G) (cI cB cZ cS : ClassId) (sz : Nat) (h0 : Nat) (q : Nat) (n : Nat) (f : Nat → Int32) (g2 : Value) (g3 : Value) (g4 : Value) (g5 : Value) (g6 : Value) (g7 : Value) (g8 : Value) (x : Nat) (a : Nat) (b9 : Nat) (hx9 : x + 7 ≤ n) (hN : n ≤ 33554432) (ha : a + 6 < n) (hb9 : b9 + 6 < n) : Met l y_Terms_apply (zc y_Terms_apply b_Terms_apply 4 (some .int)) ({ frames := 2, cells := 0, slots := 0, locals := 42 }) (zPc D (zty cI cB cZ cS) [(h0, .inr (4, [.ref q, .int (nI x), g2, g3, g4, g5, g6, g7, g8])), (q, .inl (cI, n, .inl f))] sz [.ref h0, .int (nI a), .int (nI b9)]) (va_Qi (fun (r : Int32) (_ : Unit) => r = (nI x)) (fun _ t => va_P D zcl [(h0, .inr (4, [.ref q, .int (nI (x + 7)), g2, g3, g4, g5, g6, g7, g8])), (q, .inl (cI, n, .inl (upd (upd (upd (upd (upd (upd (upd f (x + 0) 4) (x + 1) (-1)) (x + 2) (nI a)) (x + 3) (nI b9)) (x + 4) (-1)) (x + 5) (if 268435456 < ((1 + (f (a + 5))) + (f (b9 + 5))) then 268435456 else ((1 + (f (a + 5))) + (f (b9 + 5))))) (x + 6) (f (a + 6)))))] t.heap ∧ va_D (va_A [(h0, .inr (4, [.ref q, .int (nI x), g2, g3, g4, g5, g6, g7, g8])), (q, .inl (cI, n, .inl f))] sz) [(h0, .inr (4, [.ref q, .int (nI (x + 7)), g2, g3, g4, g5, g6, g7, g8])), (q, .inl (cI, n, .inl (upd (upd (upd (upd (upd (upd (upd f (x + 0) 4) (x + 1) (-1)) (x + 2) (nI a)) (x + 3) (nI b9)) (x + 4) (-1)) (x + 5) (if 268435456 < ((1 + (f (a + 5))) + (f (b9 + 5))) then 268435456 else ((1 + (f (a + 5))) + (f (b9 + 5))))) (x + 6) (f (a + 6)))))]) (va_A [(h0, .inr (4, [.ref q, .int (nI x), g2, g3, g4, g5, g6, g7, g8])), (q, .inl (cI, n, .inl f))] sz)) 0 0 (va_A [(h0, .inr (4, [.ref q, .int (nI x), g2, g3, g4, g5, g6, g7, g8])), (q, .inl (cI, n, .inl f))] sz) := by
  refine Met.ofW (cc := b_Terms_apply) (maxL := 4) (ret := (some .int)) (by decide) rfl ?_
  intro p e s m args below meth c s₁ B hml hv
  obtain ⟨rfl, hsz, hP, ⟨hK, hN⟩, hD0⟩ := hv
  have hx := B.exec
  have hb := B.bytes
  have hr := B.returns
  have hts0 := atoms_spec (ws := zc y_Terms_apply b_Terms_apply 4 (some .int)) B.pre
  have hts : ∀ w ∈ zw, w.before _ s = true := fun w hw => hts0 w (List.mem_cons_of_mem _ hw)
  have hown : s.vm.findClass "ProofDesk$Terms" = some m.cls := findClass_of_methodNamed B.named
  have hlocks := B.notSynchronized
  subst hsz
  have hD := hD0.self (sz := s.heap.size)
  generalize hAe : va_A [(h0, .inr (4, [.ref q, .int (nI x), g2, g3, g4, g5, g6, g7, g8])), (q, .inl (cI, n, .inl f))] s.heap.size = A at hD ⊢
  have hA : ∀ q : Nat, s.heap.size ≤ q → A q := fun q h => by rw [← hAe]; exact Or.inr h
  have hS : va_S A s.heap s.heap [] := va_S.rf
  have hP : va_P D zcl [(h0, .inr (4, [.ref q, .int (nI x), g2, g3, g4, g5, g6, g7, g8])), (q, .inl (cI, n, .inl f))] s.heap := hP
  have hl := lv_entry ([.ref h0, .int (nI a), .int (nI b9)]) (n := 4) (Nat.le_of_ble_eq_true rfl)
  rw [lg_entry_eq]
  generalize (lg_sl ([.ref h0, .int (nI a), .int (nI b9)]) ++ List.replicate (4 - (lg_sl ([.ref h0, .int (nI a), .int (nI b9)])).length) Slot.unset).toArray = ls at hl ⊢
  have hl : lv_has ls 4 [(0, .ref h0), (1, .int (nI a)), (2, .int (nI b9))] := hl
  refine lv_iconst (v := 1) hx hb d_Terms_apply_0 (by decide) ?_
  refine lv_aload_n hx hb d_Terms_apply_1 rfl (lv_at hl 0 rfl) ?_
  refine va_get (D := D) (ci := 4) (v := .ref q) (C := "ProofDesk$Terms") (T := F_Terms) (N := 9) hx hb hts in_Terms hown hK hP 0 rfl rfl 0 (by decide) (hts _ kw_174) (fun _ h9 => h9) rfl d_Terms_apply_2 ?_
  refine lv_iload_n hx hb d_Terms_apply_5 rfl (lv_at hl 1 rfl) ?_
  refine lv_iconst (v := 5) hx hb d_Terms_apply_6 (by decide) ?_
  refine lv_iadd hx hb d_Terms_apply_7 ?_
  refine zz_i (y := nI (a + 5)) (nI_add a 5) ?_
  refine zz_iald (v := (f (a + 5))) hx hb hK hP 1 0 rfl rfl (i := (nI (a + 5))) (a + 5) (zix_nI (by omega) (by omega)) (rfl) d_Terms_apply_8 ?_
  refine lv_iadd hx hb d_Terms_apply_9 ?_
  refine lv_aload_n hx hb d_Terms_apply_10 rfl (lv_at hl 0 rfl) ?_
  refine va_get (D := D) (ci := 4) (v := .ref q) (C := "ProofDesk$Terms") (T := F_Terms) (N := 9) hx hb hts in_Terms hown hK hP 0 rfl rfl 0 (by decide) (hts _ kw_174) (fun _ h9 => h9) rfl d_Terms_apply_11 ?_
  refine lv_iload_n hx hb d_Terms_apply_14 rfl (lv_at hl 2 rfl) ?_
  refine lv_iconst (v := 5) hx hb d_Terms_apply_15 (by decide) ?_
  refine lv_iadd hx hb d_Terms_apply_16 ?_
  refine zz_i (y := nI (b9 + 5)) (nI_add b9 5) ?_
  refine zz_iald (v := (f (b9 + 5))) hx hb hK hP 1 0 rfl rfl (i := (nI (b9 + 5))) (b9 + 5) (zix_nI (by omega) (by omega)) (rfl) d_Terms_apply_17 ?_
  refine lv_iadd hx hb d_Terms_apply_18 ?_
  refine lv_istore_n (lv' := [(3, .int ((1 + (f (a + 5))) + (f (b9 + 5)))), (0, .ref h0), (1, .int (nI a)), (2, .int (nI b9))]) hx hb d_Terms_apply_19 rfl hl (by decide) rfl (fun ls hl => ?_)
  refine lv_aload_n hx hb d_Terms_apply_20 rfl (lv_at hl 1 rfl) ?_
  refine lv_iconst (v := 4) hx hb d_Terms_apply_21 (by decide) ?_
  refine lv_iconst (v := (-1)) hx hb d_Terms_apply_22 (by decide) ?_
  refine lv_iload_n hx hb d_Terms_apply_23 rfl (lv_at hl 2 rfl) ?_
  refine lv_iload_n hx hb d_Terms_apply_24 rfl (lv_at hl 3 rfl) ?_
  refine lv_iload_n hx hb d_Terms_apply_25 rfl (lv_at hl 0 rfl) ?_
  refine lv_aload_n hx hb d_Terms_apply_26 rfl (lv_at hl 1 rfl) ?_
  refine va_get (D := D) (ci := 4) (v := .ref q) (C := "ProofDesk$Terms") (T := F_Terms) (N := 9) hx hb hts in_Terms hown hK hP 0 rfl rfl 0 (by decide) (hts _ kw_174) (fun _ h9 => h9) rfl d_Terms_apply_27 ?_
  refine lv_iload_n hx hb d_Terms_apply_30 rfl (lv_at hl 2 rfl) ?_
  refine lv_bipush (v := 6) hx hb d_Terms_apply_31 (by decide) ?_
  refine lv_iadd hx hb d_Terms_apply_33 ?_
  refine zz_i (y := nI (a + 6)) (nI_add a 6) ?_
  refine zz_iald (v := (f (a + 6))) hx hb hK hP 1 0 rfl rfl (i := (nI (a + 6))) (a + 6) (zix_nI (by omega) (by omega)) (rfl) d_Terms_apply_34 ?_
  have hPc := hP.sub (ws' := [(h0, .inr (4, [.ref q, .int (nI x), g2, g3, g4, g5, g6, g7, g8])), (q, .inl (cI, n, .inl f))]) [0, 1] rfl
  have hDc := hD.sub (ws' := [(h0, .inr (4, [.ref q, .int (nI x), g2, g3, g4, g5, g6, g7, g8])), (q, .inl (cI, n, .inl f))]) [0, 1] (by decide +kernel) rfl
  have hFc := va_free (wc := [(h0, .inr (4, [.ref q, .int (nI x), g2, g3, g4, g5, g6, g7, g8])), (q, .inl (cI, n, .inl f))]) hD hS hA [0, 1] rfl
  have hkc : 0 + 0 ≤ 0 := by omega
  have hks : 0 + 0 ≤ 0 := by omega
  refine va_calli (va_runV (As := [.int 4, .int (-1), .int (nI a), .int (nI b9), .int ((1 + (f (a + 5))) + (f (b9 + 5))), .int (f (a + 6))]) (rest := []) ⟨hx, hb, hml, hown, hts⟩ (g_Terms_node l D cI cB cZ cS s.heap.size h0 q n f g2 g3 g4 g5 g6 g7 g8 x 4 (-1) (nI a) (nI b9) ((1 + (f (a + 5))) + (f (b9 + 5))) (f (a + 6)) (by omega) (by omega)) (⟨callB_of 6 hts (zgood kw_744) rfl rfl rfl (hts _ kw_9) (hts _ kw_741) (by decide +kernel) ⟨Nat.le_of_ble_eq_true rfl, Nat.le_of_ble_eq_true rfl⟩, hts _ kw_743, hts _ kp_16⟩) (zPreV hPc hK hN hDc (va_recv (q := ("ProofDesk$Terms", F_Terms, 9)) hK hP rfl (q0 := 0) rfl)) rfl rfl hl.1 rfl (lv_room (Nat.le_of_ble_eq_true rfl)) d_Terms_apply_35 ⟨hkc, hks⟩) hS (fun q _ h => hFc q h) hFc (fun r u t H1 locs ht hvm hw hB hz1 hk1 hS => ?_)
  obtain ⟨hP1, hD1⟩ := hB
  rw [ht] at hP1
  obtain ⟨hP, hD⟩ := va_join (wr := []) (w1 := [(h0, .inr (4, [.ref q, .int (nI (x + 7)), g2, g3, g4, g5, g6, g7, g8])), (q, .inl (cI, n, .inl (upd (upd (upd (upd (upd (upd (upd f (x + 0) 4) (x + 1) (-1)) (x + 2) (nI a)) (x + 3) (nI b9)) (x + 4) (-1)) (x + 5) (if 268435456 < ((1 + (f (a + 5))) + (f (b9 + 5))) then 268435456 else ((1 + (f (a + 5))) + (f (b9 + 5))))) (x + 6) (f (a + 6)))))]) hP hD [0, 1] [] rfl rfl (by decide +kernel) (by decide +kernel) hk1 hFc hP1 hD1
  generalize H1 = H at hP hS ⊢
  have hP : va_P D zcl [(h0, .inr (4, [.ref q, .int (nI (x + 7)), g2, g3, g4, g5, g6, g7, g8])), (q, .inl (cI, n, .inl (upd (upd (upd (upd (upd (upd (upd f (x + 0) 4) (x + 1) (-1)) (x + 2) (nI a)) (x + 3) (nI b9)) (x + 4) (-1)) (x + 5) (if 268435456 < ((1 + (f (a + 5))) + (f (b9 + 5))) then 268435456 else ((1 + (f (a + 5))) + (f (b9 + 5))))) (x + 6) (f (a + 6)))))] H := hP
  have hD : va_D A [(h0, .inr (4, [.ref q, .int (nI (x + 7)), g2, g3, g4, g5, g6, g7, g8])), (q, .inl (cI, n, .inl (upd (upd (upd (upd (upd (upd (upd f (x + 0) 4) (x + 1) (-1)) (x + 2) (nI a)) (x + 3) (nI b9)) (x + 4) (-1)) (x + 5) (if 268435456 < ((1 + (f (a + 5))) + (f (b9 + 5))) then 268435456 else ((1 + (f (a + 5))) + (f (b9 + 5))))) (x + 6) (f (a + 6)))))] := hD
  subst hw
  refine W.widen (k := 0) (n := 0) (by omega) (by omega) ?_
  have hP9 := hP.sub (ws' := [(h0, .inr (4, [.ref q, .int (nI (x + 7)), g2, g3, g4, g5, g6, g7, g8])), (q, .inl (cI, n, .inl (upd (upd (upd (upd (upd (upd (upd f (x + 0) 4) (x + 1) (-1)) (x + 2) (nI a)) (x + 3) (nI b9)) (x + 4) (-1)) (x + 5) (if 268435456 < ((1 + (f (a + 5))) + (f (b9 + 5))) then 268435456 else ((1 + (f (a + 5))) + (f (b9 + 5))))) (x + 6) (f (a + 6)))))]) [0, 1] rfl
  have hD9 := hD.sub (ws' := [(h0, .inr (4, [.ref q, .int (nI (x + 7)), g2, g3, g4, g5, g6, g7, g8])), (q, .inl (cI, n, .inl (upd (upd (upd (upd (upd (upd (upd f (x + 0) 4) (x + 1) (-1)) (x + 2) (nI a)) (x + 3) (nI b9)) (x + 4) (-1)) (x + 5) (if 268435456 < ((1 + (f (a + 5))) + (f (b9 + 5))) then 268435456 else ((1 + (f (a + 5))) + (f (b9 + 5))))) (x + 6) (f (a + 6)))))]) [0, 1] (by decide +kernel) rfl
  refine W.widen (k := 0) (n := 0) (by omega) (by omega) ?_
  exact W.iret (v := (nI x)) hx hb hr (fun t ht hW => ⟨⟨(nI x), (), rfl, rfl, by rw [ht]; exact hP9, hD9⟩, hS.F ht⟩) hS.2.2 d_Terms_apply_38
abbrev b_Terms_bind : ByteArray := prog_11_method_8_code
abbrev y_Terms_bind : MethodName := ⟨"ProofDesk$Terms", "bind", "(IIIII)I"⟩
theorem d_Terms_bind_0 : decode b_Terms_bind 0 = .ok (.aload_n 0, 1) := by decide +kernel
theorem d_Terms_bind_1 : decode b_Terms_bind 1 = .ok (.iload_n 1, 1) := by decide +kernel
theorem d_Terms_bind_2 : decode b_Terms_bind 2 = .ok (.iload_n 2, 1) := by decide +kernel
theorem d_Terms_bind_3 : decode b_Terms_bind 3 = .ok (.iload_n 3, 1) := by decide +kernel
theorem d_Terms_bind_4 : decode b_Terms_bind 4 = .ok (.iload 4, 2) := by decide +kernel
theorem d_Terms_bind_6 : decode b_Terms_bind 6 = .ok (.iconst 1, 1) := by decide +kernel
theorem d_Terms_bind_7 : decode b_Terms_bind 7 = .ok (.aload_n 0, 1) := by decide +kernel
theorem d_Terms_bind_8 : decode b_Terms_bind 8 = .ok (.getfield 11, 3) := by decide +kernel
theorem d_Terms_bind_11 : decode b_Terms_bind 11 = .ok (.iload_n 3, 1) := by decide +kernel
theorem d_Terms_bind_12 : decode b_Terms_bind 12 = .ok (.iconst 5, 1) := by decide +kernel
theorem d_Terms_bind_13 : decode b_Terms_bind 13 = .ok (.iadd, 1) := by decide +kernel
theorem d_Terms_bind_14 : decode b_Terms_bind 14 = .ok (.iaload, 1) := by decide +kernel
theorem d_Terms_bind_15 : decode b_Terms_bind 15 = .ok (.iadd, 1) := by decide +kernel
theorem d_Terms_bind_16 : decode b_Terms_bind 16 = .ok (.aload_n 0, 1) := by decide +kernel
theorem d_Terms_bind_17 : decode b_Terms_bind 17 = .ok (.getfield 11, 3) := by decide +kernel
theorem d_Terms_bind_20 : decode b_Terms_bind 20 = .ok (.iload 4, 2) := by decide +kernel
theorem d_Terms_bind_22 : decode b_Terms_bind 22 = .ok (.iconst 5, 1) := by decide +kernel
theorem d_Terms_bind_23 : decode b_Terms_bind 23 = .ok (.iadd, 1) := by decide +kernel
theorem d_Terms_bind_24 : decode b_Terms_bind 24 = .ok (.iaload, 1) := by decide +kernel
theorem d_Terms_bind_25 : decode b_Terms_bind 25 = .ok (.iadd, 1) := by decide +kernel
theorem d_Terms_bind_26 : decode b_Terms_bind 26 = .ok (.iload 5, 2) := by decide +kernel
theorem d_Terms_bind_28 : decode b_Terms_bind 28 = .ok (.invokevirtual 44, 3) := by decide +kernel
theorem d_Terms_bind_31 : decode b_Terms_bind 31 = .ok (.ireturn, 1) := by decide +kernel
set_option maxHeartbeats 4000000 in
set_option maxRecDepth 100000 in
theorem g_Terms_bind (l : Launch) (D : va_G) (cI cB cZ cS : ClassId) (sz : Nat) (h0 : Nat) (q : Nat) (n : Nat) (f : Nat → Int32) (g2 : Value) (g3 : Value) (g4 : Value) (g5 : Value) (g6 : Value) (g7 : Value) (g8 : Value) (x : Nat) (kd : Int32) (bd : Int32) (a : Nat) (b9 : Nat) (pl : Int32) (hx9 : x + 7 ≤ n) (hN : n ≤ 33554432) (ha : a + 6 < n) (hb9 : b9 + 6 < n) : Met l y_Terms_bind (zc y_Terms_bind b_Terms_bind 6 (some .int)) ({ frames := 2, cells := 0, slots := 0, locals := 42 }) (zPc D (zty cI cB cZ cS) [(h0, .inr (4, [.ref q, .int (nI x), g2, g3, g4, g5, g6, g7, g8])), (q, .inl (cI, n, .inl f))] sz [.ref h0, .int kd, .int bd, .int (nI a), .int (nI b9), .int pl]) (va_Qi (fun (r : Int32) (_ : Unit) => r = (nI x)) (fun _ t => va_P D zcl [(h0, .inr (4, [.ref q, .int (nI (x + 7)), g2, g3, g4, g5, g6, g7, g8])), (q, .inl (cI, n, .inl (upd (upd (upd (upd (upd (upd (upd f (x + 0) kd) (x + 1) bd) (x + 2) (nI a)) (x + 3) (nI b9)) (x + 4) (-1)) (x + 5) (if 268435456 < ((1 + (f (a + 5))) + (f (b9 + 5))) then 268435456 else ((1 + (f (a + 5))) + (f (b9 + 5))))) (x + 6) pl)))] t.heap ∧ va_D (va_A [(h0, .inr (4, [.ref q, .int (nI x), g2, g3, g4, g5, g6, g7, g8])), (q, .inl (cI, n, .inl f))] sz) [(h0, .inr (4, [.ref q, .int (nI (x + 7)), g2, g3, g4, g5, g6, g7, g8])), (q, .inl (cI, n, .inl (upd (upd (upd (upd (upd (upd (upd f (x + 0) kd) (x + 1) bd) (x + 2) (nI a)) (x + 3) (nI b9)) (x + 4) (-1)) (x + 5) (if 268435456 < ((1 + (f (a + 5))) + (f (b9 + 5))) then 268435456 else ((1 + (f (a + 5))) + (f (b9 + 5))))) (x + 6) pl)))]) (va_A [(h0, .inr (4, [.ref q, .int (nI x), g2, g3, g4, g5, g6, g7, g8])), (q, .inl (cI, n, .inl f))] sz)) 0 0 (va_A [(h0, .inr (4, [.ref q, .int (nI x), g2, g3, g4, g5, g6, g7, g8])), (q, .inl (cI, n, .inl f))] sz) := by
  refine Met.ofW (cc := b_Terms_bind) (maxL := 6) (ret := (some .int)) (by decide) rfl ?_
  intro p e s m args below meth c s₁ B hml hv
  obtain ⟨rfl, hsz, hP, ⟨hK, hN⟩, hD0⟩ := hv
  have hx := B.exec
  have hb := B.bytes
  have hr := B.returns
  have hts0 := atoms_spec (ws := zc y_Terms_bind b_Terms_bind 6 (some .int)) B.pre
  have hts : ∀ w ∈ zw, w.before _ s = true := fun w hw => hts0 w (List.mem_cons_of_mem _ hw)
  have hown : s.vm.findClass "ProofDesk$Terms" = some m.cls := findClass_of_methodNamed B.named
  have hlocks := B.notSynchronized
  subst hsz
  have hD := hD0.self (sz := s.heap.size)
  generalize hAe : va_A [(h0, .inr (4, [.ref q, .int (nI x), g2, g3, g4, g5, g6, g7, g8])), (q, .inl (cI, n, .inl f))] s.heap.size = A at hD ⊢
  have hA : ∀ q : Nat, s.heap.size ≤ q → A q := fun q h => by rw [← hAe]; exact Or.inr h
  have hS : va_S A s.heap s.heap [] := va_S.rf
  have hP : va_P D zcl [(h0, .inr (4, [.ref q, .int (nI x), g2, g3, g4, g5, g6, g7, g8])), (q, .inl (cI, n, .inl f))] s.heap := hP
  have hl := lv_entry ([.ref h0, .int kd, .int bd, .int (nI a), .int (nI b9), .int pl]) (n := 6) (Nat.le_of_ble_eq_true rfl)
  rw [lg_entry_eq]
  generalize (lg_sl ([.ref h0, .int kd, .int bd, .int (nI a), .int (nI b9), .int pl]) ++ List.replicate (6 - (lg_sl ([.ref h0, .int kd, .int bd, .int (nI a), .int (nI b9), .int pl])).length) Slot.unset).toArray = ls at hl ⊢
  have hl : lv_has ls 6 [(0, .ref h0), (1, .int kd), (2, .int bd), (3, .int (nI a)), (4, .int (nI b9)), (5, .int pl)] := hl
  refine lv_aload_n hx hb d_Terms_bind_0 rfl (lv_at hl 0 rfl) ?_
  refine lv_iload_n hx hb d_Terms_bind_1 rfl (lv_at hl 1 rfl) ?_
  refine lv_iload_n hx hb d_Terms_bind_2 rfl (lv_at hl 2 rfl) ?_
  refine lv_iload_n hx hb d_Terms_bind_3 rfl (lv_at hl 3 rfl) ?_
  refine lv_iload hx hb d_Terms_bind_4 (lv_at hl 4 rfl) ?_
  refine lv_iconst (v := 1) hx hb d_Terms_bind_6 (by decide) ?_
  refine lv_aload_n hx hb d_Terms_bind_7 rfl (lv_at hl 0 rfl) ?_
  refine va_get (D := D) (ci := 4) (v := .ref q) (C := "ProofDesk$Terms") (T := F_Terms) (N := 9) hx hb hts in_Terms hown hK hP 0 rfl rfl 0 (by decide) (hts _ kw_174) (fun _ h9 => h9) rfl d_Terms_bind_8 ?_
  refine lv_iload_n hx hb d_Terms_bind_11 rfl (lv_at hl 3 rfl) ?_
  refine lv_iconst (v := 5) hx hb d_Terms_bind_12 (by decide) ?_
  refine lv_iadd hx hb d_Terms_bind_13 ?_
  refine zz_i (y := nI (a + 5)) (nI_add a 5) ?_
  refine zz_iald (v := (f (a + 5))) hx hb hK hP 1 0 rfl rfl (i := (nI (a + 5))) (a + 5) (zix_nI (by omega) (by omega)) (rfl) d_Terms_bind_14 ?_
  refine lv_iadd hx hb d_Terms_bind_15 ?_
  refine lv_aload_n hx hb d_Terms_bind_16 rfl (lv_at hl 0 rfl) ?_
  refine va_get (D := D) (ci := 4) (v := .ref q) (C := "ProofDesk$Terms") (T := F_Terms) (N := 9) hx hb hts in_Terms hown hK hP 0 rfl rfl 0 (by decide) (hts _ kw_174) (fun _ h9 => h9) rfl d_Terms_bind_17 ?_
  refine lv_iload hx hb d_Terms_bind_20 (lv_at hl 4 rfl) ?_
  refine lv_iconst (v := 5) hx hb d_Terms_bind_22 (by decide) ?_
  refine lv_iadd hx hb d_Terms_bind_23 ?_
  refine zz_i (y := nI (b9 + 5)) (nI_add b9 5) ?_
  refine zz_iald (v := (f (b9 + 5))) hx hb hK hP 1 0 rfl rfl (i := (nI (b9 + 5))) (b9 + 5) (zix_nI (by omega) (by omega)) (rfl) d_Terms_bind_24 ?_
  refine lv_iadd hx hb d_Terms_bind_25 ?_
  refine lv_iload hx hb d_Terms_bind_26 (lv_at hl 5 rfl) ?_
  have hPc := hP.sub (ws' := [(h0, .inr (4, [.ref q, .int (nI x), g2, g3, g4, g5, g6, g7, g8])), (q, .inl (cI, n, .inl f))]) [0, 1] rfl
  have hDc := hD.sub (ws' := [(h0, .inr (4, [.ref q, .int (nI x), g2, g3, g4, g5, g6, g7, g8])), (q, .inl (cI, n, .inl f))]) [0, 1] (by decide +kernel) rfl
  have hFc := va_free (wc := [(h0, .inr (4, [.ref q, .int (nI x), g2, g3, g4, g5, g6, g7, g8])), (q, .inl (cI, n, .inl f))]) hD hS hA [0, 1] rfl
  have hkc : 0 + 0 ≤ 0 := by omega
  have hks : 0 + 0 ≤ 0 := by omega
  refine va_calli (va_runV (As := [.int kd, .int bd, .int (nI a), .int (nI b9), .int ((1 + (f (a + 5))) + (f (b9 + 5))), .int pl]) (rest := []) ⟨hx, hb, hml, hown, hts⟩ (g_Terms_node l D cI cB cZ cS s.heap.size h0 q n f g2 g3 g4 g5 g6 g7 g8 x kd bd (nI a) (nI b9) ((1 + (f (a + 5))) + (f (b9 + 5))) pl (by omega) (by omega)) (⟨callB_of 6 hts (zgood kw_744) rfl rfl rfl (hts _ kw_9) (hts _ kw_741) (by decide +kernel) ⟨Nat.le_of_ble_eq_true rfl, Nat.le_of_ble_eq_true rfl⟩, hts _ kw_743, hts _ kp_16⟩) (zPreV hPc hK hN hDc (va_recv (q := ("ProofDesk$Terms", F_Terms, 9)) hK hP rfl (q0 := 0) rfl)) rfl rfl hl.1 rfl (lv_room (Nat.le_of_ble_eq_true rfl)) d_Terms_bind_28 ⟨hkc, hks⟩) hS (fun q _ h => hFc q h) hFc (fun r u t H1 locs ht hvm hw hB hz1 hk1 hS => ?_)
  obtain ⟨hP1, hD1⟩ := hB
  rw [ht] at hP1
  obtain ⟨hP, hD⟩ := va_join (wr := []) (w1 := [(h0, .inr (4, [.ref q, .int (nI (x + 7)), g2, g3, g4, g5, g6, g7, g8])), (q, .inl (cI, n, .inl (upd (upd (upd (upd (upd (upd (upd f (x + 0) kd) (x + 1) bd) (x + 2) (nI a)) (x + 3) (nI b9)) (x + 4) (-1)) (x + 5) (if 268435456 < ((1 + (f (a + 5))) + (f (b9 + 5))) then 268435456 else ((1 + (f (a + 5))) + (f (b9 + 5))))) (x + 6) pl)))]) hP hD [0, 1] [] rfl rfl (by decide +kernel) (by decide +kernel) hk1 hFc hP1 hD1
  generalize H1 = H at hP hS ⊢
  have hP : va_P D zcl [(h0, .inr (4, [.ref q, .int (nI (x + 7)), g2, g3, g4, g5, g6, g7, g8])), (q, .inl (cI, n, .inl (upd (upd (upd (upd (upd (upd (upd f (x + 0) kd) (x + 1) bd) (x + 2) (nI a)) (x + 3) (nI b9)) (x + 4) (-1)) (x + 5) (if 268435456 < ((1 + (f (a + 5))) + (f (b9 + 5))) then 268435456 else ((1 + (f (a + 5))) + (f (b9 + 5))))) (x + 6) pl)))] H := hP
  have hD : va_D A [(h0, .inr (4, [.ref q, .int (nI (x + 7)), g2, g3, g4, g5, g6, g7, g8])), (q, .inl (cI, n, .inl (upd (upd (upd (upd (upd (upd (upd f (x + 0) kd) (x + 1) bd) (x + 2) (nI a)) (x + 3) (nI b9)) (x + 4) (-1)) (x + 5) (if 268435456 < ((1 + (f (a + 5))) + (f (b9 + 5))) then 268435456 else ((1 + (f (a + 5))) + (f (b9 + 5))))) (x + 6) pl)))] := hD
  subst hw
  refine W.widen (k := 0) (n := 0) (by omega) (by omega) ?_
  have hP9 := hP.sub (ws' := [(h0, .inr (4, [.ref q, .int (nI (x + 7)), g2, g3, g4, g5, g6, g7, g8])), (q, .inl (cI, n, .inl (upd (upd (upd (upd (upd (upd (upd f (x + 0) kd) (x + 1) bd) (x + 2) (nI a)) (x + 3) (nI b9)) (x + 4) (-1)) (x + 5) (if 268435456 < ((1 + (f (a + 5))) + (f (b9 + 5))) then 268435456 else ((1 + (f (a + 5))) + (f (b9 + 5))))) (x + 6) pl)))]) [0, 1] rfl
  have hD9 := hD.sub (ws' := [(h0, .inr (4, [.ref q, .int (nI (x + 7)), g2, g3, g4, g5, g6, g7, g8])), (q, .inl (cI, n, .inl (upd (upd (upd (upd (upd (upd (upd f (x + 0) kd) (x + 1) bd) (x + 2) (nI a)) (x + 3) (nI b9)) (x + 4) (-1)) (x + 5) (if 268435456 < ((1 + (f (a + 5))) + (f (b9 + 5))) then 268435456 else ((1 + (f (a + 5))) + (f (b9 + 5))))) (x + 6) pl)))]) [0, 1] (by decide +kernel) rfl
  refine W.widen (k := 0) (n := 0) (by omega) (by omega) ?_
  exact W.iret (v := (nI x)) hx hb hr (fun t ht hW => ⟨⟨(nI x), (), rfl, rfl, by rw [ht]; exact hP9, hD9⟩, hS.F ht⟩) hS.2.2 d_Terms_bind_31
abbrev b_Terms_cast : ByteArray := prog_11_method_10_code
abbrev y_Terms_cast : MethodName := ⟨"ProofDesk$Terms", "cast", "(III)I"⟩
theorem d_Terms_cast_0 : decode b_Terms_cast 0 = .ok (.aload_n 0, 1) := by decide +kernel
theorem d_Terms_cast_1 : decode b_Terms_cast 1 = .ok (.bipush 8, 2) := by decide +kernel
theorem d_Terms_cast_3 : decode b_Terms_cast 3 = .ok (.iconst (-1), 1) := by decide +kernel
theorem d_Terms_cast_4 : decode b_Terms_cast 4 = .ok (.iload_n 1, 1) := by decide +kernel
theorem d_Terms_cast_5 : decode b_Terms_cast 5 = .ok (.iload_n 2, 1) := by decide +kernel
theorem d_Terms_cast_6 : decode b_Terms_cast 6 = .ok (.aload_n 0, 1) := by decide +kernel
theorem d_Terms_cast_7 : decode b_Terms_cast 7 = .ok (.getfield 11, 3) := by decide +kernel
theorem d_Terms_cast_10 : decode b_Terms_cast 10 = .ok (.iload_n 1, 1) := by decide +kernel
theorem d_Terms_cast_11 : decode b_Terms_cast 11 = .ok (.iconst 5, 1) := by decide +kernel
theorem d_Terms_cast_12 : decode b_Terms_cast 12 = .ok (.iadd, 1) := by decide +kernel
theorem d_Terms_cast_13 : decode b_Terms_cast 13 = .ok (.iaload, 1) := by decide +kernel
theorem d_Terms_cast_14 : decode b_Terms_cast 14 = .ok (.iload_n 3, 1) := by decide +kernel
theorem d_Terms_cast_15 : decode b_Terms_cast 15 = .ok (.invokevirtual 44, 3) := by decide +kernel
theorem d_Terms_cast_18 : decode b_Terms_cast 18 = .ok (.ireturn, 1) := by decide +kernel
set_option maxHeartbeats 4000000 in
set_option maxRecDepth 100000 in
theorem g_Terms_cast (l : Launch) (D : va_G) (cI cB cZ cS : ClassId) (sz : Nat) (h0 : Nat) (q : Nat) (n : Nat) (f : Nat → Int32) (g2 : Value) (g3 : Value) (g4 : Value) (g5 : Value) (g6 : Value) (g7 : Value) (g8 : Value) (x : Nat) (a : Nat) (ty : Int32) (pl : Int32) (hx9 : x + 7 ≤ n) (hN : n ≤ 33554432) (ha : a + 6 < n) : Met l y_Terms_cast (zc y_Terms_cast b_Terms_cast 4 (some .int)) ({ frames := 2, cells := 0, slots := 0, locals := 42 }) (zPc D (zty cI cB cZ cS) [(h0, .inr (4, [.ref q, .int (nI x), g2, g3, g4, g5, g6, g7, g8])), (q, .inl (cI, n, .inl f))] sz [.ref h0, .int (nI a), .int ty, .int pl]) (va_Qi (fun (r : Int32) (_ : Unit) => r = (nI x)) (fun _ t => va_P D zcl [(h0, .inr (4, [.ref q, .int (nI (x + 7)), g2, g3, g4, g5, g6, g7, g8])), (q, .inl (cI, n, .inl (upd (upd (upd (upd (upd (upd (upd f (x + 0) 8) (x + 1) (-1)) (x + 2) (nI a)) (x + 3) ty) (x + 4) (-1)) (x + 5) (if 268435456 < (f (a + 5)) then 268435456 else (f (a + 5)))) (x + 6) pl)))] t.heap ∧ va_D (va_A [(h0, .inr (4, [.ref q, .int (nI x), g2, g3, g4, g5, g6, g7, g8])), (q, .inl (cI, n, .inl f))] sz) [(h0, .inr (4, [.ref q, .int (nI (x + 7)), g2, g3, g4, g5, g6, g7, g8])), (q, .inl (cI, n, .inl (upd (upd (upd (upd (upd (upd (upd f (x + 0) 8) (x + 1) (-1)) (x + 2) (nI a)) (x + 3) ty) (x + 4) (-1)) (x + 5) (if 268435456 < (f (a + 5)) then 268435456 else (f (a + 5)))) (x + 6) pl)))]) (va_A [(h0, .inr (4, [.ref q, .int (nI x), g2, g3, g4, g5, g6, g7, g8])), (q, .inl (cI, n, .inl f))] sz)) 0 0 (va_A [(h0, .inr (4, [.ref q, .int (nI x), g2, g3, g4, g5, g6, g7, g8])), (q, .inl (cI, n, .inl f))] sz) := by
  refine Met.ofW (cc := b_Terms_cast) (maxL := 4) (ret := (some .int)) (by decide) rfl ?_
  intro p e s m args below meth c s₁ B hml hv
  obtain ⟨rfl, hsz, hP, ⟨hK, hN⟩, hD0⟩ := hv
  have hx := B.exec
  have hb := B.bytes
  have hr := B.returns
  have hts0 := atoms_spec (ws := zc y_Terms_cast b_Terms_cast 4 (some .int)) B.pre
  have hts : ∀ w ∈ zw, w.before _ s = true := fun w hw => hts0 w (List.mem_cons_of_mem _ hw)
  have hown : s.vm.findClass "ProofDesk$Terms" = some m.cls := findClass_of_methodNamed B.named
  have hlocks := B.notSynchronized
  subst hsz
  have hD := hD0.self (sz := s.heap.size)
  generalize hAe : va_A [(h0, .inr (4, [.ref q, .int (nI x), g2, g3, g4, g5, g6, g7, g8])), (q, .inl (cI, n, .inl f))] s.heap.size = A at hD ⊢
  have hA : ∀ q : Nat, s.heap.size ≤ q → A q := fun q h => by rw [← hAe]; exact Or.inr h
  have hS : va_S A s.heap s.heap [] := va_S.rf
  have hP : va_P D zcl [(h0, .inr (4, [.ref q, .int (nI x), g2, g3, g4, g5, g6, g7, g8])), (q, .inl (cI, n, .inl f))] s.heap := hP
  have hl := lv_entry ([.ref h0, .int (nI a), .int ty, .int pl]) (n := 4) (Nat.le_of_ble_eq_true rfl)
  rw [lg_entry_eq]
  generalize (lg_sl ([.ref h0, .int (nI a), .int ty, .int pl]) ++ List.replicate (4 - (lg_sl ([.ref h0, .int (nI a), .int ty, .int pl])).length) Slot.unset).toArray = ls at hl ⊢
  have hl : lv_has ls 4 [(0, .ref h0), (1, .int (nI a)), (2, .int ty), (3, .int pl)] := hl
  refine lv_aload_n hx hb d_Terms_cast_0 rfl (lv_at hl 0 rfl) ?_
  refine lv_bipush (v := 8) hx hb d_Terms_cast_1 (by decide) ?_
  refine lv_iconst (v := (-1)) hx hb d_Terms_cast_3 (by decide) ?_
  refine lv_iload_n hx hb d_Terms_cast_4 rfl (lv_at hl 1 rfl) ?_
  refine lv_iload_n hx hb d_Terms_cast_5 rfl (lv_at hl 2 rfl) ?_
  refine lv_aload_n hx hb d_Terms_cast_6 rfl (lv_at hl 0 rfl) ?_
  refine va_get (D := D) (ci := 4) (v := .ref q) (C := "ProofDesk$Terms") (T := F_Terms) (N := 9) hx hb hts in_Terms hown hK hP 0 rfl rfl 0 (by decide) (hts _ kw_174) (fun _ h9 => h9) rfl d_Terms_cast_7 ?_
  refine lv_iload_n hx hb d_Terms_cast_10 rfl (lv_at hl 1 rfl) ?_
  refine lv_iconst (v := 5) hx hb d_Terms_cast_11 (by decide) ?_
  refine lv_iadd hx hb d_Terms_cast_12 ?_
  refine zz_i (y := nI (a + 5)) (nI_add a 5) ?_
  refine zz_iald (v := (f (a + 5))) hx hb hK hP 1 0 rfl rfl (i := (nI (a + 5))) (a + 5) (zix_nI (by omega) (by omega)) (rfl) d_Terms_cast_13 ?_
  refine lv_iload_n hx hb d_Terms_cast_14 rfl (lv_at hl 3 rfl) ?_
  have hPc := hP.sub (ws' := [(h0, .inr (4, [.ref q, .int (nI x), g2, g3, g4, g5, g6, g7, g8])), (q, .inl (cI, n, .inl f))]) [0, 1] rfl
  have hDc := hD.sub (ws' := [(h0, .inr (4, [.ref q, .int (nI x), g2, g3, g4, g5, g6, g7, g8])), (q, .inl (cI, n, .inl f))]) [0, 1] (by decide +kernel) rfl
  have hFc := va_free (wc := [(h0, .inr (4, [.ref q, .int (nI x), g2, g3, g4, g5, g6, g7, g8])), (q, .inl (cI, n, .inl f))]) hD hS hA [0, 1] rfl
  have hkc : 0 + 0 ≤ 0 := by omega
  have hks : 0 + 0 ≤ 0 := by omega
  refine va_calli (va_runV (As := [.int 8, .int (-1), .int (nI a), .int ty, .int (f (a + 5)), .int pl]) (rest := []) ⟨hx, hb, hml, hown, hts⟩ (g_Terms_node l D cI cB cZ cS s.heap.size h0 q n f g2 g3 g4 g5 g6 g7 g8 x 8 (-1) (nI a) ty (f (a + 5)) pl (by omega) (by omega)) (⟨callB_of 6 hts (zgood kw_744) rfl rfl rfl (hts _ kw_9) (hts _ kw_741) (by decide +kernel) ⟨Nat.le_of_ble_eq_true rfl, Nat.le_of_ble_eq_true rfl⟩, hts _ kw_743, hts _ kp_16⟩) (zPreV hPc hK hN hDc (va_recv (q := ("ProofDesk$Terms", F_Terms, 9)) hK hP rfl (q0 := 0) rfl)) rfl rfl hl.1 rfl (lv_room (Nat.le_of_ble_eq_true rfl)) d_Terms_cast_15 ⟨hkc, hks⟩) hS (fun q _ h => hFc q h) hFc (fun r u t H1 locs ht hvm hw hB hz1 hk1 hS => ?_)
  obtain ⟨hP1, hD1⟩ := hB
  rw [ht] at hP1
  obtain ⟨hP, hD⟩ := va_join (wr := []) (w1 := [(h0, .inr (4, [.ref q, .int (nI (x + 7)), g2, g3, g4, g5, g6, g7, g8])), (q, .inl (cI, n, .inl (upd (upd (upd (upd (upd (upd (upd f (x + 0) 8) (x + 1) (-1)) (x + 2) (nI a)) (x + 3) ty) (x + 4) (-1)) (x + 5) (if 268435456 < (f (a + 5)) then 268435456 else (f (a + 5)))) (x + 6) pl)))]) hP hD [0, 1] [] rfl rfl (by decide +kernel) (by decide +kernel) hk1 hFc hP1 hD1
  generalize H1 = H at hP hS ⊢
  have hP : va_P D zcl [(h0, .inr (4, [.ref q, .int (nI (x + 7)), g2, g3, g4, g5, g6, g7, g8])), (q, .inl (cI, n, .inl (upd (upd (upd (upd (upd (upd (upd f (x + 0) 8) (x + 1) (-1)) (x + 2) (nI a)) (x + 3) ty) (x + 4) (-1)) (x + 5) (if 268435456 < (f (a + 5)) then 268435456 else (f (a + 5)))) (x + 6) pl)))] H := hP
  have hD : va_D A [(h0, .inr (4, [.ref q, .int (nI (x + 7)), g2, g3, g4, g5, g6, g7, g8])), (q, .inl (cI, n, .inl (upd (upd (upd (upd (upd (upd (upd f (x + 0) 8) (x + 1) (-1)) (x + 2) (nI a)) (x + 3) ty) (x + 4) (-1)) (x + 5) (if 268435456 < (f (a + 5)) then 268435456 else (f (a + 5)))) (x + 6) pl)))] := hD
  subst hw
  refine W.widen (k := 0) (n := 0) (by omega) (by omega) ?_
  have hP9 := hP.sub (ws' := [(h0, .inr (4, [.ref q, .int (nI (x + 7)), g2, g3, g4, g5, g6, g7, g8])), (q, .inl (cI, n, .inl (upd (upd (upd (upd (upd (upd (upd f (x + 0) 8) (x + 1) (-1)) (x + 2) (nI a)) (x + 3) ty) (x + 4) (-1)) (x + 5) (if 268435456 < (f (a + 5)) then 268435456 else (f (a + 5)))) (x + 6) pl)))]) [0, 1] rfl
  have hD9 := hD.sub (ws' := [(h0, .inr (4, [.ref q, .int (nI (x + 7)), g2, g3, g4, g5, g6, g7, g8])), (q, .inl (cI, n, .inl (upd (upd (upd (upd (upd (upd (upd f (x + 0) 8) (x + 1) (-1)) (x + 2) (nI a)) (x + 3) ty) (x + 4) (-1)) (x + 5) (if 268435456 < (f (a + 5)) then 268435456 else (f (a + 5)))) (x + 6) pl)))]) [0, 1] (by decide +kernel) rfl
  refine W.widen (k := 0) (n := 0) (by omega) (by omega) ?_
  exact W.iret (v := (nI x)) hx hb hr (fun t ht hW => ⟨⟨(nI x), (), rfl, rfl, by rw [ht]; exact hP9, hD9⟩, hS.F ht⟩) hS.2.2 d_Terms_cast_18
abbrev b_Terms_binder : ByteArray := prog_11_method_19_code
abbrev y_Terms_binder : MethodName := ⟨"ProofDesk$Terms", "binder", "(I)I"⟩
theorem d_Terms_binder_0 : decode b_Terms_binder 0 = .ok (.bipush 6, 2) := by decide +kernel
theorem d_Terms_binder_2 : decode b_Terms_binder 2 = .ok (.aload_n 0, 1) := by decide +kernel
theorem d_Terms_binder_3 : decode b_Terms_binder 3 = .ok (.getfield 48, 3) := by decide +kernel
theorem d_Terms_binder_6 : decode b_Terms_binder 6 = .ok (.iconst 1, 1) := by decide +kernel
theorem d_Terms_binder_7 : decode b_Terms_binder 7 = .ok (.iadd, 1) := by decide +kernel
theorem d_Terms_binder_8 : decode b_Terms_binder 8 = .ok (.imul, 1) := by decide +kernel
theorem d_Terms_binder_9 : decode b_Terms_binder 9 = .ok (.aload_n 0, 1) := by decide +kernel
theorem d_Terms_binder_10 : decode b_Terms_binder 10 = .ok (.getfield 15, 3) := by decide +kernel
theorem d_Terms_binder_13 : decode b_Terms_binder 13 = .ok (.arraylength, 1) := by decide +kernel
theorem d_Terms_binder_14 : decode b_Terms_binder 14 = .ok (.if_icmp .le 21, 3) := by decide +kernel
theorem d_Terms_binder_35 : decode b_Terms_binder 35 = .ok (.bipush 6, 2) := by decide +kernel
theorem d_Terms_binder_37 : decode b_Terms_binder 37 = .ok (.aload_n 0, 1) := by decide +kernel
theorem d_Terms_binder_38 : decode b_Terms_binder 38 = .ok (.getfield 48, 3) := by decide +kernel
theorem d_Terms_binder_41 : decode b_Terms_binder 41 = .ok (.imul, 1) := by decide +kernel
theorem d_Terms_binder_42 : decode b_Terms_binder 42 = .ok (.istore_n 2, 1) := by decide +kernel
theorem d_Terms_binder_43 : decode b_Terms_binder 43 = .ok (.aload_n 0, 1) := by decide +kernel
theorem d_Terms_binder_44 : decode b_Terms_binder 44 = .ok (.getfield 15, 3) := by decide +kernel
theorem d_Terms_binder_47 : decode b_Terms_binder 47 = .ok (.iload_n 2, 1) := by decide +kernel
theorem d_Terms_binder_48 : decode b_Terms_binder 48 = .ok (.iconst 0, 1) := by decide +kernel
theorem d_Terms_binder_49 : decode b_Terms_binder 49 = .ok (.iadd, 1) := by decide +kernel
theorem d_Terms_binder_50 : decode b_Terms_binder 50 = .ok (.iload_n 1, 1) := by decide +kernel
theorem d_Terms_binder_51 : decode b_Terms_binder 51 = .ok (.iastore, 1) := by decide +kernel
theorem d_Terms_binder_52 : decode b_Terms_binder 52 = .ok (.aload_n 0, 1) := by decide +kernel
theorem d_Terms_binder_53 : decode b_Terms_binder 53 = .ok (.getfield 15, 3) := by decide +kernel
theorem d_Terms_binder_56 : decode b_Terms_binder 56 = .ok (.iload_n 2, 1) := by decide +kernel
theorem d_Terms_binder_57 : decode b_Terms_binder 57 = .ok (.iconst 1, 1) := by decide +kernel
theorem d_Terms_binder_58 : decode b_Terms_binder 58 = .ok (.iadd, 1) := by decide +kernel
theorem d_Terms_binder_59 : decode b_Terms_binder 59 = .ok (.iconst (-1), 1) := by decide +kernel
theorem d_Terms_binder_60 : decode b_Terms_binder 60 = .ok (.iastore, 1) := by decide +kernel
theorem d_Terms_binder_61 : decode b_Terms_binder 61 = .ok (.aload_n 0, 1) := by decide +kernel
theorem d_Terms_binder_62 : decode b_Terms_binder 62 = .ok (.getfield 15, 3) := by decide +kernel
theorem d_Terms_binder_65 : decode b_Terms_binder 65 = .ok (.iload_n 2, 1) := by decide +kernel
theorem d_Terms_binder_66 : decode b_Terms_binder 66 = .ok (.iconst 2, 1) := by decide +kernel
theorem d_Terms_binder_67 : decode b_Terms_binder 67 = .ok (.iadd, 1) := by decide +kernel
theorem d_Terms_binder_68 : decode b_Terms_binder 68 = .ok (.iconst (-1), 1) := by decide +kernel
theorem d_Terms_binder_69 : decode b_Terms_binder 69 = .ok (.iastore, 1) := by decide +kernel
theorem d_Terms_binder_70 : decode b_Terms_binder 70 = .ok (.aload_n 0, 1) := by decide +kernel
theorem d_Terms_binder_71 : decode b_Terms_binder 71 = .ok (.getfield 15, 3) := by decide +kernel
theorem d_Terms_binder_74 : decode b_Terms_binder 74 = .ok (.iload_n 2, 1) := by decide +kernel
theorem d_Terms_binder_75 : decode b_Terms_binder 75 = .ok (.iconst 3, 1) := by decide +kernel
theorem d_Terms_binder_76 : decode b_Terms_binder 76 = .ok (.iadd, 1) := by decide +kernel
theorem d_Terms_binder_77 : decode b_Terms_binder 77 = .ok (.iconst (-1), 1) := by decide +kernel
theorem d_Terms_binder_78 : decode b_Terms_binder 78 = .ok (.iastore, 1) := by decide +kernel
theorem d_Terms_binder_79 : decode b_Terms_binder 79 = .ok (.aload_n 0, 1) := by decide +kernel
theorem d_Terms_binder_80 : decode b_Terms_binder 80 = .ok (.getfield 15, 3) := by decide +kernel
theorem d_Terms_binder_83 : decode b_Terms_binder 83 = .ok (.iload_n 2, 1) := by decide +kernel
theorem d_Terms_binder_84 : decode b_Terms_binder 84 = .ok (.iconst 4, 1) := by decide +kernel
theorem d_Terms_binder_85 : decode b_Terms_binder 85 = .ok (.iadd, 1) := by decide +kernel
theorem d_Terms_binder_86 : decode b_Terms_binder 86 = .ok (.iconst 0, 1) := by decide +kernel
theorem d_Terms_binder_87 : decode b_Terms_binder 87 = .ok (.iastore, 1) := by decide +kernel
theorem d_Terms_binder_88 : decode b_Terms_binder 88 = .ok (.aload_n 0, 1) := by decide +kernel
theorem d_Terms_binder_89 : decode b_Terms_binder 89 = .ok (.getfield 15, 3) := by decide +kernel
theorem d_Terms_binder_92 : decode b_Terms_binder 92 = .ok (.iload_n 2, 1) := by decide +kernel
theorem d_Terms_binder_93 : decode b_Terms_binder 93 = .ok (.iconst 5, 1) := by decide +kernel
theorem d_Terms_binder_94 : decode b_Terms_binder 94 = .ok (.iadd, 1) := by decide +kernel
theorem d_Terms_binder_95 : decode b_Terms_binder 95 = .ok (.iconst (-1), 1) := by decide +kernel
theorem d_Terms_binder_96 : decode b_Terms_binder 96 = .ok (.iastore, 1) := by decide +kernel
theorem d_Terms_binder_97 : decode b_Terms_binder 97 = .ok (.aload_n 0, 1) := by decide +kernel
theorem d_Terms_binder_98 : decode b_Terms_binder 98 = .ok (.dup, 1) := by decide +kernel
theorem d_Terms_binder_99 : decode b_Terms_binder 99 = .ok (.getfield 48, 3) := by decide +kernel
theorem d_Terms_binder_102 : decode b_Terms_binder 102 = .ok (.iconst 1, 1) := by decide +kernel
theorem d_Terms_binder_103 : decode b_Terms_binder 103 = .ok (.iadd, 1) := by decide +kernel
theorem d_Terms_binder_104 : decode b_Terms_binder 104 = .ok (.putfield 48, 3) := by decide +kernel
theorem d_Terms_binder_107 : decode b_Terms_binder 107 = .ok (.aload_n 0, 1) := by decide +kernel
theorem d_Terms_binder_108 : decode b_Terms_binder 108 = .ok (.getfield 48, 3) := by decide +kernel
theorem d_Terms_binder_111 : decode b_Terms_binder 111 = .ok (.iconst 1, 1) := by decide +kernel
theorem d_Terms_binder_112 : decode b_Terms_binder 112 = .ok (.isub, 1) := by decide +kernel
theorem d_Terms_binder_113 : decode b_Terms_binder 113 = .ok (.ireturn, 1) := by decide +kernel
set_option maxHeartbeats 4000000 in
set_option maxRecDepth 100000 in
theorem g_Terms_binder (l : Launch) (D : va_G) (cI cB cZ cS : ClassId) (sz : Nat) (h0 : Nat) (q : Nat) (n : Nat) (f : Nat → Int32) (g0 : Value) (g1 : Value) (g4 : Value) (g5 : Value) (g6 : Value) (g7 : Value) (g8 : Value) (x : Nat) (nm : Int32) (hx9 : 6 * (x + 1) ≤ n) (hN : n ≤ 33554432) : Met l y_Terms_binder (zc y_Terms_binder b_Terms_binder 3 (some .int)) ({ frames := 0, cells := 0, slots := 0, locals := 0 }) (zPc D (zty cI cB cZ cS) [(h0, .inr (4, [g0, g1, .ref q, .int (nI x), g4, g5, g6, g7, g8])), (q, .inl (cI, n, .inl f))] sz [.ref h0, .int nm]) (va_Qi (fun (r : Int32) (_ : Unit) => r = (nI x)) (fun _ t => va_P D zcl [(h0, .inr (4, [g0, g1, .ref q, .int (nI (x + 1)), g4, g5, g6, g7, g8])), (q, .inl (cI, n, .inl (upd (upd (upd (upd (upd (upd f (6 * x + 0) nm) (6 * x + 1) (-1)) (6 * x + 2) (-1)) (6 * x + 3) (-1)) (6 * x + 4) 0) (6 * x + 5) (-1))))] t.heap ∧ va_D (va_A [(h0, .inr (4, [g0, g1, .ref q, .int (nI x), g4, g5, g6, g7, g8])), (q, .inl (cI, n, .inl f))] sz) [(h0, .inr (4, [g0, g1, .ref q, .int (nI (x + 1)), g4, g5, g6, g7, g8])), (q, .inl (cI, n, .inl (upd (upd (upd (upd (upd (upd f (6 * x + 0) nm) (6 * x + 1) (-1)) (6 * x + 2) (-1)) (6 * x + 3) (-1)) (6 * x + 4) 0) (6 * x + 5) (-1))))]) (va_A [(h0, .inr (4, [g0, g1, .ref q, .int (nI x), g4, g5, g6, g7, g8])), (q, .inl (cI, n, .inl f))] sz)) 0 0 (va_A [(h0, .inr (4, [g0, g1, .ref q, .int (nI x), g4, g5, g6, g7, g8])), (q, .inl (cI, n, .inl f))] sz) := by
  refine Met.ofW (cc := b_Terms_binder) (maxL := 3) (ret := (some .int)) (by decide) rfl ?_
  intro p e s m args below meth c s₁ B hml hv
  obtain ⟨rfl, hsz, hP, ⟨hK, hN⟩, hD0⟩ := hv
  have hx := B.exec
  have hb := B.bytes
  have hr := B.returns
  have hts0 := atoms_spec (ws := zc y_Terms_binder b_Terms_binder 3 (some .int)) B.pre
  have hts : ∀ w ∈ zw, w.before _ s = true := fun w hw => hts0 w (List.mem_cons_of_mem _ hw)
  have hown : s.vm.findClass "ProofDesk$Terms" = some m.cls := findClass_of_methodNamed B.named
  have hlocks := B.notSynchronized
  subst hsz
  have hD := hD0.self (sz := s.heap.size)
  generalize hAe : va_A [(h0, .inr (4, [g0, g1, .ref q, .int (nI x), g4, g5, g6, g7, g8])), (q, .inl (cI, n, .inl f))] s.heap.size = A at hD ⊢
  have hA : ∀ q : Nat, s.heap.size ≤ q → A q := fun q h => by rw [← hAe]; exact Or.inr h
  have hS : va_S A s.heap s.heap [] := va_S.rf
  have hP : va_P D zcl [(h0, .inr (4, [g0, g1, .ref q, .int (nI x), g4, g5, g6, g7, g8])), (q, .inl (cI, n, .inl f))] s.heap := hP
  have hl := lv_entry ([.ref h0, .int nm]) (n := 3) (Nat.le_of_ble_eq_true rfl)
  rw [lg_entry_eq]
  generalize (lg_sl ([.ref h0, .int nm]) ++ List.replicate (3 - (lg_sl ([.ref h0, .int nm])).length) Slot.unset).toArray = ls at hl ⊢
  have hl : lv_has ls 3 [(0, .ref h0), (1, .int nm)] := hl
  refine lv_bipush (v := 6) hx hb d_Terms_binder_0 (by decide) ?_
  refine lv_aload_n hx hb d_Terms_binder_2 rfl (lv_at hl 0 rfl) ?_
  refine va_get (D := D) (ci := 4) (v := .int (nI x)) (C := "ProofDesk$Terms") (T := F_Terms) (N := 9) hx hb hts in_Terms hown hK hP 0 rfl rfl 3 (by decide) (hts _ kw_179) (fun _ h9 => h9) rfl d_Terms_binder_3 ?_
  refine lv_iconst (v := 1) hx hb d_Terms_binder_6 (by decide) ?_
  refine lv_iadd hx hb d_Terms_binder_7 ?_
  refine zz_i (y := nI (x + 1)) (nI_add x 1) ?_
  refine lv_imul hx hb d_Terms_binder_8 ?_
  refine zz_i (y := nI (6 * (x + 1))) (pk_mul 6 (x + 1)) ?_
  refine lv_aload_n hx hb d_Terms_binder_9 rfl (lv_at hl 0 rfl) ?_
  refine va_get (D := D) (ci := 4) (v := .ref q) (C := "ProofDesk$Terms") (T := F_Terms) (N := 9) hx hb hts in_Terms hown hK hP 0 rfl rfl 2 (by decide) (hts _ kw_177) (fun _ h9 => h9) rfl d_Terms_binder_10 ?_
  refine va_alen (v := (nI n)) hx hb hK hP 1 0 rfl rfl rfl d_Terms_binder_13 ?_
  have hc_1 : ((nI (6 * (x + 1))) : Int32) ≤ (nI n) := nI_le (by omega) (by omega)
  refine lv_icmp_le hx hb d_Terms_binder_14 rfl (fun _ => ?_) (fun h => absurd hc_1 h)
  refine lv_bipush (v := 6) hx hb d_Terms_binder_35 (by decide) ?_
  refine lv_aload_n hx hb d_Terms_binder_37 rfl (lv_at hl 0 rfl) ?_
  refine va_get (D := D) (ci := 4) (v := .int (nI x)) (C := "ProofDesk$Terms") (T := F_Terms) (N := 9) hx hb hts in_Terms hown hK hP 0 rfl rfl 3 (by decide) (hts _ kw_179) (fun _ h9 => h9) rfl d_Terms_binder_38 ?_
  refine lv_imul hx hb d_Terms_binder_41 ?_
  refine zz_i (y := nI (6 * x)) (pk_mul 6 x) ?_
  refine lv_istore_n (lv' := [(2, .int (nI (6 * x))), (0, .ref h0), (1, .int nm)]) hx hb d_Terms_binder_42 rfl hl (by decide) rfl (fun ls hl => ?_)
  refine lv_aload_n hx hb d_Terms_binder_43 rfl (lv_at hl 1 rfl) ?_
  refine va_get (D := D) (ci := 4) (v := .ref q) (C := "ProofDesk$Terms") (T := F_Terms) (N := 9) hx hb hts in_Terms hown hK hP 0 rfl rfl 2 (by decide) (hts _ kw_177) (fun _ h9 => h9) rfl d_Terms_binder_44 ?_
  refine lv_iload_n hx hb d_Terms_binder_47 rfl (lv_at hl 0 rfl) ?_
  refine lv_iconst (v := 0) hx hb d_Terms_binder_48 (by decide) ?_
  refine lv_iadd hx hb d_Terms_binder_49 ?_
  refine zz_i (y := nI (6 * x + 0)) (nI_add (6 * x) 0) ?_
  refine lv_iload_n hx hb d_Terms_binder_50 rfl (lv_at hl 2 rfl) ?_
  refine zz_iast hx hb hK hP hD hS 1 0 rfl rfl (i := (nI (6 * x + 0))) (x := nm) (6 * x + 0) (zix_nI (by omega) (by omega)) d_Terms_binder_51 (fun H locs hP hD hS => ?_)
  have hP : va_P D zcl [(h0, .inr (4, [g0, g1, .ref q, .int (nI x), g4, g5, g6, g7, g8])), (q, .inl (cI, n, .inl (upd f (6 * x + 0) nm)))] H := hP
  have hD : va_D A [(h0, .inr (4, [g0, g1, .ref q, .int (nI x), g4, g5, g6, g7, g8])), (q, .inl (cI, n, .inl (upd f (6 * x + 0) nm)))] := hD
  refine lv_aload_n hx hb d_Terms_binder_52 rfl (lv_at hl 1 rfl) ?_
  refine va_get (D := D) (ci := 4) (v := .ref q) (C := "ProofDesk$Terms") (T := F_Terms) (N := 9) hx hb hts in_Terms hown hK hP 0 rfl rfl 2 (by decide) (hts _ kw_177) (fun _ h9 => h9) rfl d_Terms_binder_53 ?_
  refine lv_iload_n hx hb d_Terms_binder_56 rfl (lv_at hl 0 rfl) ?_
  refine lv_iconst (v := 1) hx hb d_Terms_binder_57 (by decide) ?_
  refine lv_iadd hx hb d_Terms_binder_58 ?_
  refine zz_i (y := nI (6 * x + 1)) (nI_add (6 * x) 1) ?_
  refine lv_iconst (v := (-1)) hx hb d_Terms_binder_59 (by decide) ?_
  refine zz_iast hx hb hK hP hD hS 1 0 rfl rfl (i := (nI (6 * x + 1))) (x := (-1)) (6 * x + 1) (zix_nI (by omega) (by omega)) d_Terms_binder_60 (fun H locs hP hD hS => ?_)
  have hP : va_P D zcl [(h0, .inr (4, [g0, g1, .ref q, .int (nI x), g4, g5, g6, g7, g8])), (q, .inl (cI, n, .inl (upd (upd f (6 * x + 0) nm) (6 * x + 1) (-1))))] H := hP
  have hD : va_D A [(h0, .inr (4, [g0, g1, .ref q, .int (nI x), g4, g5, g6, g7, g8])), (q, .inl (cI, n, .inl (upd (upd f (6 * x + 0) nm) (6 * x + 1) (-1))))] := hD
  refine lv_aload_n hx hb d_Terms_binder_61 rfl (lv_at hl 1 rfl) ?_
  refine va_get (D := D) (ci := 4) (v := .ref q) (C := "ProofDesk$Terms") (T := F_Terms) (N := 9) hx hb hts in_Terms hown hK hP 0 rfl rfl 2 (by decide) (hts _ kw_177) (fun _ h9 => h9) rfl d_Terms_binder_62 ?_
  refine lv_iload_n hx hb d_Terms_binder_65 rfl (lv_at hl 0 rfl) ?_
  refine lv_iconst (v := 2) hx hb d_Terms_binder_66 (by decide) ?_
  refine lv_iadd hx hb d_Terms_binder_67 ?_
  refine zz_i (y := nI (6 * x + 2)) (nI_add (6 * x) 2) ?_
  refine lv_iconst (v := (-1)) hx hb d_Terms_binder_68 (by decide) ?_
  refine zz_iast hx hb hK hP hD hS 1 0 rfl rfl (i := (nI (6 * x + 2))) (x := (-1)) (6 * x + 2) (zix_nI (by omega) (by omega)) d_Terms_binder_69 (fun H locs hP hD hS => ?_)
  have hP : va_P D zcl [(h0, .inr (4, [g0, g1, .ref q, .int (nI x), g4, g5, g6, g7, g8])), (q, .inl (cI, n, .inl (upd (upd (upd f (6 * x + 0) nm) (6 * x + 1) (-1)) (6 * x + 2) (-1))))] H := hP
  have hD : va_D A [(h0, .inr (4, [g0, g1, .ref q, .int (nI x), g4, g5, g6, g7, g8])), (q, .inl (cI, n, .inl (upd (upd (upd f (6 * x + 0) nm) (6 * x + 1) (-1)) (6 * x + 2) (-1))))] := hD
  refine lv_aload_n hx hb d_Terms_binder_70 rfl (lv_at hl 1 rfl) ?_
  refine va_get (D := D) (ci := 4) (v := .ref q) (C := "ProofDesk$Terms") (T := F_Terms) (N := 9) hx hb hts in_Terms hown hK hP 0 rfl rfl 2 (by decide) (hts _ kw_177) (fun _ h9 => h9) rfl d_Terms_binder_71 ?_
  refine lv_iload_n hx hb d_Terms_binder_74 rfl (lv_at hl 0 rfl) ?_
  refine lv_iconst (v := 3) hx hb d_Terms_binder_75 (by decide) ?_
  refine lv_iadd hx hb d_Terms_binder_76 ?_
  refine zz_i (y := nI (6 * x + 3)) (nI_add (6 * x) 3) ?_
  refine lv_iconst (v := (-1)) hx hb d_Terms_binder_77 (by decide) ?_
  refine zz_iast hx hb hK hP hD hS 1 0 rfl rfl (i := (nI (6 * x + 3))) (x := (-1)) (6 * x + 3) (zix_nI (by omega) (by omega)) d_Terms_binder_78 (fun H locs hP hD hS => ?_)
  have hP : va_P D zcl [(h0, .inr (4, [g0, g1, .ref q, .int (nI x), g4, g5, g6, g7, g8])), (q, .inl (cI, n, .inl (upd (upd (upd (upd f (6 * x + 0) nm) (6 * x + 1) (-1)) (6 * x + 2) (-1)) (6 * x + 3) (-1))))] H := hP
  have hD : va_D A [(h0, .inr (4, [g0, g1, .ref q, .int (nI x), g4, g5, g6, g7, g8])), (q, .inl (cI, n, .inl (upd (upd (upd (upd f (6 * x + 0) nm) (6 * x + 1) (-1)) (6 * x + 2) (-1)) (6 * x + 3) (-1))))] := hD
  refine lv_aload_n hx hb d_Terms_binder_79 rfl (lv_at hl 1 rfl) ?_
  refine va_get (D := D) (ci := 4) (v := .ref q) (C := "ProofDesk$Terms") (T := F_Terms) (N := 9) hx hb hts in_Terms hown hK hP 0 rfl rfl 2 (by decide) (hts _ kw_177) (fun _ h9 => h9) rfl d_Terms_binder_80 ?_
  refine lv_iload_n hx hb d_Terms_binder_83 rfl (lv_at hl 0 rfl) ?_
  refine lv_iconst (v := 4) hx hb d_Terms_binder_84 (by decide) ?_
  refine lv_iadd hx hb d_Terms_binder_85 ?_
  refine zz_i (y := nI (6 * x + 4)) (nI_add (6 * x) 4) ?_
  refine lv_iconst (v := 0) hx hb d_Terms_binder_86 (by decide) ?_
  refine zz_iast hx hb hK hP hD hS 1 0 rfl rfl (i := (nI (6 * x + 4))) (x := 0) (6 * x + 4) (zix_nI (by omega) (by omega)) d_Terms_binder_87 (fun H locs hP hD hS => ?_)
  have hP : va_P D zcl [(h0, .inr (4, [g0, g1, .ref q, .int (nI x), g4, g5, g6, g7, g8])), (q, .inl (cI, n, .inl (upd (upd (upd (upd (upd f (6 * x + 0) nm) (6 * x + 1) (-1)) (6 * x + 2) (-1)) (6 * x + 3) (-1)) (6 * x + 4) 0)))] H := hP
  have hD : va_D A [(h0, .inr (4, [g0, g1, .ref q, .int (nI x), g4, g5, g6, g7, g8])), (q, .inl (cI, n, .inl (upd (upd (upd (upd (upd f (6 * x + 0) nm) (6 * x + 1) (-1)) (6 * x + 2) (-1)) (6 * x + 3) (-1)) (6 * x + 4) 0)))] := hD
  refine lv_aload_n hx hb d_Terms_binder_88 rfl (lv_at hl 1 rfl) ?_
  refine va_get (D := D) (ci := 4) (v := .ref q) (C := "ProofDesk$Terms") (T := F_Terms) (N := 9) hx hb hts in_Terms hown hK hP 0 rfl rfl 2 (by decide) (hts _ kw_177) (fun _ h9 => h9) rfl d_Terms_binder_89 ?_
  refine lv_iload_n hx hb d_Terms_binder_92 rfl (lv_at hl 0 rfl) ?_
  refine lv_iconst (v := 5) hx hb d_Terms_binder_93 (by decide) ?_
  refine lv_iadd hx hb d_Terms_binder_94 ?_
  refine zz_i (y := nI (6 * x + 5)) (nI_add (6 * x) 5) ?_
  refine lv_iconst (v := (-1)) hx hb d_Terms_binder_95 (by decide) ?_
  refine zz_iast hx hb hK hP hD hS 1 0 rfl rfl (i := (nI (6 * x + 5))) (x := (-1)) (6 * x + 5) (zix_nI (by omega) (by omega)) d_Terms_binder_96 (fun H locs hP hD hS => ?_)
  have hP : va_P D zcl [(h0, .inr (4, [g0, g1, .ref q, .int (nI x), g4, g5, g6, g7, g8])), (q, .inl (cI, n, .inl (upd (upd (upd (upd (upd (upd f (6 * x + 0) nm) (6 * x + 1) (-1)) (6 * x + 2) (-1)) (6 * x + 3) (-1)) (6 * x + 4) 0) (6 * x + 5) (-1))))] H := hP
  have hD : va_D A [(h0, .inr (4, [g0, g1, .ref q, .int (nI x), g4, g5, g6, g7, g8])), (q, .inl (cI, n, .inl (upd (upd (upd (upd (upd (upd f (6 * x + 0) nm) (6 * x + 1) (-1)) (6 * x + 2) (-1)) (6 * x + 3) (-1)) (6 * x + 4) 0) (6 * x + 5) (-1))))] := hD
  refine lv_aload_n hx hb d_Terms_binder_97 rfl (lv_at hl 1 rfl) ?_
  refine lv_dup hx hb d_Terms_binder_98 rfl ?_
  refine va_get (D := D) (ci := 4) (v := .int (nI x)) (C := "ProofDesk$Terms") (T := F_Terms) (N := 9) hx hb hts in_Terms hown hK hP 0 rfl rfl 3 (by decide) (hts _ kw_179) (fun _ h9 => h9) rfl d_Terms_binder_99 ?_
  refine lv_iconst (v := 1) hx hb d_Terms_binder_102 (by decide) ?_
  refine lv_iadd hx hb d_Terms_binder_103 ?_
  refine zz_i (y := nI (x + 1)) (nI_add x 1) ?_
  refine va_put (D := D) (ci := 4) (v := .int (nI (x + 1))) (ty := .int) (C := "ProofDesk$Terms") (T := F_Terms) (N := 9) hx hb hts in_Terms t_Terms t_Terms_ok n_Terms hown hK hP hD hS 0 rfl rfl 3 (by decide) (hts _ kw_179) (fun _ h9 => h9) rfl (by decide +kernel) rfl rfl (Nat.le_of_ble_eq_true rfl) d_Terms_binder_104 (fun H locs hP hD hS => ?_)
  have hP : va_P D zcl [(h0, .inr (4, [g0, g1, .ref q, .int (nI (x + 1)), g4, g5, g6, g7, g8])), (q, .inl (cI, n, .inl (upd (upd (upd (upd (upd (upd f (6 * x + 0) nm) (6 * x + 1) (-1)) (6 * x + 2) (-1)) (6 * x + 3) (-1)) (6 * x + 4) 0) (6 * x + 5) (-1))))] H := hP
  have hD : va_D A [(h0, .inr (4, [g0, g1, .ref q, .int (nI (x + 1)), g4, g5, g6, g7, g8])), (q, .inl (cI, n, .inl (upd (upd (upd (upd (upd (upd f (6 * x + 0) nm) (6 * x + 1) (-1)) (6 * x + 2) (-1)) (6 * x + 3) (-1)) (6 * x + 4) 0) (6 * x + 5) (-1))))] := hD
  refine lv_aload_n hx hb d_Terms_binder_107 rfl (lv_at hl 1 rfl) ?_
  refine va_get (D := D) (ci := 4) (v := .int (nI (x + 1))) (C := "ProofDesk$Terms") (T := F_Terms) (N := 9) hx hb hts in_Terms hown hK hP 0 rfl rfl 3 (by decide) (hts _ kw_179) (fun _ h9 => h9) rfl d_Terms_binder_108 ?_
  refine lv_iconst (v := 1) hx hb d_Terms_binder_111 (by decide) ?_
  refine lv_isub hx hb d_Terms_binder_112 ?_
  refine zz_i (y := nI (x)) (nI_pred _) ?_
  have hP9 := hP.sub (ws' := [(h0, .inr (4, [g0, g1, .ref q, .int (nI (x + 1)), g4, g5, g6, g7, g8])), (q, .inl (cI, n, .inl (upd (upd (upd (upd (upd (upd f (6 * x + 0) nm) (6 * x + 1) (-1)) (6 * x + 2) (-1)) (6 * x + 3) (-1)) (6 * x + 4) 0) (6 * x + 5) (-1))))]) [0, 1] rfl
  have hD9 := hD.sub (ws' := [(h0, .inr (4, [g0, g1, .ref q, .int (nI (x + 1)), g4, g5, g6, g7, g8])), (q, .inl (cI, n, .inl (upd (upd (upd (upd (upd (upd f (6 * x + 0) nm) (6 * x + 1) (-1)) (6 * x + 2) (-1)) (6 * x + 3) (-1)) (6 * x + 4) 0) (6 * x + 5) (-1))))]) [0, 1] (by decide +kernel) rfl
  refine W.widen (k := 0) (n := 0) (by omega) (by omega) ?_
  exact W.iret (v := (nI x)) hx hb hr (fun t ht hW => ⟨⟨(nI x), (), rfl, rfl, by rw [ht]; exact hP9, hD9⟩, hS.F ht⟩) hS.2.2 d_Terms_binder_113
theorem d_Terms_binder_17 : decode b_Terms_binder 17 = .ok (.aload_n 0, 1) := by decide +kernel
theorem d_Terms_binder_18 : decode b_Terms_binder 18 = .ok (.aload_n 0, 1) := by decide +kernel
theorem d_Terms_binder_19 : decode b_Terms_binder 19 = .ok (.getfield 15, 3) := by decide +kernel
theorem d_Terms_binder_22 : decode b_Terms_binder 22 = .ok (.iconst 2, 1) := by decide +kernel
theorem d_Terms_binder_23 : decode b_Terms_binder 23 = .ok (.aload_n 0, 1) := by decide +kernel
theorem d_Terms_binder_24 : decode b_Terms_binder 24 = .ok (.getfield 15, 3) := by decide +kernel
theorem d_Terms_binder_27 : decode b_Terms_binder 27 = .ok (.arraylength, 1) := by decide +kernel
theorem d_Terms_binder_28 : decode b_Terms_binder 28 = .ok (.imul, 1) := by decide +kernel
theorem d_Terms_binder_29 : decode b_Terms_binder 29 = .ok (.invokestatic 31, 3) := by decide +kernel
theorem d_Terms_binder_32 : decode b_Terms_binder 32 = .ok (.putfield 15, 3) := by decide +kernel
set_option maxHeartbeats 4000000 in
set_option maxRecDepth 100000 in
theorem g_Terms_binderG (l : Launch) (D : va_G) (cI cB cZ cS : ClassId) (sz : Nat) (h0 : Nat) (q : Nat) (n : Nat) (f : Nat → Int32) (g0 : Value) (g1 : Value) (g4 : Value) (g5 : Value) (g6 : Value) (g7 : Value) (g8 : Value) (x : Nat) (nm : Int32) (hx9 : n < 6 * (x + 1)) (hx8 : 6 * x ≤ n) (h1 : 6 ≤ n) (hN : n ≤ 33554432) : Met l y_Terms_binder (zc y_Terms_binder b_Terms_binder 3 (some .int)) ({ frames := 2, cells := 1, slots := 2 * n, locals := 62 }) (zPc D (zty cI cB cZ cS) [(h0, .inr (4, [g0, g1, .ref q, .int (nI x), g4, g5, g6, g7, g8])), (q, .inl (cI, n, .inl f))] sz [.ref h0, .int nm]) (va_Qi (fun (r : Int32) (_ : Unit) => r = (nI x)) (fun _ t => ∃ x1 : Nat, va_P D zcl [(h0, .inr (4, [g0, g1, .ref x1, .int (nI (x + 1)), g4, g5, g6, g7, g8])), (q, .inl (cI, n, .inl f)), (x1, .inl (cI, (2 * n), .inl (upd (upd (upd (upd (upd (upd (zcp f n) (6 * x + 0) nm) (6 * x + 1) (-1)) (6 * x + 2) (-1)) (6 * x + 3) (-1)) (6 * x + 4) 0) (6 * x + 5) (-1))))] t.heap ∧ va_D (va_A [(h0, .inr (4, [g0, g1, .ref q, .int (nI x), g4, g5, g6, g7, g8])), (q, .inl (cI, n, .inl f))] sz) [(h0, .inr (4, [g0, g1, .ref x1, .int (nI (x + 1)), g4, g5, g6, g7, g8])), (q, .inl (cI, n, .inl f)), (x1, .inl (cI, (2 * n), .inl (upd (upd (upd (upd (upd (upd (zcp f n) (6 * x + 0) nm) (6 * x + 1) (-1)) (6 * x + 2) (-1)) (6 * x + 3) (-1)) (6 * x + 4) 0) (6 * x + 5) (-1))))]) (va_A [(h0, .inr (4, [g0, g1, .ref q, .int (nI x), g4, g5, g6, g7, g8])), (q, .inl (cI, n, .inl f))] sz)) 1 (2 * n) (va_A [(h0, .inr (4, [g0, g1, .ref q, .int (nI x), g4, g5, g6, g7, g8])), (q, .inl (cI, n, .inl f))] sz) := by
  refine Met.ofW (cc := b_Terms_binder) (maxL := 3) (ret := (some .int)) (by decide) rfl ?_
  intro p e s m args below meth c s₁ B hml hv
  obtain ⟨rfl, hsz, hP, ⟨hK, hN⟩, hD0⟩ := hv
  have hx := B.exec
  have hb := B.bytes
  have hr := B.returns
  have hts0 := atoms_spec (ws := zc y_Terms_binder b_Terms_binder 3 (some .int)) B.pre
  have hts : ∀ w ∈ zw, w.before _ s = true := fun w hw => hts0 w (List.mem_cons_of_mem _ hw)
  have hown : s.vm.findClass "ProofDesk$Terms" = some m.cls := findClass_of_methodNamed B.named
  have hlocks := B.notSynchronized
  subst hsz
  have hD := hD0.self (sz := s.heap.size)
  generalize hAe : va_A [(h0, .inr (4, [g0, g1, .ref q, .int (nI x), g4, g5, g6, g7, g8])), (q, .inl (cI, n, .inl f))] s.heap.size = A at hD ⊢
  have hA : ∀ q : Nat, s.heap.size ≤ q → A q := fun q h => by rw [← hAe]; exact Or.inr h
  have hS : va_S A s.heap s.heap [] := va_S.rf
  have hP : va_P D zcl [(h0, .inr (4, [g0, g1, .ref q, .int (nI x), g4, g5, g6, g7, g8])), (q, .inl (cI, n, .inl f))] s.heap := hP
  have hl := lv_entry ([.ref h0, .int nm]) (n := 3) (Nat.le_of_ble_eq_true rfl)
  rw [lg_entry_eq]
  generalize (lg_sl ([.ref h0, .int nm]) ++ List.replicate (3 - (lg_sl ([.ref h0, .int nm])).length) Slot.unset).toArray = ls at hl ⊢
  have hl : lv_has ls 3 [(0, .ref h0), (1, .int nm)] := hl
  refine lv_bipush (v := 6) hx hb d_Terms_binder_0 (by decide) ?_
  refine lv_aload_n hx hb d_Terms_binder_2 rfl (lv_at hl 0 rfl) ?_
  refine va_get (D := D) (ci := 4) (v := .int (nI x)) (C := "ProofDesk$Terms") (T := F_Terms) (N := 9) hx hb hts in_Terms hown hK hP 0 rfl rfl 3 (by decide) (hts _ kw_179) (fun _ h9 => h9) rfl d_Terms_binder_3 ?_
  refine lv_iconst (v := 1) hx hb d_Terms_binder_6 (by decide) ?_
  refine lv_iadd hx hb d_Terms_binder_7 ?_
  refine zz_i (y := nI (x + 1)) (nI_add x 1) ?_
  refine lv_imul hx hb d_Terms_binder_8 ?_
  refine zz_i (y := nI (6 * (x + 1))) (pk_mul 6 (x + 1)) ?_
  refine lv_aload_n hx hb d_Terms_binder_9 rfl (lv_at hl 0 rfl) ?_
  refine va_get (D := D) (ci := 4) (v := .ref q) (C := "ProofDesk$Terms") (T := F_Terms) (N := 9) hx hb hts in_Terms hown hK hP 0 rfl rfl 2 (by decide) (hts _ kw_177) (fun _ h9 => h9) rfl d_Terms_binder_10 ?_
  refine va_alen (v := (nI n)) hx hb hK hP 1 0 rfl rfl rfl d_Terms_binder_13 ?_
  have hc_1 : ¬ ((nI (6 * (x + 1))) : Int32) ≤ (nI n) := nI_ge (by omega) (by omega)
  refine lv_icmp_le hx hb d_Terms_binder_14 rfl (fun h => absurd h hc_1) (fun _ => ?_)
  refine lv_aload_n hx hb d_Terms_binder_17 rfl (lv_at hl 0 rfl) ?_
  refine lv_aload_n hx hb d_Terms_binder_18 rfl (lv_at hl 0 rfl) ?_
  refine va_get (D := D) (ci := 4) (v := .ref q) (C := "ProofDesk$Terms") (T := F_Terms) (N := 9) hx hb hts in_Terms hown hK hP 0 rfl rfl 2 (by decide) (hts _ kw_177) (fun _ h9 => h9) rfl d_Terms_binder_19 ?_
  refine lv_iconst (v := 2) hx hb d_Terms_binder_22 (by decide) ?_
  refine lv_aload_n hx hb d_Terms_binder_23 rfl (lv_at hl 0 rfl) ?_
  refine va_get (D := D) (ci := 4) (v := .ref q) (C := "ProofDesk$Terms") (T := F_Terms) (N := 9) hx hb hts in_Terms hown hK hP 0 rfl rfl 2 (by decide) (hts _ kw_177) (fun _ h9 => h9) rfl d_Terms_binder_24 ?_
  refine va_alen (v := (nI n)) hx hb hK hP 1 0 rfl rfl rfl d_Terms_binder_27 ?_
  refine lv_imul hx hb d_Terms_binder_28 ?_
  refine zz_i (y := nI (2 * n)) (pk_mul 2 n) ?_
  have hPc := hP.sub (ws' := [(q, .inl (cI, n, .inl f))]) [1] rfl
  have hDc := hD.sub (ws' := [(q, .inl (cI, n, .inl f))]) [1] (by decide +kernel) rfl
  have hFc := va_free (wc := [(q, .inl (cI, n, .inl f))]) hD hS hA [1] rfl
  have hkc : 0 + 1 ≤ 1 := by omega
  have hks : 0 + (2 * n) ≤ 2 * n := by omega
  refine va_callr (va_runS (As := [.ref q, .int (nI (2 * n))]) (rest := [.ref h0]) ⟨hx, hb, hml, hown, hts⟩ (c_copyOf_int l D cI cB cZ cS s.heap.size q n f (2 * n) (by omega) (by omega)) (⟨callB_of 2 hts (zgood kw_136) rfl rfl rfl (hts _ kw_5) (hts _ kw_745) (by decide +kernel) ⟨Nat.le_of_ble_eq_true rfl, Nat.le_of_ble_eq_true rfl⟩, hts _ kw_135⟩) (zPreS hPc hK hN hDc) rfl rfl hl.1 rfl (lv_room (Nat.le_of_ble_eq_true rfl)) d_Terms_binder_29 ⟨hkc, hks⟩) hS (fun q _ h => hFc q h) hFc (fun u r_2 t H1 locs ht hvm hw hB hz1 hk1 hS => ?_)
  obtain ⟨hP1, hD1⟩ := hB
  rw [ht] at hP1
  obtain ⟨hP, hD⟩ := va_join (wr := [(h0, .inr (4, [g0, g1, .ref q, .int (nI x), g4, g5, g6, g7, g8]))]) (w1 := [(q, .inl (cI, n, .inl f)), (r_2, .inl (cI, (2 * n), .inl (zcp f n)))]) hP hD [1] [0] rfl rfl (by decide +kernel) (by decide +kernel) hk1 hFc hP1 hD1
  generalize H1 = H at hP hS ⊢
  have hP : va_P D zcl [(h0, .inr (4, [g0, g1, .ref q, .int (nI x), g4, g5, g6, g7, g8])), (q, .inl (cI, n, .inl f)), (r_2, .inl (cI, (2 * n), .inl (zcp f n)))] H := hP
  have hD : va_D A [(h0, .inr (4, [g0, g1, .ref q, .int (nI x), g4, g5, g6, g7, g8])), (q, .inl (cI, n, .inl f)), (r_2, .inl (cI, (2 * n), .inl (zcp f n)))] := hD
  refine W.widen (k := 1) (n := (0 + (2 * n))) (by omega) (by omega) ?_
  refine va_put (D := D) (ci := 4) (v := .ref r_2) (ty := (.array .int)) (C := "ProofDesk$Terms") (T := F_Terms) (N := 9) hx hb hts in_Terms t_Terms t_Terms_ok n_Terms hown hK hP hD hS 0 rfl rfl 2 (by decide) (hts _ kw_177) (fun _ h9 => h9) rfl (by decide +kernel) rfl rfl (Nat.le_of_ble_eq_true rfl) d_Terms_binder_32 (fun H locs hP hD hS => ?_)
  have hP : va_P D zcl [(h0, .inr (4, [g0, g1, .ref r_2, .int (nI x), g4, g5, g6, g7, g8])), (q, .inl (cI, n, .inl f)), (r_2, .inl (cI, (2 * n), .inl (zcp f n)))] H := hP
  have hD : va_D A [(h0, .inr (4, [g0, g1, .ref r_2, .int (nI x), g4, g5, g6, g7, g8])), (q, .inl (cI, n, .inl f)), (r_2, .inl (cI, (2 * n), .inl (zcp f n)))] := hD
  refine lv_bipush (v := 6) hx hb d_Terms_binder_35 (by decide) ?_
  refine lv_aload_n hx hb d_Terms_binder_37 rfl (lv_at hl 0 rfl) ?_
  refine va_get (D := D) (ci := 4) (v := .int (nI x)) (C := "ProofDesk$Terms") (T := F_Terms) (N := 9) hx hb hts in_Terms hown hK hP 0 rfl rfl 3 (by decide) (hts _ kw_179) (fun _ h9 => h9) rfl d_Terms_binder_38 ?_
  refine lv_imul hx hb d_Terms_binder_41 ?_
  refine zz_i (y := nI (6 * x)) (pk_mul 6 x) ?_
  refine lv_istore_n (lv' := [(2, .int (nI (6 * x))), (0, .ref h0), (1, .int nm)]) hx hb d_Terms_binder_42 rfl hl (by decide) rfl (fun ls hl => ?_)
  refine lv_aload_n hx hb d_Terms_binder_43 rfl (lv_at hl 1 rfl) ?_
  refine va_get (D := D) (ci := 4) (v := .ref r_2) (C := "ProofDesk$Terms") (T := F_Terms) (N := 9) hx hb hts in_Terms hown hK hP 0 rfl rfl 2 (by decide) (hts _ kw_177) (fun _ h9 => h9) rfl d_Terms_binder_44 ?_
  refine lv_iload_n hx hb d_Terms_binder_47 rfl (lv_at hl 0 rfl) ?_
  refine lv_iconst (v := 0) hx hb d_Terms_binder_48 (by decide) ?_
  refine lv_iadd hx hb d_Terms_binder_49 ?_
  refine zz_i (y := nI (6 * x + 0)) (nI_add (6 * x) 0) ?_
  refine lv_iload_n hx hb d_Terms_binder_50 rfl (lv_at hl 2 rfl) ?_
  refine zz_iast hx hb hK hP hD hS 2 0 rfl rfl (i := (nI (6 * x + 0))) (x := nm) (6 * x + 0) (zix_nI (by omega) (by omega)) d_Terms_binder_51 (fun H locs hP hD hS => ?_)
  have hP : va_P D zcl [(h0, .inr (4, [g0, g1, .ref r_2, .int (nI x), g4, g5, g6, g7, g8])), (q, .inl (cI, n, .inl f)), (r_2, .inl (cI, (2 * n), .inl (upd (zcp f n) (6 * x + 0) nm)))] H := hP
  have hD : va_D A [(h0, .inr (4, [g0, g1, .ref r_2, .int (nI x), g4, g5, g6, g7, g8])), (q, .inl (cI, n, .inl f)), (r_2, .inl (cI, (2 * n), .inl (upd (zcp f n) (6 * x + 0) nm)))] := hD
  refine lv_aload_n hx hb d_Terms_binder_52 rfl (lv_at hl 1 rfl) ?_
  refine va_get (D := D) (ci := 4) (v := .ref r_2) (C := "ProofDesk$Terms") (T := F_Terms) (N := 9) hx hb hts in_Terms hown hK hP 0 rfl rfl 2 (by decide) (hts _ kw_177) (fun _ h9 => h9) rfl d_Terms_binder_53 ?_
  refine lv_iload_n hx hb d_Terms_binder_56 rfl (lv_at hl 0 rfl) ?_
  refine lv_iconst (v := 1) hx hb d_Terms_binder_57 (by decide) ?_
  refine lv_iadd hx hb d_Terms_binder_58 ?_
  refine zz_i (y := nI (6 * x + 1)) (nI_add (6 * x) 1) ?_
  refine lv_iconst (v := (-1)) hx hb d_Terms_binder_59 (by decide) ?_
  refine zz_iast hx hb hK hP hD hS 2 0 rfl rfl (i := (nI (6 * x + 1))) (x := (-1)) (6 * x + 1) (zix_nI (by omega) (by omega)) d_Terms_binder_60 (fun H locs hP hD hS => ?_)
  have hP : va_P D zcl [(h0, .inr (4, [g0, g1, .ref r_2, .int (nI x), g4, g5, g6, g7, g8])), (q, .inl (cI, n, .inl f)), (r_2, .inl (cI, (2 * n), .inl (upd (upd (zcp f n) (6 * x + 0) nm) (6 * x + 1) (-1))))] H := hP
  have hD : va_D A [(h0, .inr (4, [g0, g1, .ref r_2, .int (nI x), g4, g5, g6, g7, g8])), (q, .inl (cI, n, .inl f)), (r_2, .inl (cI, (2 * n), .inl (upd (upd (zcp f n) (6 * x + 0) nm) (6 * x + 1) (-1))))] := hD
  refine lv_aload_n hx hb d_Terms_binder_61 rfl (lv_at hl 1 rfl) ?_
  refine va_get (D := D) (ci := 4) (v := .ref r_2) (C := "ProofDesk$Terms") (T := F_Terms) (N := 9) hx hb hts in_Terms hown hK hP 0 rfl rfl 2 (by decide) (hts _ kw_177) (fun _ h9 => h9) rfl d_Terms_binder_62 ?_
  refine lv_iload_n hx hb d_Terms_binder_65 rfl (lv_at hl 0 rfl) ?_
  refine lv_iconst (v := 2) hx hb d_Terms_binder_66 (by decide) ?_
  refine lv_iadd hx hb d_Terms_binder_67 ?_
  refine zz_i (y := nI (6 * x + 2)) (nI_add (6 * x) 2) ?_
  refine lv_iconst (v := (-1)) hx hb d_Terms_binder_68 (by decide) ?_
  refine zz_iast hx hb hK hP hD hS 2 0 rfl rfl (i := (nI (6 * x + 2))) (x := (-1)) (6 * x + 2) (zix_nI (by omega) (by omega)) d_Terms_binder_69 (fun H locs hP hD hS => ?_)
  have hP : va_P D zcl [(h0, .inr (4, [g0, g1, .ref r_2, .int (nI x), g4, g5, g6, g7, g8])), (q, .inl (cI, n, .inl f)), (r_2, .inl (cI, (2 * n), .inl (upd (upd (upd (zcp f n) (6 * x + 0) nm) (6 * x + 1) (-1)) (6 * x + 2) (-1))))] H := hP
  have hD : va_D A [(h0, .inr (4, [g0, g1, .ref r_2, .int (nI x), g4, g5, g6, g7, g8])), (q, .inl (cI, n, .inl f)), (r_2, .inl (cI, (2 * n), .inl (upd (upd (upd (zcp f n) (6 * x + 0) nm) (6 * x + 1) (-1)) (6 * x + 2) (-1))))] := hD
  refine lv_aload_n hx hb d_Terms_binder_70 rfl (lv_at hl 1 rfl) ?_
  refine va_get (D := D) (ci := 4) (v := .ref r_2) (C := "ProofDesk$Terms") (T := F_Terms) (N := 9) hx hb hts in_Terms hown hK hP 0 rfl rfl 2 (by decide) (hts _ kw_177) (fun _ h9 => h9) rfl d_Terms_binder_71 ?_
  refine lv_iload_n hx hb d_Terms_binder_74 rfl (lv_at hl 0 rfl) ?_
  refine lv_iconst (v := 3) hx hb d_Terms_binder_75 (by decide) ?_
  refine lv_iadd hx hb d_Terms_binder_76 ?_
  refine zz_i (y := nI (6 * x + 3)) (nI_add (6 * x) 3) ?_
  refine lv_iconst (v := (-1)) hx hb d_Terms_binder_77 (by decide) ?_
  refine zz_iast hx hb hK hP hD hS 2 0 rfl rfl (i := (nI (6 * x + 3))) (x := (-1)) (6 * x + 3) (zix_nI (by omega) (by omega)) d_Terms_binder_78 (fun H locs hP hD hS => ?_)
  have hP : va_P D zcl [(h0, .inr (4, [g0, g1, .ref r_2, .int (nI x), g4, g5, g6, g7, g8])), (q, .inl (cI, n, .inl f)), (r_2, .inl (cI, (2 * n), .inl (upd (upd (upd (upd (zcp f n) (6 * x + 0) nm) (6 * x + 1) (-1)) (6 * x + 2) (-1)) (6 * x + 3) (-1))))] H := hP
  have hD : va_D A [(h0, .inr (4, [g0, g1, .ref r_2, .int (nI x), g4, g5, g6, g7, g8])), (q, .inl (cI, n, .inl f)), (r_2, .inl (cI, (2 * n), .inl (upd (upd (upd (upd (zcp f n) (6 * x + 0) nm) (6 * x + 1) (-1)) (6 * x + 2) (-1)) (6 * x + 3) (-1))))] := hD
  refine lv_aload_n hx hb d_Terms_binder_79 rfl (lv_at hl 1 rfl) ?_
  refine va_get (D := D) (ci := 4) (v := .ref r_2) (C := "ProofDesk$Terms") (T := F_Terms) (N := 9) hx hb hts in_Terms hown hK hP 0 rfl rfl 2 (by decide) (hts _ kw_177) (fun _ h9 => h9) rfl d_Terms_binder_80 ?_
  refine lv_iload_n hx hb d_Terms_binder_83 rfl (lv_at hl 0 rfl) ?_
  refine lv_iconst (v := 4) hx hb d_Terms_binder_84 (by decide) ?_
  refine lv_iadd hx hb d_Terms_binder_85 ?_
  refine zz_i (y := nI (6 * x + 4)) (nI_add (6 * x) 4) ?_
  refine lv_iconst (v := 0) hx hb d_Terms_binder_86 (by decide) ?_
  refine zz_iast hx hb hK hP hD hS 2 0 rfl rfl (i := (nI (6 * x + 4))) (x := 0) (6 * x + 4) (zix_nI (by omega) (by omega)) d_Terms_binder_87 (fun H locs hP hD hS => ?_)
  have hP : va_P D zcl [(h0, .inr (4, [g0, g1, .ref r_2, .int (nI x), g4, g5, g6, g7, g8])), (q, .inl (cI, n, .inl f)), (r_2, .inl (cI, (2 * n), .inl (upd (upd (upd (upd (upd (zcp f n) (6 * x + 0) nm) (6 * x + 1) (-1)) (6 * x + 2) (-1)) (6 * x + 3) (-1)) (6 * x + 4) 0)))] H := hP
  have hD : va_D A [(h0, .inr (4, [g0, g1, .ref r_2, .int (nI x), g4, g5, g6, g7, g8])), (q, .inl (cI, n, .inl f)), (r_2, .inl (cI, (2 * n), .inl (upd (upd (upd (upd (upd (zcp f n) (6 * x + 0) nm) (6 * x + 1) (-1)) (6 * x + 2) (-1)) (6 * x + 3) (-1)) (6 * x + 4) 0)))] := hD
  refine lv_aload_n hx hb d_Terms_binder_88 rfl (lv_at hl 1 rfl) ?_
  refine va_get (D := D) (ci := 4) (v := .ref r_2) (C := "ProofDesk$Terms") (T := F_Terms) (N := 9) hx hb hts in_Terms hown hK hP 0 rfl rfl 2 (by decide) (hts _ kw_177) (fun _ h9 => h9) rfl d_Terms_binder_89 ?_
  refine lv_iload_n hx hb d_Terms_binder_92 rfl (lv_at hl 0 rfl) ?_
  refine lv_iconst (v := 5) hx hb d_Terms_binder_93 (by decide) ?_
  refine lv_iadd hx hb d_Terms_binder_94 ?_
  refine zz_i (y := nI (6 * x + 5)) (nI_add (6 * x) 5) ?_
  refine lv_iconst (v := (-1)) hx hb d_Terms_binder_95 (by decide) ?_
  refine zz_iast hx hb hK hP hD hS 2 0 rfl rfl (i := (nI (6 * x + 5))) (x := (-1)) (6 * x + 5) (zix_nI (by omega) (by omega)) d_Terms_binder_96 (fun H locs hP hD hS => ?_)
  have hP : va_P D zcl [(h0, .inr (4, [g0, g1, .ref r_2, .int (nI x), g4, g5, g6, g7, g8])), (q, .inl (cI, n, .inl f)), (r_2, .inl (cI, (2 * n), .inl (upd (upd (upd (upd (upd (upd (zcp f n) (6 * x + 0) nm) (6 * x + 1) (-1)) (6 * x + 2) (-1)) (6 * x + 3) (-1)) (6 * x + 4) 0) (6 * x + 5) (-1))))] H := hP
  have hD : va_D A [(h0, .inr (4, [g0, g1, .ref r_2, .int (nI x), g4, g5, g6, g7, g8])), (q, .inl (cI, n, .inl f)), (r_2, .inl (cI, (2 * n), .inl (upd (upd (upd (upd (upd (upd (zcp f n) (6 * x + 0) nm) (6 * x + 1) (-1)) (6 * x + 2) (-1)) (6 * x + 3) (-1)) (6 * x + 4) 0) (6 * x + 5) (-1))))] := hD
  refine lv_aload_n hx hb d_Terms_binder_97 rfl (lv_at hl 1 rfl) ?_
  refine lv_dup hx hb d_Terms_binder_98 rfl ?_
  refine va_get (D := D) (ci := 4) (v := .int (nI x)) (C := "ProofDesk$Terms") (T := F_Terms) (N := 9) hx hb hts in_Terms hown hK hP 0 rfl rfl 3 (by decide) (hts _ kw_179) (fun _ h9 => h9) rfl d_Terms_binder_99 ?_
  refine lv_iconst (v := 1) hx hb d_Terms_binder_102 (by decide) ?_
  refine lv_iadd hx hb d_Terms_binder_103 ?_
  refine zz_i (y := nI (x + 1)) (nI_add x 1) ?_
  refine va_put (D := D) (ci := 4) (v := .int (nI (x + 1))) (ty := .int) (C := "ProofDesk$Terms") (T := F_Terms) (N := 9) hx hb hts in_Terms t_Terms t_Terms_ok n_Terms hown hK hP hD hS 0 rfl rfl 3 (by decide) (hts _ kw_179) (fun _ h9 => h9) rfl (by decide +kernel) rfl rfl (Nat.le_of_ble_eq_true rfl) d_Terms_binder_104 (fun H locs hP hD hS => ?_)
  have hP : va_P D zcl [(h0, .inr (4, [g0, g1, .ref r_2, .int (nI (x + 1)), g4, g5, g6, g7, g8])), (q, .inl (cI, n, .inl f)), (r_2, .inl (cI, (2 * n), .inl (upd (upd (upd (upd (upd (upd (zcp f n) (6 * x + 0) nm) (6 * x + 1) (-1)) (6 * x + 2) (-1)) (6 * x + 3) (-1)) (6 * x + 4) 0) (6 * x + 5) (-1))))] H := hP
  have hD : va_D A [(h0, .inr (4, [g0, g1, .ref r_2, .int (nI (x + 1)), g4, g5, g6, g7, g8])), (q, .inl (cI, n, .inl f)), (r_2, .inl (cI, (2 * n), .inl (upd (upd (upd (upd (upd (upd (zcp f n) (6 * x + 0) nm) (6 * x + 1) (-1)) (6 * x + 2) (-1)) (6 * x + 3) (-1)) (6 * x + 4) 0) (6 * x + 5) (-1))))] := hD
  refine lv_aload_n hx hb d_Terms_binder_107 rfl (lv_at hl 1 rfl) ?_
  refine va_get (D := D) (ci := 4) (v := .int (nI (x + 1))) (C := "ProofDesk$Terms") (T := F_Terms) (N := 9) hx hb hts in_Terms hown hK hP 0 rfl rfl 3 (by decide) (hts _ kw_179) (fun _ h9 => h9) rfl d_Terms_binder_108 ?_
  refine lv_iconst (v := 1) hx hb d_Terms_binder_111 (by decide) ?_
  refine lv_isub hx hb d_Terms_binder_112 ?_
  refine zz_i (y := nI (x)) (nI_pred _) ?_
  have hP9 := hP.sub (ws' := [(h0, .inr (4, [g0, g1, .ref r_2, .int (nI (x + 1)), g4, g5, g6, g7, g8])), (q, .inl (cI, n, .inl f)), (r_2, .inl (cI, (2 * n), .inl (upd (upd (upd (upd (upd (upd (zcp f n) (6 * x + 0) nm) (6 * x + 1) (-1)) (6 * x + 2) (-1)) (6 * x + 3) (-1)) (6 * x + 4) 0) (6 * x + 5) (-1))))]) [0, 1, 2] rfl
  have hD9 := hD.sub (ws' := [(h0, .inr (4, [g0, g1, .ref r_2, .int (nI (x + 1)), g4, g5, g6, g7, g8])), (q, .inl (cI, n, .inl f)), (r_2, .inl (cI, (2 * n), .inl (upd (upd (upd (upd (upd (upd (zcp f n) (6 * x + 0) nm) (6 * x + 1) (-1)) (6 * x + 2) (-1)) (6 * x + 3) (-1)) (6 * x + 4) 0) (6 * x + 5) (-1))))]) [0, 1, 2] (by decide +kernel) rfl
  refine W.widen (k := 1) (n := (2 * n)) (by omega) (by omega) ?_
  exact W.iret (v := (nI x)) hx hb hr (fun t ht hW => ⟨⟨(nI x), (), rfl, rfl, r_2, by rw [ht]; exact hP9, hD9⟩, hS.F ht⟩) hS.2.2 d_Terms_binder_113
