abbrev b_Pile_add : ByteArray := prog_7_method_2_code
abbrev y_Pile_add : MethodName := ⟨"ProofDesk$Pile", "add", "(I)V"⟩
theorem d_Pile_add_0 : decode b_Pile_add 0 = .ok (.aload_n 0, 1) := by decide +kernel
theorem d_Pile_add_1 : decode b_Pile_add 1 = .ok (.getfield 17, 3) := by decide +kernel
theorem kw_47 : (Jvm.Cond.fieldLink "ProofDesk$Pile" (17 : Nat) "ProofDesk$Pile" "count" "I") ∈ zw := List.mem_filter.mpr ⟨List.mem_append_right _ (List.mem_of_getElem? (i := 47) (by decide +kernel)), by decide +kernel⟩
theorem d_Pile_add_4 : decode b_Pile_add 4 = .ok (.aload_n 0, 1) := by decide +kernel
theorem d_Pile_add_5 : decode b_Pile_add 5 = .ok (.getfield 7, 3) := by decide +kernel
theorem d_Pile_add_8 : decode b_Pile_add 8 = .ok (.imul, 1) := by decide +kernel
theorem d_Pile_add_9 : decode b_Pile_add 9 = .ok (.istore_n 2, 1) := by decide +kernel
theorem d_Pile_add_10 : decode b_Pile_add 10 = .ok (.iload_n 2, 1) := by decide +kernel
theorem d_Pile_add_11 : decode b_Pile_add 11 = .ok (.aload_n 0, 1) := by decide +kernel
theorem d_Pile_add_12 : decode b_Pile_add 12 = .ok (.getfield 13, 3) := by decide +kernel
theorem d_Pile_add_15 : decode b_Pile_add 15 = .ok (.arraylength, 1) := by decide +kernel
theorem d_Pile_add_16 : decode b_Pile_add 16 = .ok (.if_icmp .ne 21, 3) := by decide +kernel
theorem d_Pile_add_37 : decode b_Pile_add 37 = .ok (.aload_n 0, 1) := by decide +kernel
theorem d_Pile_add_38 : decode b_Pile_add 38 = .ok (.getfield 13, 3) := by decide +kernel
theorem d_Pile_add_41 : decode b_Pile_add 41 = .ok (.iload_n 2, 1) := by decide +kernel
theorem d_Pile_add_42 : decode b_Pile_add 42 = .ok (.iload_n 1, 1) := by decide +kernel
theorem d_Pile_add_43 : decode b_Pile_add 43 = .ok (.iastore, 1) := by decide +kernel
theorem d_Pile_add_44 : decode b_Pile_add 44 = .ok (.aload_n 0, 1) := by decide +kernel
theorem d_Pile_add_45 : decode b_Pile_add 45 = .ok (.dup, 1) := by decide +kernel
theorem d_Pile_add_46 : decode b_Pile_add 46 = .ok (.getfield 17, 3) := by decide +kernel
theorem d_Pile_add_49 : decode b_Pile_add 49 = .ok (.iconst 1, 1) := by decide +kernel
theorem d_Pile_add_50 : decode b_Pile_add 50 = .ok (.iadd, 1) := by decide +kernel
theorem d_Pile_add_51 : decode b_Pile_add 51 = .ok (.putfield 17, 3) := by decide +kernel
theorem d_Pile_add_54 : decode b_Pile_add 54 = .ok (.return_, 1) := by decide +kernel
set_option maxHeartbeats 4000000 in
set_option maxRecDepth 100000 in
theorem g_Pile_add (l : Launch) (D : va_G) (cI cB cZ cS : ClassId) (sz : Nat) (h0 : Nat) (q : Nat) (w : Nat) (k : Nat) (n : Nat) (f : Nat → Int32) (i : Nat) (v : Int32) (hi : k * w = i) (hn : i < n) (hN : n ≤ 33554432) : Met l y_Pile_add (zc y_Pile_add b_Pile_add 3 none) ({ frames := 0, cells := 0, slots := 0, locals := 0 }) (zPc D (zty cI cB cZ cS) [(h0, .inr (0, [.int (nI w), .ref q, .int (nI k)])), (q, .inl (cI, n, .inl f))] sz [.ref h0, .int v]) (va_Qv (fun _ : Unit => True) (fun _ t => va_P D zcl [(h0, .inr (0, [.int (nI w), .ref q, .int (nI (k + 1))])), (q, .inl (cI, n, .inl (upd f i v)))] t.heap ∧ va_D (va_A [(h0, .inr (0, [.int (nI w), .ref q, .int (nI k)])), (q, .inl (cI, n, .inl f))] sz) [(h0, .inr (0, [.int (nI w), .ref q, .int (nI (k + 1))])), (q, .inl (cI, n, .inl (upd f i v)))]) (va_A [(h0, .inr (0, [.int (nI w), .ref q, .int (nI k)])), (q, .inl (cI, n, .inl f))] sz)) 0 0 (va_A [(h0, .inr (0, [.int (nI w), .ref q, .int (nI k)])), (q, .inl (cI, n, .inl f))] sz) := by
  refine Met.ofW (cc := b_Pile_add) (maxL := 3) (ret := none) (by decide) rfl ?_
  intro p e s m args below meth c s₁ B hml hv
  obtain ⟨rfl, hsz, hP, ⟨hK, hN⟩, hD0⟩ := hv
  have hx := B.exec
  have hb := B.bytes
  have hr := B.returns
  have hts0 := atoms_spec (ws := zc y_Pile_add b_Pile_add 3 none) B.pre
  have hts : ∀ w ∈ zw, w.before _ s = true := fun w hw => hts0 w (List.mem_cons_of_mem _ hw)
  have hown : s.vm.findClass "ProofDesk$Pile" = some m.cls := findClass_of_methodNamed B.named
  have hlocks := B.notSynchronized
  subst hsz
  have hD := hD0.self (sz := s.heap.size)
  generalize hAe : va_A [(h0, .inr (0, [.int (nI w), .ref q, .int (nI k)])), (q, .inl (cI, n, .inl f))] s.heap.size = A at hD ⊢
  have hA : ∀ q : Nat, s.heap.size ≤ q → A q := fun q h => by rw [← hAe]; exact Or.inr h
  have hS : va_S A s.heap s.heap [] := va_S.rf
  have hP : va_P D zcl [(h0, .inr (0, [.int (nI w), .ref q, .int (nI k)])), (q, .inl (cI, n, .inl f))] s.heap := hP
  have hl := lv_entry ([.ref h0, .int v]) (n := 3) (Nat.le_of_ble_eq_true rfl)
  rw [lg_entry_eq]
  generalize (lg_sl ([.ref h0, .int v]) ++ List.replicate (3 - (lg_sl ([.ref h0, .int v])).length) Slot.unset).toArray = ls at hl ⊢
  have hl : lv_has ls 3 [(0, .ref h0), (1, .int v)] := hl
  refine lv_aload_n hx hb d_Pile_add_0 rfl (lv_at hl 0 rfl) ?_
  refine va_get (D := D) (ci := 0) (v := .int (nI k)) (C := "ProofDesk$Pile") (T := F_Pile) (N := 3) hx hb hts in_Pile hown hK hP 0 rfl rfl 2 (by decide) (hts _ kw_47) (fun _ h9 => h9) rfl d_Pile_add_1 ?_
  refine lv_aload_n hx hb d_Pile_add_4 rfl (lv_at hl 0 rfl) ?_
  refine va_get (D := D) (ci := 0) (v := .int (nI w)) (C := "ProofDesk$Pile") (T := F_Pile) (N := 3) hx hb hts in_Pile hown hK hP 0 rfl rfl 0 (by decide) (hts _ kw_45) (fun _ h9 => h9) rfl d_Pile_add_5 ?_
  refine lv_imul hx hb d_Pile_add_8 ?_
  refine zz_i (y := nI i) ((pk_mul k w).trans (congrArg nI hi)) ?_
  refine lv_istore_n (lv' := [(2, .int (nI i)), (0, .ref h0), (1, .int v)]) hx hb d_Pile_add_9 rfl hl (by decide) rfl (fun ls hl => ?_)
  refine lv_iload_n hx hb d_Pile_add_10 rfl (lv_at hl 0 rfl) ?_
  refine lv_aload_n hx hb d_Pile_add_11 rfl (lv_at hl 1 rfl) ?_
  refine va_get (D := D) (ci := 0) (v := .ref q) (C := "ProofDesk$Pile") (T := F_Pile) (N := 3) hx hb hts in_Pile hown hK hP 0 rfl rfl 1 (by decide) (hts _ kw_46) (fun _ h9 => h9) rfl d_Pile_add_12 ?_
  refine va_alen (v := (nI n)) hx hb hK hP 1 0 rfl rfl rfl d_Pile_add_15 ?_
  have hc_1 : ¬ ((nI i) : Int32) = (nI n) := fun h => absurd ((nI_eq (by omega) (by omega)).mp h) (by omega)
  refine lv_icmp_ne hx hb d_Pile_add_16 rfl (fun _ => ?_) (fun h => absurd h hc_1)
  refine lv_aload_n hx hb d_Pile_add_37 rfl (lv_at hl 1 rfl) ?_
  refine va_get (D := D) (ci := 0) (v := .ref q) (C := "ProofDesk$Pile") (T := F_Pile) (N := 3) hx hb hts in_Pile hown hK hP 0 rfl rfl 1 (by decide) (hts _ kw_46) (fun _ h9 => h9) rfl d_Pile_add_38 ?_
  refine lv_iload_n hx hb d_Pile_add_41 rfl (lv_at hl 0 rfl) ?_
  refine lv_iload_n hx hb d_Pile_add_42 rfl (lv_at hl 2 rfl) ?_
  refine zz_iast hx hb hK hP hD hS 1 0 rfl rfl (i := (nI i)) (x := v) i (zix_nI (by omega) (by omega)) d_Pile_add_43 (fun H locs hP hD hS => ?_)
  have hP : va_P D zcl [(h0, .inr (0, [.int (nI w), .ref q, .int (nI k)])), (q, .inl (cI, n, .inl (upd f i v)))] H := hP
  have hD : va_D A [(h0, .inr (0, [.int (nI w), .ref q, .int (nI k)])), (q, .inl (cI, n, .inl (upd f i v)))] := hD
  refine lv_aload_n hx hb d_Pile_add_44 rfl (lv_at hl 1 rfl) ?_
  refine lv_dup hx hb d_Pile_add_45 rfl ?_
  refine va_get (D := D) (ci := 0) (v := .int (nI k)) (C := "ProofDesk$Pile") (T := F_Pile) (N := 3) hx hb hts in_Pile hown hK hP 0 rfl rfl 2 (by decide) (hts _ kw_47) (fun _ h9 => h9) rfl d_Pile_add_46 ?_
  refine lv_iconst (v := 1) hx hb d_Pile_add_49 (by decide) ?_
  refine lv_iadd hx hb d_Pile_add_50 ?_
  refine zz_i (y := nI (k + 1)) (nI_1 k) ?_
  refine va_put (D := D) (ci := 0) (v := .int (nI (k + 1))) (ty := .int) (C := "ProofDesk$Pile") (T := F_Pile) (N := 3) hx hb hts in_Pile t_Pile t_Pile_ok n_Pile hown hK hP hD hS 0 rfl rfl 2 (by decide) (hts _ kw_47) (fun _ h9 => h9) rfl (by decide +kernel) rfl rfl (Nat.le_of_ble_eq_true rfl) d_Pile_add_51 (fun H locs hP hD hS => ?_)
  have hP : va_P D zcl [(h0, .inr (0, [.int (nI w), .ref q, .int (nI (k + 1))])), (q, .inl (cI, n, .inl (upd f i v)))] H := hP
  have hD : va_D A [(h0, .inr (0, [.int (nI w), .ref q, .int (nI (k + 1))])), (q, .inl (cI, n, .inl (upd f i v)))] := hD
  have hP9 := hP.sub (ws' := [(h0, .inr (0, [.int (nI w), .ref q, .int (nI (k + 1))])), (q, .inl (cI, n, .inl (upd f i v)))]) [0, 1] rfl
  have hD9 := hD.sub (ws' := [(h0, .inr (0, [.int (nI w), .ref q, .int (nI (k + 1))])), (q, .inl (cI, n, .inl (upd f i v)))]) [0, 1] (by decide +kernel) rfl
  refine W.widen (k := 0) (n := 0) (by omega) (by omega) ?_
  exact W.vret hx hb hr (fun t ht hW => ⟨⟨(), rfl, trivial, by rw [ht]; exact hP9, hD9⟩, hS.F ht⟩) hS.2.2 d_Pile_add_54
theorem d_Pile_add_19 : decode b_Pile_add 19 = .ok (.aload_n 0, 1) := by decide +kernel
theorem d_Pile_add_20 : decode b_Pile_add 20 = .ok (.aload_n 0, 1) := by decide +kernel
theorem d_Pile_add_21 : decode b_Pile_add 21 = .ok (.getfield 13, 3) := by decide +kernel
theorem d_Pile_add_24 : decode b_Pile_add 24 = .ok (.iconst 2, 1) := by decide +kernel
theorem d_Pile_add_25 : decode b_Pile_add 25 = .ok (.aload_n 0, 1) := by decide +kernel
theorem d_Pile_add_26 : decode b_Pile_add 26 = .ok (.getfield 13, 3) := by decide +kernel
theorem d_Pile_add_29 : decode b_Pile_add 29 = .ok (.arraylength, 1) := by decide +kernel
theorem d_Pile_add_30 : decode b_Pile_add 30 = .ok (.imul, 1) := by decide +kernel
theorem d_Pile_add_31 : decode b_Pile_add 31 = .ok (.invokestatic 20, 3) := by decide +kernel
theorem kw_136 : (Jvm.Cond.code ({ cls := "java/util/Arrays", name := "copyOf", desc := "([II)[I" } : Jvm.MethodName) prog_25_method_123_code (3 : Nat) (Option.some (Jvm.ClassFile.FieldType.array Jvm.ClassFile.FieldType.int))) ∈ zw := List.mem_filter.mpr ⟨List.mem_append_right _ (List.mem_of_getElem? (i := 136) rfl), by decide +kernel⟩
theorem kw_780 : (Jvm.Cond.methodLink "ProofDesk$Pile" (20 : Nat) ({ cls := "java/util/Arrays", name := "copyOf", desc := "([II)[I" } : Jvm.MethodName)) ∈ zw := List.mem_filter.mpr ⟨List.mem_append_right _ (List.mem_of_getElem? (i := 780) (by decide +kernel)), by decide +kernel⟩
theorem kw_135 : (Jvm.Cond.static ({ cls := "java/util/Arrays", name := "copyOf", desc := "([II)[I" } : Jvm.MethodName)) ∈ zw := List.mem_filter.mpr ⟨List.mem_append_right _ (List.mem_of_getElem? (i := 135) (by decide +kernel)), by decide +kernel⟩
theorem d_Pile_add_34 : decode b_Pile_add 34 = .ok (.putfield 13, 3) := by decide +kernel
set_option maxHeartbeats 4000000 in
set_option maxRecDepth 100000 in
theorem g_Pile_addG (l : Launch) (D : va_G) (cI cB cZ cS : ClassId) (sz : Nat) (h0 : Nat) (q : Nat) (w : Nat) (k : Nat) (n : Nat) (f : Nat → Int32) (i : Nat) (v : Int32) (hi : k * w = i) (hn : i = n) (h1 : 1 ≤ n) (hN : n ≤ 33554432) : Met l y_Pile_add (zc y_Pile_add b_Pile_add 3 none) ({ frames := 2, cells := 1, slots := 2 * n, locals := 62 }) (zPc D (zty cI cB cZ cS) [(h0, .inr (0, [.int (nI w), .ref q, .int (nI k)])), (q, .inl (cI, n, .inl f))] sz [.ref h0, .int v]) (va_Qv (fun _ : Unit => True) (fun _ t => ∃ x1 : Nat, va_P D zcl [(h0, .inr (0, [.int (nI w), .ref x1, .int (nI (k + 1))])), (q, .inl (cI, n, .inl f)), (x1, .inl (cI, (2 * n), .inl (upd (zcp f n) i v)))] t.heap ∧ va_D (va_A [(h0, .inr (0, [.int (nI w), .ref q, .int (nI k)])), (q, .inl (cI, n, .inl f))] sz) [(h0, .inr (0, [.int (nI w), .ref x1, .int (nI (k + 1))])), (q, .inl (cI, n, .inl f)), (x1, .inl (cI, (2 * n), .inl (upd (zcp f n) i v)))]) (va_A [(h0, .inr (0, [.int (nI w), .ref q, .int (nI k)])), (q, .inl (cI, n, .inl f))] sz)) 1 (2 * n) (va_A [(h0, .inr (0, [.int (nI w), .ref q, .int (nI k)])), (q, .inl (cI, n, .inl f))] sz) := by
  refine Met.ofW (cc := b_Pile_add) (maxL := 3) (ret := none) (by decide) rfl ?_
  intro p e s m args below meth c s₁ B hml hv
  obtain ⟨rfl, hsz, hP, ⟨hK, hN⟩, hD0⟩ := hv
  have hx := B.exec
  have hb := B.bytes
  have hr := B.returns
  have hts0 := atoms_spec (ws := zc y_Pile_add b_Pile_add 3 none) B.pre
  have hts : ∀ w ∈ zw, w.before _ s = true := fun w hw => hts0 w (List.mem_cons_of_mem _ hw)
  have hown : s.vm.findClass "ProofDesk$Pile" = some m.cls := findClass_of_methodNamed B.named
  have hlocks := B.notSynchronized
  subst hsz
  have hD := hD0.self (sz := s.heap.size)
  generalize hAe : va_A [(h0, .inr (0, [.int (nI w), .ref q, .int (nI k)])), (q, .inl (cI, n, .inl f))] s.heap.size = A at hD ⊢
  have hA : ∀ q : Nat, s.heap.size ≤ q → A q := fun q h => by rw [← hAe]; exact Or.inr h
  have hS : va_S A s.heap s.heap [] := va_S.rf
  have hP : va_P D zcl [(h0, .inr (0, [.int (nI w), .ref q, .int (nI k)])), (q, .inl (cI, n, .inl f))] s.heap := hP
  have hl := lv_entry ([.ref h0, .int v]) (n := 3) (Nat.le_of_ble_eq_true rfl)
  rw [lg_entry_eq]
  generalize (lg_sl ([.ref h0, .int v]) ++ List.replicate (3 - (lg_sl ([.ref h0, .int v])).length) Slot.unset).toArray = ls at hl ⊢
  have hl : lv_has ls 3 [(0, .ref h0), (1, .int v)] := hl
  refine lv_aload_n hx hb d_Pile_add_0 rfl (lv_at hl 0 rfl) ?_
  refine va_get (D := D) (ci := 0) (v := .int (nI k)) (C := "ProofDesk$Pile") (T := F_Pile) (N := 3) hx hb hts in_Pile hown hK hP 0 rfl rfl 2 (by decide) (hts _ kw_47) (fun _ h9 => h9) rfl d_Pile_add_1 ?_
  refine lv_aload_n hx hb d_Pile_add_4 rfl (lv_at hl 0 rfl) ?_
  refine va_get (D := D) (ci := 0) (v := .int (nI w)) (C := "ProofDesk$Pile") (T := F_Pile) (N := 3) hx hb hts in_Pile hown hK hP 0 rfl rfl 0 (by decide) (hts _ kw_45) (fun _ h9 => h9) rfl d_Pile_add_5 ?_
  refine lv_imul hx hb d_Pile_add_8 ?_
  refine zz_i (y := nI i) ((pk_mul k w).trans (congrArg nI hi)) ?_
  refine lv_istore_n (lv' := [(2, .int (nI i)), (0, .ref h0), (1, .int v)]) hx hb d_Pile_add_9 rfl hl (by decide) rfl (fun ls hl => ?_)
  refine lv_iload_n hx hb d_Pile_add_10 rfl (lv_at hl 0 rfl) ?_
  refine lv_aload_n hx hb d_Pile_add_11 rfl (lv_at hl 1 rfl) ?_
  refine va_get (D := D) (ci := 0) (v := .ref q) (C := "ProofDesk$Pile") (T := F_Pile) (N := 3) hx hb hts in_Pile hown hK hP 0 rfl rfl 1 (by decide) (hts _ kw_46) (fun _ h9 => h9) rfl d_Pile_add_12 ?_
  refine va_alen (v := (nI n)) hx hb hK hP 1 0 rfl rfl rfl d_Pile_add_15 ?_
  have hc_1 : ((nI i) : Int32) = (nI n) := congrArg nI hn
  refine lv_icmp_ne hx hb d_Pile_add_16 rfl (fun h => absurd hc_1 h) (fun _ => ?_)
  refine lv_aload_n hx hb d_Pile_add_19 rfl (lv_at hl 1 rfl) ?_
  refine lv_aload_n hx hb d_Pile_add_20 rfl (lv_at hl 1 rfl) ?_
  refine va_get (D := D) (ci := 0) (v := .ref q) (C := "ProofDesk$Pile") (T := F_Pile) (N := 3) hx hb hts in_Pile hown hK hP 0 rfl rfl 1 (by decide) (hts _ kw_46) (fun _ h9 => h9) rfl d_Pile_add_21 ?_
  refine lv_iconst (v := 2) hx hb d_Pile_add_24 (by decide) ?_
  refine lv_aload_n hx hb d_Pile_add_25 rfl (lv_at hl 1 rfl) ?_
  refine va_get (D := D) (ci := 0) (v := .ref q) (C := "ProofDesk$Pile") (T := F_Pile) (N := 3) hx hb hts in_Pile hown hK hP 0 rfl rfl 1 (by decide) (hts _ kw_46) (fun _ h9 => h9) rfl d_Pile_add_26 ?_
  refine va_alen (v := (nI n)) hx hb hK hP 1 0 rfl rfl rfl d_Pile_add_29 ?_
  refine lv_imul hx hb d_Pile_add_30 ?_
  refine zz_i (y := nI (2 * n)) (pk_mul 2 n) ?_
  have hPc := hP.sub (ws' := [(q, .inl (cI, n, .inl f))]) [1] rfl
  have hDc := hD.sub (ws' := [(q, .inl (cI, n, .inl f))]) [1] (by decide +kernel) rfl
  have hFc := va_free (wc := [(q, .inl (cI, n, .inl f))]) hD hS hA [1] rfl
  have hkc : 0 + 1 ≤ 1 := by omega
  have hks : 0 + (2 * n) ≤ 2 * n := by omega
  refine va_callr (va_runS (As := [.ref q, .int (nI (2 * n))]) (rest := [.ref h0]) ⟨hx, hb, hml, hown, hts⟩ (c_copyOf_int l D cI cB cZ cS s.heap.size q n f (2 * n) (by omega) (by omega)) (⟨callB_of 2 hts (zgood kw_136) rfl rfl rfl (hts _ kw_5) (hts _ kw_780) (by decide +kernel) ⟨Nat.le_of_ble_eq_true rfl, Nat.le_of_ble_eq_true rfl⟩, hts _ kw_135⟩) (zPreS hPc hK hN hDc) rfl rfl hl.1 rfl (lv_room (Nat.le_of_ble_eq_true rfl)) d_Pile_add_31 ⟨hkc, hks⟩) hS (fun q _ h => hFc q h) hFc (fun u r_2 t H1 locs ht hvm hw hB hz1 hk1 hS => ?_)
  obtain ⟨hP1, hD1⟩ := hB
  rw [ht] at hP1
  obtain ⟨hP, hD⟩ := va_join (wr := [(h0, .inr (0, [.int (nI w), .ref q, .int (nI k)]))]) (w1 := [(q, .inl (cI, n, .inl f)), (r_2, .inl (cI, (2 * n), .inl (zcp f n)))]) hP hD [1] [0] rfl rfl (by decide +kernel) (by decide +kernel) hk1 hFc hP1 hD1
  generalize H1 = H at hP hS ⊢
  have hP : va_P D zcl [(h0, .inr (0, [.int (nI w), .ref q, .int (nI k)])), (q, .inl (cI, n, .inl f)), (r_2, .inl (cI, (2 * n), .inl (zcp f n)))] H := hP
  have hD : va_D A [(h0, .inr (0, [.int (nI w), .ref q, .int (nI k)])), (q, .inl (cI, n, .inl f)), (r_2, .inl (cI, (2 * n), .inl (zcp f n)))] := hD
  refine W.widen (k := 1) (n := (0 + (2 * n))) (by omega) (by omega) ?_
  refine va_put (D := D) (ci := 0) (v := .ref r_2) (ty := (.array .int)) (C := "ProofDesk$Pile") (T := F_Pile) (N := 3) hx hb hts in_Pile t_Pile t_Pile_ok n_Pile hown hK hP hD hS 0 rfl rfl 1 (by decide) (hts _ kw_46) (fun _ h9 => h9) rfl (by decide +kernel) rfl rfl (Nat.le_of_ble_eq_true rfl) d_Pile_add_34 (fun H locs hP hD hS => ?_)
  have hP : va_P D zcl [(h0, .inr (0, [.int (nI w), .ref r_2, .int (nI k)])), (q, .inl (cI, n, .inl f)), (r_2, .inl (cI, (2 * n), .inl (zcp f n)))] H := hP
  have hD : va_D A [(h0, .inr (0, [.int (nI w), .ref r_2, .int (nI k)])), (q, .inl (cI, n, .inl f)), (r_2, .inl (cI, (2 * n), .inl (zcp f n)))] := hD
  refine lv_aload_n hx hb d_Pile_add_37 rfl (lv_at hl 1 rfl) ?_
  refine va_get (D := D) (ci := 0) (v := .ref r_2) (C := "ProofDesk$Pile") (T := F_Pile) (N := 3) hx hb hts in_Pile hown hK hP 0 rfl rfl 1 (by decide) (hts _ kw_46) (fun _ h9 => h9) rfl d_Pile_add_38 ?_
  refine lv_iload_n hx hb d_Pile_add_41 rfl (lv_at hl 0 rfl) ?_
  refine lv_iload_n hx hb d_Pile_add_42 rfl (lv_at hl 2 rfl) ?_
  refine zz_iast hx hb hK hP hD hS 2 0 rfl rfl (i := (nI i)) (x := v) i (zix_nI (by omega) (by omega)) d_Pile_add_43 (fun H locs hP hD hS => ?_)
  have hP : va_P D zcl [(h0, .inr (0, [.int (nI w), .ref r_2, .int (nI k)])), (q, .inl (cI, n, .inl f)), (r_2, .inl (cI, (2 * n), .inl (upd (zcp f n) i v)))] H := hP
  have hD : va_D A [(h0, .inr (0, [.int (nI w), .ref r_2, .int (nI k)])), (q, .inl (cI, n, .inl f)), (r_2, .inl (cI, (2 * n), .inl (upd (zcp f n) i v)))] := hD
  refine lv_aload_n hx hb d_Pile_add_44 rfl (lv_at hl 1 rfl) ?_
  refine lv_dup hx hb d_Pile_add_45 rfl ?_
  refine va_get (D := D) (ci := 0) (v := .int (nI k)) (C := "ProofDesk$Pile") (T := F_Pile) (N := 3) hx hb hts in_Pile hown hK hP 0 rfl rfl 2 (by decide) (hts _ kw_47) (fun _ h9 => h9) rfl d_Pile_add_46 ?_
  refine lv_iconst (v := 1) hx hb d_Pile_add_49 (by decide) ?_
  refine lv_iadd hx hb d_Pile_add_50 ?_
  refine zz_i (y := nI (k + 1)) (nI_1 k) ?_
  refine va_put (D := D) (ci := 0) (v := .int (nI (k + 1))) (ty := .int) (C := "ProofDesk$Pile") (T := F_Pile) (N := 3) hx hb hts in_Pile t_Pile t_Pile_ok n_Pile hown hK hP hD hS 0 rfl rfl 2 (by decide) (hts _ kw_47) (fun _ h9 => h9) rfl (by decide +kernel) rfl rfl (Nat.le_of_ble_eq_true rfl) d_Pile_add_51 (fun H locs hP hD hS => ?_)
  have hP : va_P D zcl [(h0, .inr (0, [.int (nI w), .ref r_2, .int (nI (k + 1))])), (q, .inl (cI, n, .inl f)), (r_2, .inl (cI, (2 * n), .inl (upd (zcp f n) i v)))] H := hP
  have hD : va_D A [(h0, .inr (0, [.int (nI w), .ref r_2, .int (nI (k + 1))])), (q, .inl (cI, n, .inl f)), (r_2, .inl (cI, (2 * n), .inl (upd (zcp f n) i v)))] := hD
  have hP9 := hP.sub (ws' := [(h0, .inr (0, [.int (nI w), .ref r_2, .int (nI (k + 1))])), (q, .inl (cI, n, .inl f)), (r_2, .inl (cI, (2 * n), .inl (upd (zcp f n) i v)))]) [0, 1, 2] rfl
  have hD9 := hD.sub (ws' := [(h0, .inr (0, [.int (nI w), .ref r_2, .int (nI (k + 1))])), (q, .inl (cI, n, .inl f)), (r_2, .inl (cI, (2 * n), .inl (upd (zcp f n) i v)))]) [0, 1, 2] (by decide +kernel) rfl
  refine W.widen (k := 1) (n := (2 * n)) (by omega) (by omega) ?_
  exact W.vret hx hb hr (fun t ht hW => ⟨⟨(), rfl, trivial, r_2, by rw [ht]; exact hP9, hD9⟩, hS.F ht⟩) hS.2.2 d_Pile_add_54
abbrev b_Pile_add2 : ByteArray := prog_7_method_3_code
abbrev y_Pile_add2 : MethodName := ⟨"ProofDesk$Pile", "add", "(III)V"⟩
theorem d_Pile_add2_0 : decode b_Pile_add2 0 = .ok (.aload_n 0, 1) := by decide +kernel
theorem d_Pile_add2_1 : decode b_Pile_add2 1 = .ok (.getfield 17, 3) := by decide +kernel
theorem d_Pile_add2_4 : decode b_Pile_add2 4 = .ok (.aload_n 0, 1) := by decide +kernel
theorem d_Pile_add2_5 : decode b_Pile_add2 5 = .ok (.getfield 7, 3) := by decide +kernel
theorem d_Pile_add2_8 : decode b_Pile_add2 8 = .ok (.imul, 1) := by decide +kernel
theorem d_Pile_add2_9 : decode b_Pile_add2 9 = .ok (.istore 4, 2) := by decide +kernel
theorem d_Pile_add2_11 : decode b_Pile_add2 11 = .ok (.iload 4, 2) := by decide +kernel
theorem d_Pile_add2_13 : decode b_Pile_add2 13 = .ok (.aload_n 0, 1) := by decide +kernel
theorem d_Pile_add2_14 : decode b_Pile_add2 14 = .ok (.getfield 13, 3) := by decide +kernel
theorem d_Pile_add2_17 : decode b_Pile_add2 17 = .ok (.arraylength, 1) := by decide +kernel
theorem d_Pile_add2_18 : decode b_Pile_add2 18 = .ok (.if_icmp .ne 21, 3) := by decide +kernel
theorem d_Pile_add2_39 : decode b_Pile_add2 39 = .ok (.aload_n 0, 1) := by decide +kernel
theorem d_Pile_add2_40 : decode b_Pile_add2 40 = .ok (.getfield 13, 3) := by decide +kernel
theorem d_Pile_add2_43 : decode b_Pile_add2 43 = .ok (.iload 4, 2) := by decide +kernel
theorem d_Pile_add2_45 : decode b_Pile_add2 45 = .ok (.iload_n 1, 1) := by decide +kernel
theorem d_Pile_add2_46 : decode b_Pile_add2 46 = .ok (.iastore, 1) := by decide +kernel
theorem d_Pile_add2_47 : decode b_Pile_add2 47 = .ok (.aload_n 0, 1) := by decide +kernel
theorem d_Pile_add2_48 : decode b_Pile_add2 48 = .ok (.getfield 13, 3) := by decide +kernel
theorem d_Pile_add2_51 : decode b_Pile_add2 51 = .ok (.iload 4, 2) := by decide +kernel
theorem d_Pile_add2_53 : decode b_Pile_add2 53 = .ok (.iconst 1, 1) := by decide +kernel
theorem d_Pile_add2_54 : decode b_Pile_add2 54 = .ok (.iadd, 1) := by decide +kernel
theorem d_Pile_add2_55 : decode b_Pile_add2 55 = .ok (.iload_n 2, 1) := by decide +kernel
theorem d_Pile_add2_56 : decode b_Pile_add2 56 = .ok (.iastore, 1) := by decide +kernel
theorem d_Pile_add2_57 : decode b_Pile_add2 57 = .ok (.aload_n 0, 1) := by decide +kernel
theorem d_Pile_add2_58 : decode b_Pile_add2 58 = .ok (.getfield 13, 3) := by decide +kernel
theorem d_Pile_add2_61 : decode b_Pile_add2 61 = .ok (.iload 4, 2) := by decide +kernel
theorem d_Pile_add2_63 : decode b_Pile_add2 63 = .ok (.iconst 2, 1) := by decide +kernel
theorem d_Pile_add2_64 : decode b_Pile_add2 64 = .ok (.iadd, 1) := by decide +kernel
theorem d_Pile_add2_65 : decode b_Pile_add2 65 = .ok (.iload_n 3, 1) := by decide +kernel
theorem d_Pile_add2_66 : decode b_Pile_add2 66 = .ok (.iastore, 1) := by decide +kernel
theorem d_Pile_add2_67 : decode b_Pile_add2 67 = .ok (.aload_n 0, 1) := by decide +kernel
theorem d_Pile_add2_68 : decode b_Pile_add2 68 = .ok (.dup, 1) := by decide +kernel
theorem d_Pile_add2_69 : decode b_Pile_add2 69 = .ok (.getfield 17, 3) := by decide +kernel
theorem d_Pile_add2_72 : decode b_Pile_add2 72 = .ok (.iconst 1, 1) := by decide +kernel
theorem d_Pile_add2_73 : decode b_Pile_add2 73 = .ok (.iadd, 1) := by decide +kernel
theorem d_Pile_add2_74 : decode b_Pile_add2 74 = .ok (.putfield 17, 3) := by decide +kernel
theorem d_Pile_add2_77 : decode b_Pile_add2 77 = .ok (.return_, 1) := by decide +kernel
set_option maxHeartbeats 4000000 in
set_option maxRecDepth 100000 in
theorem g_Pile_add3 (l : Launch) (D : va_G) (cI cB cZ cS : ClassId) (sz : Nat) (h0 : Nat) (q : Nat) (w : Nat) (k : Nat) (n : Nat) (f : Nat → Int32) (i : Nat) (va : Int32) (vb : Int32) (vc : Int32) (hi : k * w = i) (hn : i + 3 ≤ n) (hN : n ≤ 33554432) : Met l y_Pile_add2 (zc y_Pile_add2 b_Pile_add2 5 none) ({ frames := 0, cells := 0, slots := 0, locals := 0 }) (zPc D (zty cI cB cZ cS) [(h0, .inr (0, [.int (nI w), .ref q, .int (nI k)])), (q, .inl (cI, n, .inl f))] sz [.ref h0, .int va, .int vb, .int vc]) (va_Qv (fun _ : Unit => True) (fun _ t => va_P D zcl [(h0, .inr (0, [.int (nI w), .ref q, .int (nI (k + 1))])), (q, .inl (cI, n, .inl (upd (upd (upd f i va) (i + 1) vb) (i + 2) vc)))] t.heap ∧ va_D (va_A [(h0, .inr (0, [.int (nI w), .ref q, .int (nI k)])), (q, .inl (cI, n, .inl f))] sz) [(h0, .inr (0, [.int (nI w), .ref q, .int (nI (k + 1))])), (q, .inl (cI, n, .inl (upd (upd (upd f i va) (i + 1) vb) (i + 2) vc)))]) (va_A [(h0, .inr (0, [.int (nI w), .ref q, .int (nI k)])), (q, .inl (cI, n, .inl f))] sz)) 0 0 (va_A [(h0, .inr (0, [.int (nI w), .ref q, .int (nI k)])), (q, .inl (cI, n, .inl f))] sz) := by
  refine Met.ofW (cc := b_Pile_add2) (maxL := 5) (ret := none) (by decide) rfl ?_
  intro p e s m args below meth c s₁ B hml hv
  obtain ⟨rfl, hsz, hP, ⟨hK, hN⟩, hD0⟩ := hv
  have hx := B.exec
  have hb := B.bytes
  have hr := B.returns
  have hts0 := atoms_spec (ws := zc y_Pile_add2 b_Pile_add2 5 none) B.pre
  have hts : ∀ w ∈ zw, w.before _ s = true := fun w hw => hts0 w (List.mem_cons_of_mem _ hw)
  have hown : s.vm.findClass "ProofDesk$Pile" = some m.cls := findClass_of_methodNamed B.named
  have hlocks := B.notSynchronized
  subst hsz
  have hD := hD0.self (sz := s.heap.size)
  generalize hAe : va_A [(h0, .inr (0, [.int (nI w), .ref q, .int (nI k)])), (q, .inl (cI, n, .inl f))] s.heap.size = A at hD ⊢
  have hA : ∀ q : Nat, s.heap.size ≤ q → A q := fun q h => by rw [← hAe]; exact Or.inr h
  have hS : va_S A s.heap s.heap [] := va_S.rf
  have hP : va_P D zcl [(h0, .inr (0, [.int (nI w), .ref q, .int (nI k)])), (q, .inl (cI, n, .inl f))] s.heap := hP
  have hl := lv_entry ([.ref h0, .int va, .int vb, .int vc]) (n := 5) (Nat.le_of_ble_eq_true rfl)
  rw [lg_entry_eq]
  generalize (lg_sl ([.ref h0, .int va, .int vb, .int vc]) ++ List.replicate (5 - (lg_sl ([.ref h0, .int va, .int vb, .int vc])).length) Slot.unset).toArray = ls at hl ⊢
  have hl : lv_has ls 5 [(0, .ref h0), (1, .int va), (2, .int vb), (3, .int vc)] := hl
  refine lv_aload_n hx hb d_Pile_add2_0 rfl (lv_at hl 0 rfl) ?_
  refine va_get (D := D) (ci := 0) (v := .int (nI k)) (C := "ProofDesk$Pile") (T := F_Pile) (N := 3) hx hb hts in_Pile hown hK hP 0 rfl rfl 2 (by decide) (hts _ kw_47) (fun _ h9 => h9) rfl d_Pile_add2_1 ?_
  refine lv_aload_n hx hb d_Pile_add2_4 rfl (lv_at hl 0 rfl) ?_
  refine va_get (D := D) (ci := 0) (v := .int (nI w)) (C := "ProofDesk$Pile") (T := F_Pile) (N := 3) hx hb hts in_Pile hown hK hP 0 rfl rfl 0 (by decide) (hts _ kw_45) (fun _ h9 => h9) rfl d_Pile_add2_5 ?_
  refine lv_imul hx hb d_Pile_add2_8 ?_
  refine zz_i (y := nI i) ((pk_mul k w).trans (congrArg nI hi)) ?_
  refine lv_istore (lv' := [(4, .int (nI i)), (0, .ref h0), (1, .int va), (2, .int vb), (3, .int vc)]) hx hb d_Pile_add2_9 hl (by decide) rfl (fun ls hl => ?_)
  refine lv_iload hx hb d_Pile_add2_11 (lv_at hl 0 rfl) ?_
  refine lv_aload_n hx hb d_Pile_add2_13 rfl (lv_at hl 1 rfl) ?_
  refine va_get (D := D) (ci := 0) (v := .ref q) (C := "ProofDesk$Pile") (T := F_Pile) (N := 3) hx hb hts in_Pile hown hK hP 0 rfl rfl 1 (by decide) (hts _ kw_46) (fun _ h9 => h9) rfl d_Pile_add2_14 ?_
  refine va_alen (v := (nI n)) hx hb hK hP 1 0 rfl rfl rfl d_Pile_add2_17 ?_
  have hc_1 : ¬ ((nI i) : Int32) = (nI n) := fun h => absurd ((nI_eq (by omega) (by omega)).mp h) (by omega)
  refine lv_icmp_ne hx hb d_Pile_add2_18 rfl (fun _ => ?_) (fun h => absurd h hc_1)
  refine lv_aload_n hx hb d_Pile_add2_39 rfl (lv_at hl 1 rfl) ?_
  refine va_get (D := D) (ci := 0) (v := .ref q) (C := "ProofDesk$Pile") (T := F_Pile) (N := 3) hx hb hts in_Pile hown hK hP 0 rfl rfl 1 (by decide) (hts _ kw_46) (fun _ h9 => h9) rfl d_Pile_add2_40 ?_
  refine lv_iload hx hb d_Pile_add2_43 (lv_at hl 0 rfl) ?_
  refine lv_iload_n hx hb d_Pile_add2_45 rfl (lv_at hl 2 rfl) ?_
  refine zz_iast hx hb hK hP hD hS 1 0 rfl rfl (i := (nI i)) (x := va) i (zix_nI (by omega) (by omega)) d_Pile_add2_46 (fun H locs hP hD hS => ?_)
  have hP : va_P D zcl [(h0, .inr (0, [.int (nI w), .ref q, .int (nI k)])), (q, .inl (cI, n, .inl (upd f i va)))] H := hP
  have hD : va_D A [(h0, .inr (0, [.int (nI w), .ref q, .int (nI k)])), (q, .inl (cI, n, .inl (upd f i va)))] := hD
  refine lv_aload_n hx hb d_Pile_add2_47 rfl (lv_at hl 1 rfl) ?_
  refine va_get (D := D) (ci := 0) (v := .ref q) (C := "ProofDesk$Pile") (T := F_Pile) (N := 3) hx hb hts in_Pile hown hK hP 0 rfl rfl 1 (by decide) (hts _ kw_46) (fun _ h9 => h9) rfl d_Pile_add2_48 ?_
  refine lv_iload hx hb d_Pile_add2_51 (lv_at hl 0 rfl) ?_
  refine lv_iconst (v := 1) hx hb d_Pile_add2_53 (by decide) ?_
  refine lv_iadd hx hb d_Pile_add2_54 ?_
  refine zz_i (y := nI (i + 1)) (nI_1 i) ?_
  refine lv_iload_n hx hb d_Pile_add2_55 rfl (lv_at hl 3 rfl) ?_
  refine zz_iast hx hb hK hP hD hS 1 0 rfl rfl (i := (nI (i + 1))) (x := vb) (i + 1) (zix_nI (by omega) (by omega)) d_Pile_add2_56 (fun H locs hP hD hS => ?_)
  have hP : va_P D zcl [(h0, .inr (0, [.int (nI w), .ref q, .int (nI k)])), (q, .inl (cI, n, .inl (upd (upd f i va) (i + 1) vb)))] H := hP
  have hD : va_D A [(h0, .inr (0, [.int (nI w), .ref q, .int (nI k)])), (q, .inl (cI, n, .inl (upd (upd f i va) (i + 1) vb)))] := hD
  refine lv_aload_n hx hb d_Pile_add2_57 rfl (lv_at hl 1 rfl) ?_
  refine va_get (D := D) (ci := 0) (v := .ref q) (C := "ProofDesk$Pile") (T := F_Pile) (N := 3) hx hb hts in_Pile hown hK hP 0 rfl rfl 1 (by decide) (hts _ kw_46) (fun _ h9 => h9) rfl d_Pile_add2_58 ?_
  refine lv_iload hx hb d_Pile_add2_61 (lv_at hl 0 rfl) ?_
  refine lv_iconst (v := 2) hx hb d_Pile_add2_63 (by decide) ?_
  refine lv_iadd hx hb d_Pile_add2_64 ?_
  refine zz_i (y := nI (i + 2)) (nI_add i 2) ?_
  refine lv_iload_n hx hb d_Pile_add2_65 rfl (lv_at hl 4 rfl) ?_
  refine zz_iast hx hb hK hP hD hS 1 0 rfl rfl (i := (nI (i + 2))) (x := vc) (i + 2) (zix_nI (by omega) (by omega)) d_Pile_add2_66 (fun H locs hP hD hS => ?_)
  have hP : va_P D zcl [(h0, .inr (0, [.int (nI w), .ref q, .int (nI k)])), (q, .inl (cI, n, .inl (upd (upd (upd f i va) (i + 1) vb) (i + 2) vc)))] H := hP
  have hD : va_D A [(h0, .inr (0, [.int (nI w), .ref q, .int (nI k)])), (q, .inl (cI, n, .inl (upd (upd (upd f i va) (i + 1) vb) (i + 2) vc)))] := hD
  refine lv_aload_n hx hb d_Pile_add2_67 rfl (lv_at hl 1 rfl) ?_
  refine lv_dup hx hb d_Pile_add2_68 rfl ?_
  refine va_get (D := D) (ci := 0) (v := .int (nI k)) (C := "ProofDesk$Pile") (T := F_Pile) (N := 3) hx hb hts in_Pile hown hK hP 0 rfl rfl 2 (by decide) (hts _ kw_47) (fun _ h9 => h9) rfl d_Pile_add2_69 ?_
  refine lv_iconst (v := 1) hx hb d_Pile_add2_72 (by decide) ?_
  refine lv_iadd hx hb d_Pile_add2_73 ?_
  refine zz_i (y := nI (k + 1)) (nI_1 k) ?_
  refine va_put (D := D) (ci := 0) (v := .int (nI (k + 1))) (ty := .int) (C := "ProofDesk$Pile") (T := F_Pile) (N := 3) hx hb hts in_Pile t_Pile t_Pile_ok n_Pile hown hK hP hD hS 0 rfl rfl 2 (by decide) (hts _ kw_47) (fun _ h9 => h9) rfl (by decide +kernel) rfl rfl (Nat.le_of_ble_eq_true rfl) d_Pile_add2_74 (fun H locs hP hD hS => ?_)
  have hP : va_P D zcl [(h0, .inr (0, [.int (nI w), .ref q, .int (nI (k + 1))])), (q, .inl (cI, n, .inl (upd (upd (upd f i va) (i + 1) vb) (i + 2) vc)))] H := hP
  have hD : va_D A [(h0, .inr (0, [.int (nI w), .ref q, .int (nI (k + 1))])), (q, .inl (cI, n, .inl (upd (upd (upd f i va) (i + 1) vb) (i + 2) vc)))] := hD
  have hP9 := hP.sub (ws' := [(h0, .inr (0, [.int (nI w), .ref q, .int (nI (k + 1))])), (q, .inl (cI, n, .inl (upd (upd (upd f i va) (i + 1) vb) (i + 2) vc)))]) [0, 1] rfl
  have hD9 := hD.sub (ws' := [(h0, .inr (0, [.int (nI w), .ref q, .int (nI (k + 1))])), (q, .inl (cI, n, .inl (upd (upd (upd f i va) (i + 1) vb) (i + 2) vc)))]) [0, 1] (by decide +kernel) rfl
  refine W.widen (k := 0) (n := 0) (by omega) (by omega) ?_
  exact W.vret hx hb hr (fun t ht hW => ⟨⟨(), rfl, trivial, by rw [ht]; exact hP9, hD9⟩, hS.F ht⟩) hS.2.2 d_Pile_add2_77
theorem d_Pile_add2_21 : decode b_Pile_add2 21 = .ok (.aload_n 0, 1) := by decide +kernel
theorem d_Pile_add2_22 : decode b_Pile_add2 22 = .ok (.aload_n 0, 1) := by decide +kernel
theorem d_Pile_add2_23 : decode b_Pile_add2 23 = .ok (.getfield 13, 3) := by decide +kernel
theorem d_Pile_add2_26 : decode b_Pile_add2 26 = .ok (.iconst 2, 1) := by decide +kernel
theorem d_Pile_add2_27 : decode b_Pile_add2 27 = .ok (.aload_n 0, 1) := by decide +kernel
theorem d_Pile_add2_28 : decode b_Pile_add2 28 = .ok (.getfield 13, 3) := by decide +kernel
theorem d_Pile_add2_31 : decode b_Pile_add2 31 = .ok (.arraylength, 1) := by decide +kernel
theorem d_Pile_add2_32 : decode b_Pile_add2 32 = .ok (.imul, 1) := by decide +kernel
theorem d_Pile_add2_33 : decode b_Pile_add2 33 = .ok (.invokestatic 20, 3) := by decide +kernel
theorem d_Pile_add2_36 : decode b_Pile_add2 36 = .ok (.putfield 13, 3) := by decide +kernel
set_option maxHeartbeats 4000000 in
set_option maxRecDepth 100000 in
theorem g_Pile_add3G (l : Launch) (D : va_G) (cI cB cZ cS : ClassId) (sz : Nat) (h0 : Nat) (q : Nat) (w : Nat) (k : Nat) (n : Nat) (f : Nat → Int32) (i : Nat) (va : Int32) (vb : Int32) (vc : Int32) (hi : k * w = i) (hn : i = n) (h1 : 3 ≤ n) (hN : n ≤ 33554432) : Met l y_Pile_add2 (zc y_Pile_add2 b_Pile_add2 5 none) ({ frames := 2, cells := 1, slots := 2 * n, locals := 62 }) (zPc D (zty cI cB cZ cS) [(h0, .inr (0, [.int (nI w), .ref q, .int (nI k)])), (q, .inl (cI, n, .inl f))] sz [.ref h0, .int va, .int vb, .int vc]) (va_Qv (fun _ : Unit => True) (fun _ t => ∃ x1 : Nat, va_P D zcl [(h0, .inr (0, [.int (nI w), .ref x1, .int (nI (k + 1))])), (q, .inl (cI, n, .inl f)), (x1, .inl (cI, (2 * n), .inl (upd (upd (upd (zcp f n) i va) (i + 1) vb) (i + 2) vc)))] t.heap ∧ va_D (va_A [(h0, .inr (0, [.int (nI w), .ref q, .int (nI k)])), (q, .inl (cI, n, .inl f))] sz) [(h0, .inr (0, [.int (nI w), .ref x1, .int (nI (k + 1))])), (q, .inl (cI, n, .inl f)), (x1, .inl (cI, (2 * n), .inl (upd (upd (upd (zcp f n) i va) (i + 1) vb) (i + 2) vc)))]) (va_A [(h0, .inr (0, [.int (nI w), .ref q, .int (nI k)])), (q, .inl (cI, n, .inl f))] sz)) 1 (2 * n) (va_A [(h0, .inr (0, [.int (nI w), .ref q, .int (nI k)])), (q, .inl (cI, n, .inl f))] sz) := by
  refine Met.ofW (cc := b_Pile_add2) (maxL := 5) (ret := none) (by decide) rfl ?_
  intro p e s m args below meth c s₁ B hml hv
  obtain ⟨rfl, hsz, hP, ⟨hK, hN⟩, hD0⟩ := hv
  have hx := B.exec
  have hb := B.bytes
  have hr := B.returns
  have hts0 := atoms_spec (ws := zc y_Pile_add2 b_Pile_add2 5 none) B.pre
  have hts : ∀ w ∈ zw, w.before _ s = true := fun w hw => hts0 w (List.mem_cons_of_mem _ hw)
  have hown : s.vm.findClass "ProofDesk$Pile" = some m.cls := findClass_of_methodNamed B.named
  have hlocks := B.notSynchronized
  subst hsz
  have hD := hD0.self (sz := s.heap.size)
  generalize hAe : va_A [(h0, .inr (0, [.int (nI w), .ref q, .int (nI k)])), (q, .inl (cI, n, .inl f))] s.heap.size = A at hD ⊢
  have hA : ∀ q : Nat, s.heap.size ≤ q → A q := fun q h => by rw [← hAe]; exact Or.inr h
  have hS : va_S A s.heap s.heap [] := va_S.rf
  have hP : va_P D zcl [(h0, .inr (0, [.int (nI w), .ref q, .int (nI k)])), (q, .inl (cI, n, .inl f))] s.heap := hP
  have hl := lv_entry ([.ref h0, .int va, .int vb, .int vc]) (n := 5) (Nat.le_of_ble_eq_true rfl)
  rw [lg_entry_eq]
  generalize (lg_sl ([.ref h0, .int va, .int vb, .int vc]) ++ List.replicate (5 - (lg_sl ([.ref h0, .int va, .int vb, .int vc])).length) Slot.unset).toArray = ls at hl ⊢
  have hl : lv_has ls 5 [(0, .ref h0), (1, .int va), (2, .int vb), (3, .int vc)] := hl
  refine lv_aload_n hx hb d_Pile_add2_0 rfl (lv_at hl 0 rfl) ?_
  refine va_get (D := D) (ci := 0) (v := .int (nI k)) (C := "ProofDesk$Pile") (T := F_Pile) (N := 3) hx hb hts in_Pile hown hK hP 0 rfl rfl 2 (by decide) (hts _ kw_47) (fun _ h9 => h9) rfl d_Pile_add2_1 ?_
  refine lv_aload_n hx hb d_Pile_add2_4 rfl (lv_at hl 0 rfl) ?_
  refine va_get (D := D) (ci := 0) (v := .int (nI w)) (C := "ProofDesk$Pile") (T := F_Pile) (N := 3) hx hb hts in_Pile hown hK hP 0 rfl rfl 0 (by decide) (hts _ kw_45) (fun _ h9 => h9) rfl d_Pile_add2_5 ?_
  refine lv_imul hx hb d_Pile_add2_8 ?_
  refine zz_i (y := nI i) ((pk_mul k w).trans (congrArg nI hi)) ?_
  refine lv_istore (lv' := [(4, .int (nI i)), (0, .ref h0), (1, .int va), (2, .int vb), (3, .int vc)]) hx hb d_Pile_add2_9 hl (by decide) rfl (fun ls hl => ?_)
  refine lv_iload hx hb d_Pile_add2_11 (lv_at hl 0 rfl) ?_
  refine lv_aload_n hx hb d_Pile_add2_13 rfl (lv_at hl 1 rfl) ?_
  refine va_get (D := D) (ci := 0) (v := .ref q) (C := "ProofDesk$Pile") (T := F_Pile) (N := 3) hx hb hts in_Pile hown hK hP 0 rfl rfl 1 (by decide) (hts _ kw_46) (fun _ h9 => h9) rfl d_Pile_add2_14 ?_
  refine va_alen (v := (nI n)) hx hb hK hP 1 0 rfl rfl rfl d_Pile_add2_17 ?_
  have hc_1 : ((nI i) : Int32) = (nI n) := congrArg nI hn
  refine lv_icmp_ne hx hb d_Pile_add2_18 rfl (fun h => absurd hc_1 h) (fun _ => ?_)
  refine lv_aload_n hx hb d_Pile_add2_21 rfl (lv_at hl 1 rfl) ?_
  refine lv_aload_n hx hb d_Pile_add2_22 rfl (lv_at hl 1 rfl) ?_
  refine va_get (D := D) (ci := 0) (v := .ref q) (C := "ProofDesk$Pile") (T := F_Pile) (N := 3) hx hb hts in_Pile hown hK hP 0 rfl rfl 1 (by decide) (hts _ kw_46) (fun _ h9 => h9) rfl d_Pile_add2_23 ?_
  refine lv_iconst (v := 2) hx hb d_Pile_add2_26 (by decide) ?_
  refine lv_aload_n hx hb d_Pile_add2_27 rfl (lv_at hl 1 rfl) ?_
  refine va_get (D := D) (ci := 0) (v := .ref q) (C := "ProofDesk$Pile") (T := F_Pile) (N := 3) hx hb hts in_Pile hown hK hP 0 rfl rfl 1 (by decide) (hts _ kw_46) (fun _ h9 => h9) rfl d_Pile_add2_28 ?_
  refine va_alen (v := (nI n)) hx hb hK hP 1 0 rfl rfl rfl d_Pile_add2_31 ?_
  refine lv_imul hx hb d_Pile_add2_32 ?_
  refine zz_i (y := nI (2 * n)) (pk_mul 2 n) ?_
  have hPc := hP.sub (ws' := [(q, .inl (cI, n, .inl f))]) [1] rfl
  have hDc := hD.sub (ws' := [(q, .inl (cI, n, .inl f))]) [1] (by decide +kernel) rfl
  have hFc := va_free (wc := [(q, .inl (cI, n, .inl f))]) hD hS hA [1] rfl
  have hkc : 0 + 1 ≤ 1 := by omega
  have hks : 0 + (2 * n) ≤ 2 * n := by omega
  refine va_callr (va_runS (As := [.ref q, .int (nI (2 * n))]) (rest := [.ref h0]) ⟨hx, hb, hml, hown, hts⟩ (c_copyOf_int l D cI cB cZ cS s.heap.size q n f (2 * n) (by omega) (by omega)) (⟨callB_of 2 hts (zgood kw_136) rfl rfl rfl (hts _ kw_5) (hts _ kw_780) (by decide +kernel) ⟨Nat.le_of_ble_eq_true rfl, Nat.le_of_ble_eq_true rfl⟩, hts _ kw_135⟩) (zPreS hPc hK hN hDc) rfl rfl hl.1 rfl (lv_room (Nat.le_of_ble_eq_true rfl)) d_Pile_add2_33 ⟨hkc, hks⟩) hS (fun q _ h => hFc q h) hFc (fun u r_2 t H1 locs ht hvm hw hB hz1 hk1 hS => ?_)
  obtain ⟨hP1, hD1⟩ := hB
  rw [ht] at hP1
  obtain ⟨hP, hD⟩ := va_join (wr := [(h0, .inr (0, [.int (nI w), .ref q, .int (nI k)]))]) (w1 := [(q, .inl (cI, n, .inl f)), (r_2, .inl (cI, (2 * n), .inl (zcp f n)))]) hP hD [1] [0] rfl rfl (by decide +kernel) (by decide +kernel) hk1 hFc hP1 hD1
  generalize H1 = H at hP hS ⊢
  have hP : va_P D zcl [(h0, .inr (0, [.int (nI w), .ref q, .int (nI k)])), (q, .inl (cI, n, .inl f)), (r_2, .inl (cI, (2 * n), .inl (zcp f n)))] H := hP
  have hD : va_D A [(h0, .inr (0, [.int (nI w), .ref q, .int (nI k)])), (q, .inl (cI, n, .inl f)), (r_2, .inl (cI, (2 * n), .inl (zcp f n)))] := hD
  refine W.widen (k := 1) (n := (0 + (2 * n))) (by omega) (by omega) ?_
  refine va_put (D := D) (ci := 0) (v := .ref r_2) (ty := (.array .int)) (C := "ProofDesk$Pile") (T := F_Pile) (N := 3) hx hb hts in_Pile t_Pile t_Pile_ok n_Pile hown hK hP hD hS 0 rfl rfl 1 (by decide) (hts _ kw_46) (fun _ h9 => h9) rfl (by decide +kernel) rfl rfl (Nat.le_of_ble_eq_true rfl) d_Pile_add2_36 (fun H locs hP hD hS => ?_)
  have hP : va_P D zcl [(h0, .inr (0, [.int (nI w), .ref r_2, .int (nI k)])), (q, .inl (cI, n, .inl f)), (r_2, .inl (cI, (2 * n), .inl (zcp f n)))] H := hP
  have hD : va_D A [(h0, .inr (0, [.int (nI w), .ref r_2, .int (nI k)])), (q, .inl (cI, n, .inl f)), (r_2, .inl (cI, (2 * n), .inl (zcp f n)))] := hD
  refine lv_aload_n hx hb d_Pile_add2_39 rfl (lv_at hl 1 rfl) ?_
  refine va_get (D := D) (ci := 0) (v := .ref r_2) (C := "ProofDesk$Pile") (T := F_Pile) (N := 3) hx hb hts in_Pile hown hK hP 0 rfl rfl 1 (by decide) (hts _ kw_46) (fun _ h9 => h9) rfl d_Pile_add2_40 ?_
  refine lv_iload hx hb d_Pile_add2_43 (lv_at hl 0 rfl) ?_
  refine lv_iload_n hx hb d_Pile_add2_45 rfl (lv_at hl 2 rfl) ?_
  refine zz_iast hx hb hK hP hD hS 2 0 rfl rfl (i := (nI i)) (x := va) i (zix_nI (by omega) (by omega)) d_Pile_add2_46 (fun H locs hP hD hS => ?_)
  have hP : va_P D zcl [(h0, .inr (0, [.int (nI w), .ref r_2, .int (nI k)])), (q, .inl (cI, n, .inl f)), (r_2, .inl (cI, (2 * n), .inl (upd (zcp f n) i va)))] H := hP
  have hD : va_D A [(h0, .inr (0, [.int (nI w), .ref r_2, .int (nI k)])), (q, .inl (cI, n, .inl f)), (r_2, .inl (cI, (2 * n), .inl (upd (zcp f n) i va)))] := hD
  refine lv_aload_n hx hb d_Pile_add2_47 rfl (lv_at hl 1 rfl) ?_
  refine va_get (D := D) (ci := 0) (v := .ref r_2) (C := "ProofDesk$Pile") (T := F_Pile) (N := 3) hx hb hts in_Pile hown hK hP 0 rfl rfl 1 (by decide) (hts _ kw_46) (fun _ h9 => h9) rfl d_Pile_add2_48 ?_
  refine lv_iload hx hb d_Pile_add2_51 (lv_at hl 0 rfl) ?_
  refine lv_iconst (v := 1) hx hb d_Pile_add2_53 (by decide) ?_
  refine lv_iadd hx hb d_Pile_add2_54 ?_
  refine zz_i (y := nI (i + 1)) (nI_1 i) ?_
  refine lv_iload_n hx hb d_Pile_add2_55 rfl (lv_at hl 3 rfl) ?_
  refine zz_iast hx hb hK hP hD hS 2 0 rfl rfl (i := (nI (i + 1))) (x := vb) (i + 1) (zix_nI (by omega) (by omega)) d_Pile_add2_56 (fun H locs hP hD hS => ?_)
  have hP : va_P D zcl [(h0, .inr (0, [.int (nI w), .ref r_2, .int (nI k)])), (q, .inl (cI, n, .inl f)), (r_2, .inl (cI, (2 * n), .inl (upd (upd (zcp f n) i va) (i + 1) vb)))] H := hP
  have hD : va_D A [(h0, .inr (0, [.int (nI w), .ref r_2, .int (nI k)])), (q, .inl (cI, n, .inl f)), (r_2, .inl (cI, (2 * n), .inl (upd (upd (zcp f n) i va) (i + 1) vb)))] := hD
  refine lv_aload_n hx hb d_Pile_add2_57 rfl (lv_at hl 1 rfl) ?_
  refine va_get (D := D) (ci := 0) (v := .ref r_2) (C := "ProofDesk$Pile") (T := F_Pile) (N := 3) hx hb hts in_Pile hown hK hP 0 rfl rfl 1 (by decide) (hts _ kw_46) (fun _ h9 => h9) rfl d_Pile_add2_58 ?_
  refine lv_iload hx hb d_Pile_add2_61 (lv_at hl 0 rfl) ?_
  refine lv_iconst (v := 2) hx hb d_Pile_add2_63 (by decide) ?_
  refine lv_iadd hx hb d_Pile_add2_64 ?_
  refine zz_i (y := nI (i + 2)) (nI_add i 2) ?_
  refine lv_iload_n hx hb d_Pile_add2_65 rfl (lv_at hl 4 rfl) ?_
  refine zz_iast hx hb hK hP hD hS 2 0 rfl rfl (i := (nI (i + 2))) (x := vc) (i + 2) (zix_nI (by omega) (by omega)) d_Pile_add2_66 (fun H locs hP hD hS => ?_)
  have hP : va_P D zcl [(h0, .inr (0, [.int (nI w), .ref r_2, .int (nI k)])), (q, .inl (cI, n, .inl f)), (r_2, .inl (cI, (2 * n), .inl (upd (upd (upd (zcp f n) i va) (i + 1) vb) (i + 2) vc)))] H := hP
  have hD : va_D A [(h0, .inr (0, [.int (nI w), .ref r_2, .int (nI k)])), (q, .inl (cI, n, .inl f)), (r_2, .inl (cI, (2 * n), .inl (upd (upd (upd (zcp f n) i va) (i + 1) vb) (i + 2) vc)))] := hD
  refine lv_aload_n hx hb d_Pile_add2_67 rfl (lv_at hl 1 rfl) ?_
  refine lv_dup hx hb d_Pile_add2_68 rfl ?_
  refine va_get (D := D) (ci := 0) (v := .int (nI k)) (C := "ProofDesk$Pile") (T := F_Pile) (N := 3) hx hb hts in_Pile hown hK hP 0 rfl rfl 2 (by decide) (hts _ kw_47) (fun _ h9 => h9) rfl d_Pile_add2_69 ?_
  refine lv_iconst (v := 1) hx hb d_Pile_add2_72 (by decide) ?_
  refine lv_iadd hx hb d_Pile_add2_73 ?_
  refine zz_i (y := nI (k + 1)) (nI_1 k) ?_
  refine va_put (D := D) (ci := 0) (v := .int (nI (k + 1))) (ty := .int) (C := "ProofDesk$Pile") (T := F_Pile) (N := 3) hx hb hts in_Pile t_Pile t_Pile_ok n_Pile hown hK hP hD hS 0 rfl rfl 2 (by decide) (hts _ kw_47) (fun _ h9 => h9) rfl (by decide +kernel) rfl rfl (Nat.le_of_ble_eq_true rfl) d_Pile_add2_74 (fun H locs hP hD hS => ?_)
  have hP : va_P D zcl [(h0, .inr (0, [.int (nI w), .ref r_2, .int (nI (k + 1))])), (q, .inl (cI, n, .inl f)), (r_2, .inl (cI, (2 * n), .inl (upd (upd (upd (zcp f n) i va) (i + 1) vb) (i + 2) vc)))] H := hP
  have hD : va_D A [(h0, .inr (0, [.int (nI w), .ref r_2, .int (nI (k + 1))])), (q, .inl (cI, n, .inl f)), (r_2, .inl (cI, (2 * n), .inl (upd (upd (upd (zcp f n) i va) (i + 1) vb) (i + 2) vc)))] := hD
  have hP9 := hP.sub (ws' := [(h0, .inr (0, [.int (nI w), .ref r_2, .int (nI (k + 1))])), (q, .inl (cI, n, .inl f)), (r_2, .inl (cI, (2 * n), .inl (upd (upd (upd (zcp f n) i va) (i + 1) vb) (i + 2) vc)))]) [0, 1, 2] rfl
  have hD9 := hD.sub (ws' := [(h0, .inr (0, [.int (nI w), .ref r_2, .int (nI (k + 1))])), (q, .inl (cI, n, .inl f)), (r_2, .inl (cI, (2 * n), .inl (upd (upd (upd (zcp f n) i va) (i + 1) vb) (i + 2) vc)))]) [0, 1, 2] (by decide +kernel) rfl
  refine W.widen (k := 1) (n := (2 * n)) (by omega) (by omega) ?_
  exact W.vret hx hb hr (fun t ht hW => ⟨⟨(), rfl, trivial, r_2, by rw [ht]; exact hP9, hD9⟩, hS.F ht⟩) hS.2.2 d_Pile_add2_77
abbrev b_Pile_get : ByteArray := prog_7_method_4_code
abbrev y_Pile_get : MethodName := ⟨"ProofDesk$Pile", "get", "(II)I"⟩
theorem d_Pile_get_0 : decode b_Pile_get 0 = .ok (.aload_n 0, 1) := by decide +kernel
theorem d_Pile_get_1 : decode b_Pile_get 1 = .ok (.getfield 13, 3) := by decide +kernel
theorem d_Pile_get_4 : decode b_Pile_get 4 = .ok (.iload_n 1, 1) := by decide +kernel
theorem d_Pile_get_5 : decode b_Pile_get 5 = .ok (.aload_n 0, 1) := by decide +kernel
theorem d_Pile_get_6 : decode b_Pile_get 6 = .ok (.getfield 7, 3) := by decide +kernel
theorem d_Pile_get_9 : decode b_Pile_get 9 = .ok (.imul, 1) := by decide +kernel
theorem d_Pile_get_10 : decode b_Pile_get 10 = .ok (.iload_n 2, 1) := by decide +kernel
theorem d_Pile_get_11 : decode b_Pile_get 11 = .ok (.iadd, 1) := by decide +kernel
theorem d_Pile_get_12 : decode b_Pile_get 12 = .ok (.iaload, 1) := by decide +kernel
theorem d_Pile_get_13 : decode b_Pile_get 13 = .ok (.ireturn, 1) := by decide +kernel
set_option maxHeartbeats 4000000 in
set_option maxRecDepth 100000 in
theorem g_Pile_get (l : Launch) (D : va_G) (cI cB cZ cS : ClassId) (sz : Nat) (h0 : Nat) (q : Nat) (w : Nat) (k : Nat) (n : Nat) (f : Nat → Int32) (i : Nat) (r : Nat) (j : Nat) (hi : r * w + j = i) (hn : i < n) (hN : n ≤ 33554432) : Met l y_Pile_get (zc y_Pile_get b_Pile_get 3 (some .int)) ({ frames := 0, cells := 0, slots := 0, locals := 0 }) (zPc D (zty cI cB cZ cS) [(h0, .inr (0, [.int (nI w), .ref q, .int (nI k)])), (q, .inl (cI, n, .inl f))] sz [.ref h0, .int (nI r), .int (nI j)]) (va_Qi (fun (r : Int32) (_ : Unit) => r = (f i)) (fun _ t => va_P D zcl [(h0, .inr (0, [.int (nI w), .ref q, .int (nI k)])), (q, .inl (cI, n, .inl f))] t.heap ∧ va_D (va_A [(h0, .inr (0, [.int (nI w), .ref q, .int (nI k)])), (q, .inl (cI, n, .inl f))] sz) [(h0, .inr (0, [.int (nI w), .ref q, .int (nI k)])), (q, .inl (cI, n, .inl f))]) (va_A [(h0, .inr (0, [.int (nI w), .ref q, .int (nI k)])), (q, .inl (cI, n, .inl f))] sz)) 0 0 (va_A [(h0, .inr (0, [.int (nI w), .ref q, .int (nI k)])), (q, .inl (cI, n, .inl f))] sz) := by
  refine Met.ofW (cc := b_Pile_get) (maxL := 3) (ret := (some .int)) (by decide) rfl ?_
  intro p e s m args below meth c s₁ B hml hv
  obtain ⟨rfl, hsz, hP, ⟨hK, hN⟩, hD0⟩ := hv
  have hx := B.exec
  have hb := B.bytes
  have hr := B.returns
  have hts0 := atoms_spec (ws := zc y_Pile_get b_Pile_get 3 (some .int)) B.pre
  have hts : ∀ w ∈ zw, w.before _ s = true := fun w hw => hts0 w (List.mem_cons_of_mem _ hw)
  have hown : s.vm.findClass "ProofDesk$Pile" = some m.cls := findClass_of_methodNamed B.named
  have hlocks := B.notSynchronized
  subst hsz
  have hD := hD0.self (sz := s.heap.size)
  generalize hAe : va_A [(h0, .inr (0, [.int (nI w), .ref q, .int (nI k)])), (q, .inl (cI, n, .inl f))] s.heap.size = A at hD ⊢
  have hA : ∀ q : Nat, s.heap.size ≤ q → A q := fun q h => by rw [← hAe]; exact Or.inr h
  have hS : va_S A s.heap s.heap [] := va_S.rf
  have hP : va_P D zcl [(h0, .inr (0, [.int (nI w), .ref q, .int (nI k)])), (q, .inl (cI, n, .inl f))] s.heap := hP
  have hl := lv_entry ([.ref h0, .int (nI r), .int (nI j)]) (n := 3) (Nat.le_of_ble_eq_true rfl)
  rw [lg_entry_eq]
  generalize (lg_sl ([.ref h0, .int (nI r), .int (nI j)]) ++ List.replicate (3 - (lg_sl ([.ref h0, .int (nI r), .int (nI j)])).length) Slot.unset).toArray = ls at hl ⊢
  have hl : lv_has ls 3 [(0, .ref h0), (1, .int (nI r)), (2, .int (nI j))] := hl
  refine lv_aload_n hx hb d_Pile_get_0 rfl (lv_at hl 0 rfl) ?_
  refine va_get (D := D) (ci := 0) (v := .ref q) (C := "ProofDesk$Pile") (T := F_Pile) (N := 3) hx hb hts in_Pile hown hK hP 0 rfl rfl 1 (by decide) (hts _ kw_46) (fun _ h9 => h9) rfl d_Pile_get_1 ?_
  refine lv_iload_n hx hb d_Pile_get_4 rfl (lv_at hl 1 rfl) ?_
  refine lv_aload_n hx hb d_Pile_get_5 rfl (lv_at hl 0 rfl) ?_
  refine va_get (D := D) (ci := 0) (v := .int (nI w)) (C := "ProofDesk$Pile") (T := F_Pile) (N := 3) hx hb hts in_Pile hown hK hP 0 rfl rfl 0 (by decide) (hts _ kw_45) (fun _ h9 => h9) rfl d_Pile_get_6 ?_
  refine lv_imul hx hb d_Pile_get_9 ?_
  refine zz_i (y := nI (r * w)) (pk_mul r w) ?_
  refine lv_iload_n hx hb d_Pile_get_10 rfl (lv_at hl 2 rfl) ?_
  refine lv_iadd hx hb d_Pile_get_11 ?_
  refine zz_i (y := nI i) ((nI_add (r * w) j).trans (congrArg nI hi)) ?_
  refine zz_iald (v := (f i)) hx hb hK hP 1 0 rfl rfl (i := (nI i)) i (zix_nI (by omega) (by omega)) (rfl) d_Pile_get_12 ?_
  have hP9 := hP.sub (ws' := [(h0, .inr (0, [.int (nI w), .ref q, .int (nI k)])), (q, .inl (cI, n, .inl f))]) [0, 1] rfl
  have hD9 := hD.sub (ws' := [(h0, .inr (0, [.int (nI w), .ref q, .int (nI k)])), (q, .inl (cI, n, .inl f))]) [0, 1] (by decide +kernel) rfl
  refine W.widen (k := 0) (n := 0) (by omega) (by omega) ?_
  exact W.iret (v := (f i)) hx hb hr (fun t ht hW => ⟨⟨(f i), (), rfl, rfl, by rw [ht]; exact hP9, hD9⟩, hS.F ht⟩) hS.2.2 d_Pile_get_13
abbrev b_Pile_set : ByteArray := prog_7_method_5_code
abbrev y_Pile_set : MethodName := ⟨"ProofDesk$Pile", "set", "(III)V"⟩
theorem d_Pile_set_0 : decode b_Pile_set 0 = .ok (.aload_n 0, 1) := by decide +kernel
theorem d_Pile_set_1 : decode b_Pile_set 1 = .ok (.getfield 13, 3) := by decide +kernel
theorem d_Pile_set_4 : decode b_Pile_set 4 = .ok (.iload_n 1, 1) := by decide +kernel
theorem d_Pile_set_5 : decode b_Pile_set 5 = .ok (.aload_n 0, 1) := by decide +kernel
theorem d_Pile_set_6 : decode b_Pile_set 6 = .ok (.getfield 7, 3) := by decide +kernel
theorem d_Pile_set_9 : decode b_Pile_set 9 = .ok (.imul, 1) := by decide +kernel
theorem d_Pile_set_10 : decode b_Pile_set 10 = .ok (.iload_n 2, 1) := by decide +kernel
theorem d_Pile_set_11 : decode b_Pile_set 11 = .ok (.iadd, 1) := by decide +kernel
theorem d_Pile_set_12 : decode b_Pile_set 12 = .ok (.iload_n 3, 1) := by decide +kernel
theorem d_Pile_set_13 : decode b_Pile_set 13 = .ok (.iastore, 1) := by decide +kernel
theorem d_Pile_set_14 : decode b_Pile_set 14 = .ok (.return_, 1) := by decide +kernel
set_option maxHeartbeats 4000000 in
set_option maxRecDepth 100000 in
theorem g_Pile_set (l : Launch) (D : va_G) (cI cB cZ cS : ClassId) (sz : Nat) (h0 : Nat) (q : Nat) (w : Nat) (k : Nat) (n : Nat) (f : Nat → Int32) (i : Nat) (r : Nat) (j : Nat) (v : Int32) (hi : r * w + j = i) (hn : i < n) (hN : n ≤ 33554432) : Met l y_Pile_set (zc y_Pile_set b_Pile_set 4 none) ({ frames := 0, cells := 0, slots := 0, locals := 0 }) (zPc D (zty cI cB cZ cS) [(h0, .inr (0, [.int (nI w), .ref q, .int (nI k)])), (q, .inl (cI, n, .inl f))] sz [.ref h0, .int (nI r), .int (nI j), .int v]) (va_Qv (fun _ : Unit => True) (fun _ t => va_P D zcl [(h0, .inr (0, [.int (nI w), .ref q, .int (nI k)])), (q, .inl (cI, n, .inl (upd f i v)))] t.heap ∧ va_D (va_A [(h0, .inr (0, [.int (nI w), .ref q, .int (nI k)])), (q, .inl (cI, n, .inl f))] sz) [(h0, .inr (0, [.int (nI w), .ref q, .int (nI k)])), (q, .inl (cI, n, .inl (upd f i v)))]) (va_A [(h0, .inr (0, [.int (nI w), .ref q, .int (nI k)])), (q, .inl (cI, n, .inl f))] sz)) 0 0 (va_A [(h0, .inr (0, [.int (nI w), .ref q, .int (nI k)])), (q, .inl (cI, n, .inl f))] sz) := by
  refine Met.ofW (cc := b_Pile_set) (maxL := 4) (ret := none) (by decide) rfl ?_
  intro p e s m args below meth c s₁ B hml hv
  obtain ⟨rfl, hsz, hP, ⟨hK, hN⟩, hD0⟩ := hv
  have hx := B.exec
  have hb := B.bytes
  have hr := B.returns
  have hts0 := atoms_spec (ws := zc y_Pile_set b_Pile_set 4 none) B.pre
  have hts : ∀ w ∈ zw, w.before _ s = true := fun w hw => hts0 w (List.mem_cons_of_mem _ hw)
  have hown : s.vm.findClass "ProofDesk$Pile" = some m.cls := findClass_of_methodNamed B.named
  have hlocks := B.notSynchronized
  subst hsz
  have hD := hD0.self (sz := s.heap.size)
  generalize hAe : va_A [(h0, .inr (0, [.int (nI w), .ref q, .int (nI k)])), (q, .inl (cI, n, .inl f))] s.heap.size = A at hD ⊢
  have hA : ∀ q : Nat, s.heap.size ≤ q → A q := fun q h => by rw [← hAe]; exact Or.inr h
  have hS : va_S A s.heap s.heap [] := va_S.rf
  have hP : va_P D zcl [(h0, .inr (0, [.int (nI w), .ref q, .int (nI k)])), (q, .inl (cI, n, .inl f))] s.heap := hP
  have hl := lv_entry ([.ref h0, .int (nI r), .int (nI j), .int v]) (n := 4) (Nat.le_of_ble_eq_true rfl)
  rw [lg_entry_eq]
  generalize (lg_sl ([.ref h0, .int (nI r), .int (nI j), .int v]) ++ List.replicate (4 - (lg_sl ([.ref h0, .int (nI r), .int (nI j), .int v])).length) Slot.unset).toArray = ls at hl ⊢
  have hl : lv_has ls 4 [(0, .ref h0), (1, .int (nI r)), (2, .int (nI j)), (3, .int v)] := hl
  refine lv_aload_n hx hb d_Pile_set_0 rfl (lv_at hl 0 rfl) ?_
  refine va_get (D := D) (ci := 0) (v := .ref q) (C := "ProofDesk$Pile") (T := F_Pile) (N := 3) hx hb hts in_Pile hown hK hP 0 rfl rfl 1 (by decide) (hts _ kw_46) (fun _ h9 => h9) rfl d_Pile_set_1 ?_
  refine lv_iload_n hx hb d_Pile_set_4 rfl (lv_at hl 1 rfl) ?_
  refine lv_aload_n hx hb d_Pile_set_5 rfl (lv_at hl 0 rfl) ?_
  refine va_get (D := D) (ci := 0) (v := .int (nI w)) (C := "ProofDesk$Pile") (T := F_Pile) (N := 3) hx hb hts in_Pile hown hK hP 0 rfl rfl 0 (by decide) (hts _ kw_45) (fun _ h9 => h9) rfl d_Pile_set_6 ?_
  refine lv_imul hx hb d_Pile_set_9 ?_
  refine zz_i (y := nI (r * w)) (pk_mul r w) ?_
  refine lv_iload_n hx hb d_Pile_set_10 rfl (lv_at hl 2 rfl) ?_
  refine lv_iadd hx hb d_Pile_set_11 ?_
  refine zz_i (y := nI i) ((nI_add (r * w) j).trans (congrArg nI hi)) ?_
  refine lv_iload_n hx hb d_Pile_set_12 rfl (lv_at hl 3 rfl) ?_
  refine zz_iast hx hb hK hP hD hS 1 0 rfl rfl (i := (nI i)) (x := v) i (zix_nI (by omega) (by omega)) d_Pile_set_13 (fun H locs hP hD hS => ?_)
  have hP : va_P D zcl [(h0, .inr (0, [.int (nI w), .ref q, .int (nI k)])), (q, .inl (cI, n, .inl (upd f i v)))] H := hP
  have hD : va_D A [(h0, .inr (0, [.int (nI w), .ref q, .int (nI k)])), (q, .inl (cI, n, .inl (upd f i v)))] := hD
  have hP9 := hP.sub (ws' := [(h0, .inr (0, [.int (nI w), .ref q, .int (nI k)])), (q, .inl (cI, n, .inl (upd f i v)))]) [0, 1] rfl
  have hD9 := hD.sub (ws' := [(h0, .inr (0, [.int (nI w), .ref q, .int (nI k)])), (q, .inl (cI, n, .inl (upd f i v)))]) [0, 1] (by decide +kernel) rfl
  refine W.widen (k := 0) (n := 0) (by omega) (by omega) ?_
  exact W.vret hx hb hr (fun t ht hW => ⟨⟨(), rfl, trivial, by rw [ht]; exact hP9, hD9⟩, hS.F ht⟩) hS.2.2 d_Pile_set_14
abbrev b_Pile_take : ByteArray := prog_7_method_6_code
abbrev y_Pile_take : MethodName := ⟨"ProofDesk$Pile", "take", "()I"⟩
theorem d_Pile_take_0 : decode b_Pile_take 0 = .ok (.aload_n 0, 1) := by decide +kernel
theorem d_Pile_take_1 : decode b_Pile_take 1 = .ok (.dup, 1) := by decide +kernel
theorem d_Pile_take_2 : decode b_Pile_take 2 = .ok (.getfield 17, 3) := by decide +kernel
theorem d_Pile_take_5 : decode b_Pile_take 5 = .ok (.iconst 1, 1) := by decide +kernel
theorem d_Pile_take_6 : decode b_Pile_take 6 = .ok (.isub, 1) := by decide +kernel
theorem d_Pile_take_7 : decode b_Pile_take 7 = .ok (.putfield 17, 3) := by decide +kernel
theorem d_Pile_take_10 : decode b_Pile_take 10 = .ok (.aload_n 0, 1) := by decide +kernel
theorem d_Pile_take_11 : decode b_Pile_take 11 = .ok (.getfield 13, 3) := by decide +kernel
theorem d_Pile_take_14 : decode b_Pile_take 14 = .ok (.aload_n 0, 1) := by decide +kernel
theorem d_Pile_take_15 : decode b_Pile_take 15 = .ok (.getfield 17, 3) := by decide +kernel
theorem d_Pile_take_18 : decode b_Pile_take 18 = .ok (.aload_n 0, 1) := by decide +kernel
theorem d_Pile_take_19 : decode b_Pile_take 19 = .ok (.getfield 7, 3) := by decide +kernel
theorem d_Pile_take_22 : decode b_Pile_take 22 = .ok (.imul, 1) := by decide +kernel
theorem d_Pile_take_23 : decode b_Pile_take 23 = .ok (.iaload, 1) := by decide +kernel
theorem d_Pile_take_24 : decode b_Pile_take 24 = .ok (.ireturn, 1) := by decide +kernel
set_option maxHeartbeats 4000000 in
set_option maxRecDepth 100000 in
theorem g_Pile_take (l : Launch) (D : va_G) (cI cB cZ cS : ClassId) (sz : Nat) (h0 : Nat) (q : Nat) (w : Nat) (k : Nat) (n : Nat) (f : Nat → Int32) (i : Nat) (hi : k * w = i) (hn : i < n) (hN : n ≤ 33554432) : Met l y_Pile_take (zc y_Pile_take b_Pile_take 1 (some .int)) ({ frames := 0, cells := 0, slots := 0, locals := 0 }) (zPc D (zty cI cB cZ cS) [(h0, .inr (0, [.int (nI w), .ref q, .int (nI (k + 1))])), (q, .inl (cI, n, .inl f))] sz [.ref h0]) (va_Qi (fun (r : Int32) (_ : Unit) => r = (f i)) (fun _ t => va_P D zcl [(h0, .inr (0, [.int (nI w), .ref q, .int (nI k)])), (q, .inl (cI, n, .inl f))] t.heap ∧ va_D (va_A [(h0, .inr (0, [.int (nI w), .ref q, .int (nI (k + 1))])), (q, .inl (cI, n, .inl f))] sz) [(h0, .inr (0, [.int (nI w), .ref q, .int (nI k)])), (q, .inl (cI, n, .inl f))]) (va_A [(h0, .inr (0, [.int (nI w), .ref q, .int (nI (k + 1))])), (q, .inl (cI, n, .inl f))] sz)) 0 0 (va_A [(h0, .inr (0, [.int (nI w), .ref q, .int (nI (k + 1))])), (q, .inl (cI, n, .inl f))] sz) := by
  refine Met.ofW (cc := b_Pile_take) (maxL := 1) (ret := (some .int)) (by decide) rfl ?_
  intro p e s m args below meth c s₁ B hml hv
  obtain ⟨rfl, hsz, hP, ⟨hK, hN⟩, hD0⟩ := hv
  have hx := B.exec
  have hb := B.bytes
  have hr := B.returns
  have hts0 := atoms_spec (ws := zc y_Pile_take b_Pile_take 1 (some .int)) B.pre
  have hts : ∀ w ∈ zw, w.before _ s = true := fun w hw => hts0 w (List.mem_cons_of_mem _ hw)
  have hown : s.vm.findClass "ProofDesk$Pile" = some m.cls := findClass_of_methodNamed B.named
  have hlocks := B.notSynchronized
  subst hsz
  have hD := hD0.self (sz := s.heap.size)
  generalize hAe : va_A [(h0, .inr (0, [.int (nI w), .ref q, .int (nI (k + 1))])), (q, .inl (cI, n, .inl f))] s.heap.size = A at hD ⊢
  have hA : ∀ q : Nat, s.heap.size ≤ q → A q := fun q h => by rw [← hAe]; exact Or.inr h
  have hS : va_S A s.heap s.heap [] := va_S.rf
  have hP : va_P D zcl [(h0, .inr (0, [.int (nI w), .ref q, .int (nI (k + 1))])), (q, .inl (cI, n, .inl f))] s.heap := hP
  have hl := lv_entry ([.ref h0]) (n := 1) (Nat.le_of_ble_eq_true rfl)
  rw [lg_entry_eq]
  generalize (lg_sl ([.ref h0]) ++ List.replicate (1 - (lg_sl ([.ref h0])).length) Slot.unset).toArray = ls at hl ⊢
  have hl : lv_has ls 1 [(0, .ref h0)] := hl
  refine lv_aload_n hx hb d_Pile_take_0 rfl (lv_at hl 0 rfl) ?_
  refine lv_dup hx hb d_Pile_take_1 rfl ?_
  refine va_get (D := D) (ci := 0) (v := .int (nI (k + 1))) (C := "ProofDesk$Pile") (T := F_Pile) (N := 3) hx hb hts in_Pile hown hK hP 0 rfl rfl 2 (by decide) (hts _ kw_47) (fun _ h9 => h9) rfl d_Pile_take_2 ?_
  refine lv_iconst (v := 1) hx hb d_Pile_take_5 (by decide) ?_
  refine lv_isub hx hb d_Pile_take_6 ?_
  refine zz_i (y := nI k) (nI_pred k) ?_
  refine va_put (D := D) (ci := 0) (v := .int (nI k)) (ty := .int) (C := "ProofDesk$Pile") (T := F_Pile) (N := 3) hx hb hts in_Pile t_Pile t_Pile_ok n_Pile hown hK hP hD hS 0 rfl rfl 2 (by decide) (hts _ kw_47) (fun _ h9 => h9) rfl (by decide +kernel) rfl rfl (Nat.le_of_ble_eq_true rfl) d_Pile_take_7 (fun H locs hP hD hS => ?_)
  have hP : va_P D zcl [(h0, .inr (0, [.int (nI w), .ref q, .int (nI k)])), (q, .inl (cI, n, .inl f))] H := hP
  have hD : va_D A [(h0, .inr (0, [.int (nI w), .ref q, .int (nI k)])), (q, .inl (cI, n, .inl f))] := hD
  refine lv_aload_n hx hb d_Pile_take_10 rfl (lv_at hl 0 rfl) ?_
  refine va_get (D := D) (ci := 0) (v := .ref q) (C := "ProofDesk$Pile") (T := F_Pile) (N := 3) hx hb hts in_Pile hown hK hP 0 rfl rfl 1 (by decide) (hts _ kw_46) (fun _ h9 => h9) rfl d_Pile_take_11 ?_
  refine lv_aload_n hx hb d_Pile_take_14 rfl (lv_at hl 0 rfl) ?_
  refine va_get (D := D) (ci := 0) (v := .int (nI k)) (C := "ProofDesk$Pile") (T := F_Pile) (N := 3) hx hb hts in_Pile hown hK hP 0 rfl rfl 2 (by decide) (hts _ kw_47) (fun _ h9 => h9) rfl d_Pile_take_15 ?_
  refine lv_aload_n hx hb d_Pile_take_18 rfl (lv_at hl 0 rfl) ?_
  refine va_get (D := D) (ci := 0) (v := .int (nI w)) (C := "ProofDesk$Pile") (T := F_Pile) (N := 3) hx hb hts in_Pile hown hK hP 0 rfl rfl 0 (by decide) (hts _ kw_45) (fun _ h9 => h9) rfl d_Pile_take_19 ?_
  refine lv_imul hx hb d_Pile_take_22 ?_
  refine zz_i (y := nI i) ((pk_mul k w).trans (congrArg nI hi)) ?_
  refine zz_iald (v := (f i)) hx hb hK hP 1 0 rfl rfl (i := (nI i)) i (zix_nI (by omega) (by omega)) (rfl) d_Pile_take_23 ?_
  have hP9 := hP.sub (ws' := [(h0, .inr (0, [.int (nI w), .ref q, .int (nI k)])), (q, .inl (cI, n, .inl f))]) [0, 1] rfl
  have hD9 := hD.sub (ws' := [(h0, .inr (0, [.int (nI w), .ref q, .int (nI k)])), (q, .inl (cI, n, .inl f))]) [0, 1] (by decide +kernel) rfl
  refine W.widen (k := 0) (n := 0) (by omega) (by omega) ?_
  exact W.iret (v := (f i)) hx hb hr (fun t ht hW => ⟨⟨(f i), (), rfl, rfl, by rw [ht]; exact hP9, hD9⟩, hS.F ht⟩) hS.2.2 d_Pile_take_24
abbrev b_Pile_top : ByteArray := prog_7_method_7_code
abbrev y_Pile_top : MethodName := ⟨"ProofDesk$Pile", "top", "()I"⟩
theorem d_Pile_top_0 : decode b_Pile_top 0 = .ok (.aload_n 0, 1) := by decide +kernel
theorem d_Pile_top_1 : decode b_Pile_top 1 = .ok (.getfield 13, 3) := by decide +kernel
theorem d_Pile_top_4 : decode b_Pile_top 4 = .ok (.aload_n 0, 1) := by decide +kernel
theorem d_Pile_top_5 : decode b_Pile_top 5 = .ok (.getfield 17, 3) := by decide +kernel
theorem d_Pile_top_8 : decode b_Pile_top 8 = .ok (.iconst 1, 1) := by decide +kernel
theorem d_Pile_top_9 : decode b_Pile_top 9 = .ok (.isub, 1) := by decide +kernel
theorem d_Pile_top_10 : decode b_Pile_top 10 = .ok (.aload_n 0, 1) := by decide +kernel
theorem d_Pile_top_11 : decode b_Pile_top 11 = .ok (.getfield 7, 3) := by decide +kernel
theorem d_Pile_top_14 : decode b_Pile_top 14 = .ok (.imul, 1) := by decide +kernel
theorem d_Pile_top_15 : decode b_Pile_top 15 = .ok (.iaload, 1) := by decide +kernel
theorem d_Pile_top_16 : decode b_Pile_top 16 = .ok (.ireturn, 1) := by decide +kernel
set_option maxHeartbeats 4000000 in
set_option maxRecDepth 100000 in
theorem g_Pile_top (l : Launch) (D : va_G) (cI cB cZ cS : ClassId) (sz : Nat) (h0 : Nat) (q : Nat) (w : Nat) (k : Nat) (n : Nat) (f : Nat → Int32) (i : Nat) (hi : k * w = i) (hn : i < n) (hN : n ≤ 33554432) : Met l y_Pile_top (zc y_Pile_top b_Pile_top 1 (some .int)) ({ frames := 0, cells := 0, slots := 0, locals := 0 }) (zPc D (zty cI cB cZ cS) [(h0, .inr (0, [.int (nI w), .ref q, .int (nI (k + 1))])), (q, .inl (cI, n, .inl f))] sz [.ref h0]) (va_Qi (fun (r : Int32) (_ : Unit) => r = (f i)) (fun _ t => va_P D zcl [(h0, .inr (0, [.int (nI w), .ref q, .int (nI (k + 1))])), (q, .inl (cI, n, .inl f))] t.heap ∧ va_D (va_A [(h0, .inr (0, [.int (nI w), .ref q, .int (nI (k + 1))])), (q, .inl (cI, n, .inl f))] sz) [(h0, .inr (0, [.int (nI w), .ref q, .int (nI (k + 1))])), (q, .inl (cI, n, .inl f))]) (va_A [(h0, .inr (0, [.int (nI w), .ref q, .int (nI (k + 1))])), (q, .inl (cI, n, .inl f))] sz)) 0 0 (va_A [(h0, .inr (0, [.int (nI w), .ref q, .int (nI (k + 1))])), (q, .inl (cI, n, .inl f))] sz) := by
  refine Met.ofW (cc := b_Pile_top) (maxL := 1) (ret := (some .int)) (by decide) rfl ?_
  intro p e s m args below meth c s₁ B hml hv
  obtain ⟨rfl, hsz, hP, ⟨hK, hN⟩, hD0⟩ := hv
  have hx := B.exec
  have hb := B.bytes
  have hr := B.returns
  have hts0 := atoms_spec (ws := zc y_Pile_top b_Pile_top 1 (some .int)) B.pre
  have hts : ∀ w ∈ zw, w.before _ s = true := fun w hw => hts0 w (List.mem_cons_of_mem _ hw)
  have hown : s.vm.findClass "ProofDesk$Pile" = some m.cls := findClass_of_methodNamed B.named
  have hlocks := B.notSynchronized
  subst hsz
  have hD := hD0.self (sz := s.heap.size)
  generalize hAe : va_A [(h0, .inr (0, [.int (nI w), .ref q, .int (nI (k + 1))])), (q, .inl (cI, n, .inl f))] s.heap.size = A at hD ⊢
  have hA : ∀ q : Nat, s.heap.size ≤ q → A q := fun q h => by rw [← hAe]; exact Or.inr h
  have hS : va_S A s.heap s.heap [] := va_S.rf
  have hP : va_P D zcl [(h0, .inr (0, [.int (nI w), .ref q, .int (nI (k + 1))])), (q, .inl (cI, n, .inl f))] s.heap := hP
  have hl := lv_entry ([.ref h0]) (n := 1) (Nat.le_of_ble_eq_true rfl)
  rw [lg_entry_eq]
  generalize (lg_sl ([.ref h0]) ++ List.replicate (1 - (lg_sl ([.ref h0])).length) Slot.unset).toArray = ls at hl ⊢
  have hl : lv_has ls 1 [(0, .ref h0)] := hl
  refine lv_aload_n hx hb d_Pile_top_0 rfl (lv_at hl 0 rfl) ?_
  refine va_get (D := D) (ci := 0) (v := .ref q) (C := "ProofDesk$Pile") (T := F_Pile) (N := 3) hx hb hts in_Pile hown hK hP 0 rfl rfl 1 (by decide) (hts _ kw_46) (fun _ h9 => h9) rfl d_Pile_top_1 ?_
  refine lv_aload_n hx hb d_Pile_top_4 rfl (lv_at hl 0 rfl) ?_
  refine va_get (D := D) (ci := 0) (v := .int (nI (k + 1))) (C := "ProofDesk$Pile") (T := F_Pile) (N := 3) hx hb hts in_Pile hown hK hP 0 rfl rfl 2 (by decide) (hts _ kw_47) (fun _ h9 => h9) rfl d_Pile_top_5 ?_
  refine lv_iconst (v := 1) hx hb d_Pile_top_8 (by decide) ?_
  refine lv_isub hx hb d_Pile_top_9 ?_
  refine zz_i (y := nI k) (nI_pred k) ?_
  refine lv_aload_n hx hb d_Pile_top_10 rfl (lv_at hl 0 rfl) ?_
  refine va_get (D := D) (ci := 0) (v := .int (nI w)) (C := "ProofDesk$Pile") (T := F_Pile) (N := 3) hx hb hts in_Pile hown hK hP 0 rfl rfl 0 (by decide) (hts _ kw_45) (fun _ h9 => h9) rfl d_Pile_top_11 ?_
  refine lv_imul hx hb d_Pile_top_14 ?_
  refine zz_i (y := nI i) ((pk_mul k w).trans (congrArg nI hi)) ?_
  refine zz_iald (v := (f i)) hx hb hK hP 1 0 rfl rfl (i := (nI i)) i (zix_nI (by omega) (by omega)) (rfl) d_Pile_top_15 ?_
  have hP9 := hP.sub (ws' := [(h0, .inr (0, [.int (nI w), .ref q, .int (nI (k + 1))])), (q, .inl (cI, n, .inl f))]) [0, 1] rfl
  have hD9 := hD.sub (ws' := [(h0, .inr (0, [.int (nI w), .ref q, .int (nI (k + 1))])), (q, .inl (cI, n, .inl f))]) [0, 1] (by decide +kernel) rfl
  refine W.widen (k := 0) (n := 0) (by omega) (by omega) ?_
  exact W.iret (v := (f i)) hx hb hr (fun t ht hW => ⟨⟨(f i), (), rfl, rfl, by rw [ht]; exact hP9, hD9⟩, hS.F ht⟩) hS.2.2 d_Pile_top_16
