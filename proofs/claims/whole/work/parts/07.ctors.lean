abbrev b_Terms_init : ByteArray := prog_11_method_1_code
abbrev y_Terms_init : MethodName := ⟨"ProofDesk$Terms", "<init>", "()V"⟩
theorem d_Terms_init_0 : decode b_Terms_init 0 = .ok (.aload_n 0, 1) := by decide +kernel
theorem d_Terms_init_1 : decode b_Terms_init 1 = .ok (.invokespecial 3, 3) := by decide +kernel
theorem kw_171 : (Jvm.Cond.methodLink "ProofDesk$Terms" (3 : Nat) ({ cls := "java/lang/Object", name := "<init>", desc := "()V" } : Jvm.MethodName)) ∈ zw := List.mem_filter.mpr ⟨List.mem_append_right _ (List.mem_of_getElem? (i := 171) (by decide +kernel)), by decide +kernel⟩
theorem d_Terms_init_4 : decode b_Terms_init 4 = .ok (.aload_n 0, 1) := by decide +kernel
theorem d_Terms_init_5 : decode b_Terms_init 5 = .ok (.sipush 1792, 3) := by decide +kernel
theorem d_Terms_init_8 : decode b_Terms_init 8 = .ok (.newarray .int, 2) := by decide +kernel
theorem d_Terms_init_10 : decode b_Terms_init 10 = .ok (.putfield 11, 3) := by decide +kernel
theorem kw_174 : (Jvm.Cond.fieldLink "ProofDesk$Terms" (11 : Nat) "ProofDesk$Terms" "cells" "[I") ∈ zw := List.mem_filter.mpr ⟨List.mem_append_right _ (List.mem_of_getElem? (i := 174) (by decide +kernel)), by decide +kernel⟩
theorem d_Terms_init_13 : decode b_Terms_init 13 = .ok (.aload_n 0, 1) := by decide +kernel
theorem d_Terms_init_14 : decode b_Terms_init 14 = .ok (.sipush 768, 3) := by decide +kernel
theorem d_Terms_init_17 : decode b_Terms_init 17 = .ok (.newarray .int, 2) := by decide +kernel
theorem d_Terms_init_19 : decode b_Terms_init 19 = .ok (.putfield 15, 3) := by decide +kernel
theorem kw_177 : (Jvm.Cond.fieldLink "ProofDesk$Terms" (15 : Nat) "ProofDesk$Terms" "rows" "[I") ∈ zw := List.mem_filter.mpr ⟨List.mem_append_right _ (List.mem_of_getElem? (i := 177) (by decide +kernel)), by decide +kernel⟩
theorem d_Terms_init_22 : decode b_Terms_init 22 = .ok (.aload_n 0, 1) := by decide +kernel
theorem d_Terms_init_23 : decode b_Terms_init 23 = .ok (.new 18, 3) := by decide +kernel
theorem kw_172 : (Jvm.Cond.classLink "ProofDesk$Terms" (18 : Nat) "ProofDesk$Pile") ∈ zw := List.mem_filter.mpr ⟨List.mem_append_right _ (List.mem_of_getElem? (i := 172) (by decide +kernel)), by decide +kernel⟩
theorem d_Terms_init_26 : decode b_Terms_init 26 = .ok (.dup, 1) := by decide +kernel
theorem d_Terms_init_27 : decode b_Terms_init 27 = .ok (.iconst 1, 1) := by decide +kernel
theorem d_Terms_init_28 : decode b_Terms_init 28 = .ok (.invokespecial 20, 3) := by decide +kernel
theorem kw_173 : (Jvm.Cond.methodLink "ProofDesk$Terms" (20 : Nat) ({ cls := "ProofDesk$Pile", name := "<init>", desc := "(I)V" } : Jvm.MethodName)) ∈ zw := List.mem_filter.mpr ⟨List.mem_append_right _ (List.mem_of_getElem? (i := 173) (by decide +kernel)), by decide +kernel⟩
theorem d_Terms_init_31 : decode b_Terms_init 31 = .ok (.putfield 23, 3) := by decide +kernel
theorem kw_187 : (Jvm.Cond.fieldLink "ProofDesk$Terms" (23 : Nat) "ProofDesk$Terms" "stack" "LProofDesk$Pile;") ∈ zw := List.mem_filter.mpr ⟨List.mem_append_right _ (List.mem_of_getElem? (i := 187) (by decide +kernel)), by decide +kernel⟩
theorem d_Terms_init_34 : decode b_Terms_init 34 = .ok (.return_, 1) := by decide +kernel
set_option maxHeartbeats 4000000 in
set_option maxRecDepth 100000 in
theorem c_Terms_init (l : Launch) (D : va_G) (cI cB cZ cS : ClassId) (sz : Nat) (h0 : Nat) : Met l y_Terms_init (zc y_Terms_init b_Terms_init 1 none) ({ frames := 2, cells := 4, slots := 2579, locals := 33 }) (zPc D (zty cI cB cZ cS) [(h0, .inr (4, [.null, .int 0, .null, .int 0, .int 0, .int 0, .int 0, .int 0, .null]))] sz [.ref h0]) (va_Qv (fun _ : Unit => True) (fun _ t => ∃ x1 x2 x3 x4 : Nat, va_P D zcl [(h0, .inr (4, [.ref x1, .int 0, .ref x2, .int 0, .int 0, .int 0, .int 0, .int 0, .ref x3])), (x1, .inl (cI, 1792, .inl (fun _ => 0))), (x2, .inl (cI, 768, .inl (fun _ => 0))), (x3, .inr (0, [.int 1, .ref x4, .int 0])), (x4, .inl (cI, 16, .inl (fun _ => 0)))] t.heap ∧ va_D (va_A [(h0, .inr (4, [.null, .int 0, .null, .int 0, .int 0, .int 0, .int 0, .int 0, .null]))] sz) [(h0, .inr (4, [.ref x1, .int 0, .ref x2, .int 0, .int 0, .int 0, .int 0, .int 0, .ref x3])), (x1, .inl (cI, 1792, .inl (fun _ => 0))), (x2, .inl (cI, 768, .inl (fun _ => 0))), (x3, .inr (0, [.int 1, .ref x4, .int 0])), (x4, .inl (cI, 16, .inl (fun _ => 0)))]) (va_A [(h0, .inr (4, [.null, .int 0, .null, .int 0, .int 0, .int 0, .int 0, .int 0, .null]))] sz)) 4 2579 (va_A [(h0, .inr (4, [.null, .int 0, .null, .int 0, .int 0, .int 0, .int 0, .int 0, .null]))] sz) := by
  refine Met.ofW (cc := b_Terms_init) (maxL := 1) (ret := none) (by decide) rfl ?_
  intro p e s m args below meth c s₁ B hml hv
  obtain ⟨rfl, hsz, hP, ⟨hK, hN⟩, hD0⟩ := hv
  have hx := B.exec
  have hb := B.bytes
  have hr := B.returns
  have hts0 := atoms_spec (ws := zc y_Terms_init b_Terms_init 1 none) B.pre
  have hts : ∀ w ∈ zw, w.before _ s = true := fun w hw => hts0 w (List.mem_cons_of_mem _ hw)
  have hown : s.vm.findClass "ProofDesk$Terms" = some m.cls := findClass_of_methodNamed B.named
  have hlocks := B.notSynchronized
  have hin : meth.name = "<init>" := (name_of_methodNamed B.named B.method).1
  subst hsz
  have hD := hD0.self (sz := s.heap.size)
  generalize hAe : va_A [(h0, .inr (4, [.null, .int 0, .null, .int 0, .int 0, .int 0, .int 0, .int 0, .null]))] s.heap.size = A at hD ⊢
  have hA : ∀ q : Nat, s.heap.size ≤ q → A q := fun q h => by rw [← hAe]; exact Or.inr h
  have hS : va_S A s.heap s.heap [] := va_S.rf
  have hP : va_P D zcl [(h0, .inr (4, [.null, .int 0, .null, .int 0, .int 0, .int 0, .int 0, .int 0, .null]))] s.heap := hP
  have hl := lv_entry ([.ref h0]) (n := 1) (Nat.le_of_ble_eq_true rfl)
  rw [lg_entry_eq]
  generalize (lg_sl ([.ref h0]) ++ List.replicate (1 - (lg_sl ([.ref h0])).length) Slot.unset).toArray = ls at hl ⊢
  have hl : lv_has ls 1 [(0, .ref h0)] := hl
  refine lv_aload_n hx hb d_Terms_init_0 rfl (lv_at hl 0 rfl) ?_
  refine W.objInit hx hb hown (hts _ kw_171) (hts _ kw_31) (hts _ kw_32) rfl (by rw [hml]; exact hl.1) rfl d_Terms_init_1 (Nat.le_of_ble_eq_true rfl) (Nat.le_of_ble_eq_true rfl) ?_
  refine W.eq (g2 := F0 m 4 ls []) rfl ?_
  refine lv_aload_n hx hb d_Terms_init_4 rfl (lv_at hl 0 rfl) ?_
  refine lv_sipush (v := 1792) hx hb d_Terms_init_5 (by decide) ?_
  have hkc : 0 + 1 ≤ 4 := by omega
  have hks : 0 + 1792 ≤ 2579 := by omega
  refine zz_newa (atype := .int) (ty := .int) (cA := cI) (a0 := (1792, .inl (fun _ => 0))) (N' := 1792) hx hb (hts _ kw_64) rfl hK hP hD hS hA 0 rfl (fun _ => rfl) (by decide +kernel) (by decide +kernel) (by decide) hkc hks d_Terms_init_8 (fun q_1 H hP hD hS => ?_)
  have hP : va_P D zcl [(h0, .inr (4, [.null, .int 0, .null, .int 0, .int 0, .int 0, .int 0, .int 0, .null])), (q_1, .inl (cI, 1792, .inl (fun _ => 0)))] H := hP
  have hD : va_D A [(h0, .inr (4, [.null, .int 0, .null, .int 0, .int 0, .int 0, .int 0, .int 0, .null])), (q_1, .inl (cI, 1792, .inl (fun _ => 0)))] := hD
  refine W.widen (k := 1) (n := 1792) (by omega) (by omega) ?_
  refine va_put (D := D) (ci := 4) (v := .ref q_1) (ty := (.array .int)) (C := "ProofDesk$Terms") (T := F_Terms) (N := 9) hx hb hts in_Terms t_Terms t_Terms_ok n_Terms hown hK hP hD hS 0 rfl rfl 0 (by decide) (hts _ kw_174) (fun _ h9 => h9) rfl (by decide +kernel) rfl rfl (Nat.le_of_ble_eq_true rfl) d_Terms_init_10 (fun H locs hP hD hS => ?_)
  have hP : va_P D zcl [(h0, .inr (4, [.ref q_1, .int 0, .null, .int 0, .int 0, .int 0, .int 0, .int 0, .null])), (q_1, .inl (cI, 1792, .inl (fun _ => 0)))] H := hP
  have hD : va_D A [(h0, .inr (4, [.ref q_1, .int 0, .null, .int 0, .int 0, .int 0, .int 0, .int 0, .null])), (q_1, .inl (cI, 1792, .inl (fun _ => 0)))] := hD
  refine lv_aload_n hx hb d_Terms_init_13 rfl (lv_at hl 0 rfl) ?_
  refine lv_sipush (v := 768) hx hb d_Terms_init_14 (by decide) ?_
  have hkc : 1 + 1 ≤ 4 := by omega
  have hks : 1792 + 768 ≤ 2579 := by omega
  refine zz_newa (atype := .int) (ty := .int) (cA := cI) (a0 := (768, .inl (fun _ => 0))) (N' := 768) hx hb (hts _ kw_64) rfl hK hP hD hS hA 0 rfl (fun _ => rfl) (by decide +kernel) (by decide +kernel) (by decide) hkc hks d_Terms_init_17 (fun q_2 H hP hD hS => ?_)
  have hP : va_P D zcl [(h0, .inr (4, [.ref q_1, .int 0, .null, .int 0, .int 0, .int 0, .int 0, .int 0, .null])), (q_1, .inl (cI, 1792, .inl (fun _ => 0))), (q_2, .inl (cI, 768, .inl (fun _ => 0)))] H := hP
  have hD : va_D A [(h0, .inr (4, [.ref q_1, .int 0, .null, .int 0, .int 0, .int 0, .int 0, .int 0, .null])), (q_1, .inl (cI, 1792, .inl (fun _ => 0))), (q_2, .inl (cI, 768, .inl (fun _ => 0)))] := hD
  refine W.widen (k := 2) (n := 2560) (by omega) (by omega) ?_
  refine va_put (D := D) (ci := 4) (v := .ref q_2) (ty := (.array .int)) (C := "ProofDesk$Terms") (T := F_Terms) (N := 9) hx hb hts in_Terms t_Terms t_Terms_ok n_Terms hown hK hP hD hS 0 rfl rfl 2 (by decide) (hts _ kw_177) (fun _ h9 => h9) rfl (by decide +kernel) rfl rfl (Nat.le_of_ble_eq_true rfl) d_Terms_init_19 (fun H locs hP hD hS => ?_)
  have hP : va_P D zcl [(h0, .inr (4, [.ref q_1, .int 0, .ref q_2, .int 0, .int 0, .int 0, .int 0, .int 0, .null])), (q_1, .inl (cI, 1792, .inl (fun _ => 0))), (q_2, .inl (cI, 768, .inl (fun _ => 0)))] H := hP
  have hD : va_D A [(h0, .inr (4, [.ref q_1, .int 0, .ref q_2, .int 0, .int 0, .int 0, .int 0, .int 0, .null])), (q_1, .inl (cI, 1792, .inl (fun _ => 0))), (q_2, .inl (cI, 768, .inl (fun _ => 0)))] := hD
  refine lv_aload_n hx hb d_Terms_init_22 rfl (lv_at hl 0 rfl) ?_
  have hkc : 2 + 1 ≤ 4 := by omega
  have hks : 2560 + 3 ≤ 2579 := by omega
  refine va_new (ci := 0) (fs := z0f_Pile) (C := "ProofDesk$Pile") (T := F_Pile) (N := 3) hx hb hts in_Pile t_Pile t_Pile_ok hown (hts _ kw_172) (hts _ kw_40) (hts _ kw_3) hK hP hD hS hA rfl z0_Pile hkc hks d_Terms_init_23 (fun q_3 H hP hD hS => ?_)
  have hP : va_P D zcl [(h0, .inr (4, [.ref q_1, .int 0, .ref q_2, .int 0, .int 0, .int 0, .int 0, .int 0, .null])), (q_1, .inl (cI, 1792, .inl (fun _ => 0))), (q_2, .inl (cI, 768, .inl (fun _ => 0))), (q_3, .inr (0, [.int 0, .null, .int 0]))] H := hP
  have hD : va_D A [(h0, .inr (4, [.ref q_1, .int 0, .ref q_2, .int 0, .int 0, .int 0, .int 0, .int 0, .null])), (q_1, .inl (cI, 1792, .inl (fun _ => 0))), (q_2, .inl (cI, 768, .inl (fun _ => 0))), (q_3, .inr (0, [.int 0, .null, .int 0]))] := hD
  refine W.widen (k := 3) (n := 2563) (by omega) (by omega) ?_
  refine lv_dup hx hb d_Terms_init_26 rfl ?_
  refine lv_iconst (v := 1) hx hb d_Terms_init_27 (by decide) ?_
  have hPc := hP.sub (ws' := [(q_3, .inr (0, [.int 0, .null, .int 0]))]) [3] rfl
  have hDc := hD.sub (ws' := [(q_3, .inr (0, [.int 0, .null, .int 0]))]) [3] (by decide +kernel) rfl
  have hFc := va_free (wc := [(q_3, .inr (0, [.int 0, .null, .int 0]))]) hD hS hA [3] rfl
  have hkc : 3 + 1 ≤ 4 := by omega
  have hks : 2563 + 16 ≤ 2579 := by omega
  refine va_callv (va_runI (As := [.int 1]) (rest := [.ref q_3, .ref h0]) ⟨hx, hb, hml, hown, hts⟩ (c_Pile_init1 l D cI cB cZ cS H.size q_3) (⟨callB_of 1 hts (zgood kw_43) rfl rfl rfl (hts _ kw_3) (hts _ kw_173) (by decide +kernel) ⟨Nat.le_of_ble_eq_true rfl, Nat.le_of_ble_eq_true rfl⟩, rfl, hts _ kw_42⟩) (zPreS hPc hK hN hDc) rfl rfl hl.1 rfl (lv_room (Nat.le_of_ble_eq_true rfl)) d_Terms_init_28 ⟨hkc, hks⟩) hS (fun q _ h => hFc q h) hFc (fun u t H1 locs ht hvm hw hB hz1 hk1 hS => ?_)
  obtain ⟨x1_4, hP1, hD1⟩ := hB
  rw [ht] at hP1
  obtain ⟨hP, hD⟩ := va_join (wr := [(h0, .inr (4, [.ref q_1, .int 0, .ref q_2, .int 0, .int 0, .int 0, .int 0, .int 0, .null])), (q_1, .inl (cI, 1792, .inl (fun _ => 0))), (q_2, .inl (cI, 768, .inl (fun _ => 0)))]) (w1 := [(q_3, .inr (0, [.int 1, .ref x1_4, .int 0])), (x1_4, .inl (cI, 16, .inl (fun _ => 0)))]) hP hD [3] [0, 1, 2] rfl rfl (by decide +kernel) (by decide +kernel) hk1 hFc hP1 hD1
  generalize H1 = H at hP hS ⊢
  have hP : va_P D zcl [(h0, .inr (4, [.ref q_1, .int 0, .ref q_2, .int 0, .int 0, .int 0, .int 0, .int 0, .null])), (q_1, .inl (cI, 1792, .inl (fun _ => 0))), (q_2, .inl (cI, 768, .inl (fun _ => 0))), (q_3, .inr (0, [.int 1, .ref x1_4, .int 0])), (x1_4, .inl (cI, 16, .inl (fun _ => 0)))] H := hP
  have hD : va_D A [(h0, .inr (4, [.ref q_1, .int 0, .ref q_2, .int 0, .int 0, .int 0, .int 0, .int 0, .null])), (q_1, .inl (cI, 1792, .inl (fun _ => 0))), (q_2, .inl (cI, 768, .inl (fun _ => 0))), (q_3, .inr (0, [.int 1, .ref x1_4, .int 0])), (x1_4, .inl (cI, 16, .inl (fun _ => 0)))] := hD
  refine W.widen (k := 4) (n := 2579) (by omega) (by omega) ?_
  refine va_putF (D := D) (ci := 4) (v := .ref q_3) (ty := (.object "ProofDesk$Pile")) (C := "ProofDesk$Terms") (T := F_Terms) (N := 9) hx hb hts in_Terms t_Terms t_Terms_ok n_Terms hown hK hP hD hS 0 rfl rfl 8 (by decide) (hts _ kw_187) (fun _ h9 => h9) rfl hin rfl (by decide +kernel) rfl rfl (Nat.le_of_ble_eq_true rfl) d_Terms_init_31 (fun H locs hP hD hS => ?_)
  have hP : va_P D zcl [(h0, .inr (4, [.ref q_1, .int 0, .ref q_2, .int 0, .int 0, .int 0, .int 0, .int 0, .ref q_3])), (q_1, .inl (cI, 1792, .inl (fun _ => 0))), (q_2, .inl (cI, 768, .inl (fun _ => 0))), (q_3, .inr (0, [.int 1, .ref x1_4, .int 0])), (x1_4, .inl (cI, 16, .inl (fun _ => 0)))] H := hP
  have hD : va_D A [(h0, .inr (4, [.ref q_1, .int 0, .ref q_2, .int 0, .int 0, .int 0, .int 0, .int 0, .ref q_3])), (q_1, .inl (cI, 1792, .inl (fun _ => 0))), (q_2, .inl (cI, 768, .inl (fun _ => 0))), (q_3, .inr (0, [.int 1, .ref x1_4, .int 0])), (x1_4, .inl (cI, 16, .inl (fun _ => 0)))] := hD
  have hP9 := hP.sub (ws' := [(h0, .inr (4, [.ref q_1, .int 0, .ref q_2, .int 0, .int 0, .int 0, .int 0, .int 0, .ref q_3])), (q_1, .inl (cI, 1792, .inl (fun _ => 0))), (q_2, .inl (cI, 768, .inl (fun _ => 0))), (q_3, .inr (0, [.int 1, .ref x1_4, .int 0])), (x1_4, .inl (cI, 16, .inl (fun _ => 0)))]) [0, 1, 2, 3, 4] rfl
  have hD9 := hD.sub (ws' := [(h0, .inr (4, [.ref q_1, .int 0, .ref q_2, .int 0, .int 0, .int 0, .int 0, .int 0, .ref q_3])), (q_1, .inl (cI, 1792, .inl (fun _ => 0))), (q_2, .inl (cI, 768, .inl (fun _ => 0))), (q_3, .inr (0, [.int 1, .ref x1_4, .int 0])), (x1_4, .inl (cI, 16, .inl (fun _ => 0)))]) [0, 1, 2, 3, 4] (by decide +kernel) rfl
  refine W.widen (k := 4) (n := 2579) (by omega) (by omega) ?_
  exact W.vret hx hb hr (fun t ht hW => ⟨⟨(), rfl, trivial, q_1, q_2, q_3, x1_4, by rw [ht]; exact hP9, hD9⟩, hS.F ht⟩) hS.2.2 d_Terms_init_34
abbrev b_Shelf_init : ByteArray := prog_10_method_1_code
abbrev y_Shelf_init : MethodName := ⟨"ProofDesk$Shelf", "<init>", "(LProofDesk$Names;LProofDesk$Terms;)V"⟩
theorem d_Shelf_init_0 : decode b_Shelf_init 0 = .ok (.aload_n 0, 1) := by decide +kernel
theorem d_Shelf_init_1 : decode b_Shelf_init 1 = .ok (.invokespecial 3, 3) := by decide +kernel
theorem kw_210 : (Jvm.Cond.methodLink "ProofDesk$Shelf" (3 : Nat) ({ cls := "java/lang/Object", name := "<init>", desc := "()V" } : Jvm.MethodName)) ∈ zw := List.mem_filter.mpr ⟨List.mem_append_right _ (List.mem_of_getElem? (i := 210) (by decide +kernel)), by decide +kernel⟩
theorem d_Shelf_init_4 : decode b_Shelf_init 4 = .ok (.aload_n 0, 1) := by decide +kernel
theorem d_Shelf_init_5 : decode b_Shelf_init 5 = .ok (.sipush 320, 3) := by decide +kernel
theorem d_Shelf_init_8 : decode b_Shelf_init 8 = .ok (.newarray .int, 2) := by decide +kernel
theorem d_Shelf_init_10 : decode b_Shelf_init 10 = .ok (.putfield 11, 3) := by decide +kernel
theorem kw_219 : (Jvm.Cond.fieldLink "ProofDesk$Shelf" (11 : Nat) "ProofDesk$Shelf" "rows" "[I") ∈ zw := List.mem_filter.mpr ⟨List.mem_append_right _ (List.mem_of_getElem? (i := 219) (by decide +kernel)), by decide +kernel⟩
theorem d_Shelf_init_13 : decode b_Shelf_init 13 = .ok (.aload_n 0, 1) := by decide +kernel
theorem d_Shelf_init_14 : decode b_Shelf_init 14 = .ok (.new 15, 3) := by decide +kernel
theorem kw_211 : (Jvm.Cond.classLink "ProofDesk$Shelf" (15 : Nat) "ProofDesk$Pile") ∈ zw := List.mem_filter.mpr ⟨List.mem_append_right _ (List.mem_of_getElem? (i := 211) (by decide +kernel)), by decide +kernel⟩
theorem d_Shelf_init_17 : decode b_Shelf_init 17 = .ok (.dup, 1) := by decide +kernel
theorem d_Shelf_init_18 : decode b_Shelf_init 18 = .ok (.iconst 1, 1) := by decide +kernel
theorem d_Shelf_init_19 : decode b_Shelf_init 19 = .ok (.invokespecial 17, 3) := by decide +kernel
theorem kw_212 : (Jvm.Cond.methodLink "ProofDesk$Shelf" (17 : Nat) ({ cls := "ProofDesk$Pile", name := "<init>", desc := "(I)V" } : Jvm.MethodName)) ∈ zw := List.mem_filter.mpr ⟨List.mem_append_right _ (List.mem_of_getElem? (i := 212) (by decide +kernel)), by decide +kernel⟩
theorem d_Shelf_init_22 : decode b_Shelf_init 22 = .ok (.putfield 20, 3) := by decide +kernel
theorem kw_225 : (Jvm.Cond.fieldLink "ProofDesk$Shelf" (20 : Nat) "ProofDesk$Shelf" "calls" "LProofDesk$Pile;") ∈ zw := List.mem_filter.mpr ⟨List.mem_append_right _ (List.mem_of_getElem? (i := 225) (by decide +kernel)), by decide +kernel⟩
theorem d_Shelf_init_25 : decode b_Shelf_init 25 = .ok (.aload_n 0, 1) := by decide +kernel
theorem d_Shelf_init_26 : decode b_Shelf_init 26 = .ok (.bipush 16, 2) := by decide +kernel
theorem d_Shelf_init_28 : decode b_Shelf_init 28 = .ok (.newarray .boolean, 2) := by decide +kernel
theorem kw_253 : (Jvm.Cond.arrayClass Jvm.ClassFile.FieldType.boolean) ∈ zw := List.mem_filter.mpr ⟨List.mem_append_right _ (List.mem_of_getElem? (i := 253) (by decide +kernel)), by decide +kernel⟩
theorem d_Shelf_init_30 : decode b_Shelf_init 30 = .ok (.putfield 24, 3) := by decide +kernel
theorem kw_226 : (Jvm.Cond.fieldLink "ProofDesk$Shelf" (24 : Nat) "ProofDesk$Shelf" "reached" "[Z") ∈ zw := List.mem_filter.mpr ⟨List.mem_append_right _ (List.mem_of_getElem? (i := 226) (by decide +kernel)), by decide +kernel⟩
theorem d_Shelf_init_33 : decode b_Shelf_init 33 = .ok (.aload_n 0, 1) := by decide +kernel
theorem d_Shelf_init_34 : decode b_Shelf_init 34 = .ok (.bipush 16, 2) := by decide +kernel
theorem d_Shelf_init_36 : decode b_Shelf_init 36 = .ok (.newarray .boolean, 2) := by decide +kernel
theorem d_Shelf_init_38 : decode b_Shelf_init 38 = .ok (.putfield 28, 3) := by decide +kernel
theorem kw_227 : (Jvm.Cond.fieldLink "ProofDesk$Shelf" (28 : Nat) "ProofDesk$Shelf" "searched" "[Z") ∈ zw := List.mem_filter.mpr ⟨List.mem_append_right _ (List.mem_of_getElem? (i := 227) (by decide +kernel)), by decide +kernel⟩
theorem d_Shelf_init_41 : decode b_Shelf_init 41 = .ok (.aload_n 0, 1) := by decide +kernel
theorem d_Shelf_init_42 : decode b_Shelf_init 42 = .ok (.new 15, 3) := by decide +kernel
theorem d_Shelf_init_45 : decode b_Shelf_init 45 = .ok (.dup, 1) := by decide +kernel
theorem d_Shelf_init_46 : decode b_Shelf_init 46 = .ok (.iconst 1, 1) := by decide +kernel
theorem d_Shelf_init_47 : decode b_Shelf_init 47 = .ok (.invokespecial 17, 3) := by decide +kernel
theorem d_Shelf_init_50 : decode b_Shelf_init 50 = .ok (.putfield 31, 3) := by decide +kernel
theorem kw_228 : (Jvm.Cond.fieldLink "ProofDesk$Shelf" (31 : Nat) "ProofDesk$Shelf" "open" "LProofDesk$Pile;") ∈ zw := List.mem_filter.mpr ⟨List.mem_append_right _ (List.mem_of_getElem? (i := 228) (by decide +kernel)), by decide +kernel⟩
theorem d_Shelf_init_53 : decode b_Shelf_init 53 = .ok (.aload_n 0, 1) := by decide +kernel
theorem d_Shelf_init_54 : decode b_Shelf_init 54 = .ok (.new 15, 3) := by decide +kernel
theorem d_Shelf_init_57 : decode b_Shelf_init 57 = .ok (.dup, 1) := by decide +kernel
theorem d_Shelf_init_58 : decode b_Shelf_init 58 = .ok (.iconst 1, 1) := by decide +kernel
theorem d_Shelf_init_59 : decode b_Shelf_init 59 = .ok (.invokespecial 17, 3) := by decide +kernel
theorem d_Shelf_init_62 : decode b_Shelf_init 62 = .ok (.putfield 34, 3) := by decide +kernel
theorem kw_229 : (Jvm.Cond.fieldLink "ProofDesk$Shelf" (34 : Nat) "ProofDesk$Shelf" "list" "LProofDesk$Pile;") ∈ zw := List.mem_filter.mpr ⟨List.mem_append_right _ (List.mem_of_getElem? (i := 229) (by decide +kernel)), by decide +kernel⟩
theorem d_Shelf_init_65 : decode b_Shelf_init 65 = .ok (.aload_n 0, 1) := by decide +kernel
theorem d_Shelf_init_66 : decode b_Shelf_init 66 = .ok (.aload_n 1, 1) := by decide +kernel
theorem d_Shelf_init_67 : decode b_Shelf_init 67 = .ok (.putfield 37, 3) := by decide +kernel
theorem kw_213 : (Jvm.Cond.fieldLink "ProofDesk$Shelf" (37 : Nat) "ProofDesk$Shelf" "names" "LProofDesk$Names;") ∈ zw := List.mem_filter.mpr ⟨List.mem_append_right _ (List.mem_of_getElem? (i := 213) (by decide +kernel)), by decide +kernel⟩
theorem d_Shelf_init_70 : decode b_Shelf_init 70 = .ok (.aload_n 0, 1) := by decide +kernel
theorem d_Shelf_init_71 : decode b_Shelf_init 71 = .ok (.aload_n 2, 1) := by decide +kernel
theorem d_Shelf_init_72 : decode b_Shelf_init 72 = .ok (.putfield 41, 3) := by decide +kernel
theorem kw_217 : (Jvm.Cond.fieldLink "ProofDesk$Shelf" (41 : Nat) "ProofDesk$Shelf" "terms" "LProofDesk$Terms;") ∈ zw := List.mem_filter.mpr ⟨List.mem_append_right _ (List.mem_of_getElem? (i := 217) (by decide +kernel)), by decide +kernel⟩
theorem d_Shelf_init_75 : decode b_Shelf_init 75 = .ok (.aload_n 0, 1) := by decide +kernel
theorem d_Shelf_init_76 : decode b_Shelf_init 76 = .ok (.aload_n 1, 1) := by decide +kernel
theorem d_Shelf_init_77 : decode b_Shelf_init 77 = .ok (.getfield 45, 3) := by decide +kernel
theorem kw_147 : (Jvm.Cond.fieldLinkNest "ProofDesk$Shelf" (45 : Nat) "ProofDesk$Names" "count" "I" "ProofDesk") ∈ zn := List.mem_filter.mpr ⟨List.mem_append_right _ (List.mem_of_getElem? (i := 147) (by decide +kernel)), by decide +kernel⟩
theorem d_Shelf_init_80 : decode b_Shelf_init 80 = .ok (.putfield 51, 3) := by decide +kernel
theorem kw_224 : (Jvm.Cond.fieldLink "ProofDesk$Shelf" (51 : Nat) "ProofDesk$Shelf" "keptNames" "I") ∈ zw := List.mem_filter.mpr ⟨List.mem_append_right _ (List.mem_of_getElem? (i := 224) (by decide +kernel)), by decide +kernel⟩
theorem d_Shelf_init_83 : decode b_Shelf_init 83 = .ok (.return_, 1) := by decide +kernel
set_option maxHeartbeats 4000000 in
set_option maxRecDepth 100000 in
theorem c_Shelf_init (l : Launch) (D : va_G) (cI cB cZ cS : ClassId) (sz : Nat) (h0 : Nat) (nm : Nat) (tm : Nat) (cn : Int32) (nm_0 : Value) (nm_1 : Value) (nm_2 : Value) (nm_3 : Value) (nm_5 : Value) : Met l y_Shelf_init (zc y_Shelf_init b_Shelf_init 3 none) ({ frames := 2, cells := 9, slots := 409, locals := 33 }) (zPc D (zty cI cB cZ cS) [(h0, .inr (5, [.null, .null, .null, .int 0, .int 0, .int 0, .null, .null, .null, .null, .null])), (nm, .inr (2, [nm_0, nm_1, nm_2, nm_3, .int cn, nm_5]))] sz [.ref h0, .ref nm, .ref tm]) (va_Qv (fun _ : Unit => True) (fun _ t => ∃ x1 x2 x3 x4 x5 x6 x7 x8 x9 : Nat, va_P D zcl [(h0, .inr (5, [.ref nm, .ref tm, .ref x1, .int 0, .int 0, .int cn, .ref x2, .ref x4, .ref x5, .ref x6, .ref x8])), (nm, .inr (2, [nm_0, nm_1, nm_2, nm_3, .int cn, nm_5])), (x1, .inl (cI, 320, .inl (fun _ => 0))), (x2, .inr (0, [.int 1, .ref x3, .int 0])), (x3, .inl (cI, 16, .inl (fun _ => 0))), (x4, .inl (cZ, 16, .inl (fun _ => 0))), (x5, .inl (cZ, 16, .inl (fun _ => 0))), (x6, .inr (0, [.int 1, .ref x7, .int 0])), (x7, .inl (cI, 16, .inl (fun _ => 0))), (x8, .inr (0, [.int 1, .ref x9, .int 0])), (x9, .inl (cI, 16, .inl (fun _ => 0)))] t.heap ∧ va_D (va_A [(h0, .inr (5, [.null, .null, .null, .int 0, .int 0, .int 0, .null, .null, .null, .null, .null])), (nm, .inr (2, [nm_0, nm_1, nm_2, nm_3, .int cn, nm_5]))] sz) [(h0, .inr (5, [.ref nm, .ref tm, .ref x1, .int 0, .int 0, .int cn, .ref x2, .ref x4, .ref x5, .ref x6, .ref x8])), (nm, .inr (2, [nm_0, nm_1, nm_2, nm_3, .int cn, nm_5])), (x1, .inl (cI, 320, .inl (fun _ => 0))), (x2, .inr (0, [.int 1, .ref x3, .int 0])), (x3, .inl (cI, 16, .inl (fun _ => 0))), (x4, .inl (cZ, 16, .inl (fun _ => 0))), (x5, .inl (cZ, 16, .inl (fun _ => 0))), (x6, .inr (0, [.int 1, .ref x7, .int 0])), (x7, .inl (cI, 16, .inl (fun _ => 0))), (x8, .inr (0, [.int 1, .ref x9, .int 0])), (x9, .inl (cI, 16, .inl (fun _ => 0)))]) (va_A [(h0, .inr (5, [.null, .null, .null, .int 0, .int 0, .int 0, .null, .null, .null, .null, .null])), (nm, .inr (2, [nm_0, nm_1, nm_2, nm_3, .int cn, nm_5]))] sz)) 9 409 (va_A [(h0, .inr (5, [.null, .null, .null, .int 0, .int 0, .int 0, .null, .null, .null, .null, .null])), (nm, .inr (2, [nm_0, nm_1, nm_2, nm_3, .int cn, nm_5]))] sz) := by
  refine Met.ofW (cc := b_Shelf_init) (maxL := 3) (ret := none) (by decide) rfl ?_
  intro p e s m args below meth c s₁ B hml hv
  obtain ⟨rfl, hsz, hP, ⟨hK, hN⟩, hD0⟩ := hv
  have hx := B.exec
  have hb := B.bytes
  have hr := B.returns
  have hts0 := atoms_spec (ws := zc y_Shelf_init b_Shelf_init 3 none) B.pre
  have hts : ∀ w ∈ zw, w.before _ s = true := fun w hw => hts0 w (List.mem_cons_of_mem _ hw)
  have hown : s.vm.findClass "ProofDesk$Shelf" = some m.cls := findClass_of_methodNamed B.named
  have hlocks := B.notSynchronized
  have hin : meth.name = "<init>" := (name_of_methodNamed B.named B.method).1
  subst hsz
  have hD := hD0.self (sz := s.heap.size)
  generalize hAe : va_A [(h0, .inr (5, [.null, .null, .null, .int 0, .int 0, .int 0, .null, .null, .null, .null, .null])), (nm, .inr (2, [nm_0, nm_1, nm_2, nm_3, .int cn, nm_5]))] s.heap.size = A at hD ⊢
  have hA : ∀ q : Nat, s.heap.size ≤ q → A q := fun q h => by rw [← hAe]; exact Or.inr h
  have hS : va_S A s.heap s.heap [] := va_S.rf
  have hP : va_P D zcl [(h0, .inr (5, [.null, .null, .null, .int 0, .int 0, .int 0, .null, .null, .null, .null, .null])), (nm, .inr (2, [nm_0, nm_1, nm_2, nm_3, .int cn, nm_5]))] s.heap := hP
  have hl := lv_entry ([.ref h0, .ref nm, .ref tm]) (n := 3) (Nat.le_of_ble_eq_true rfl)
  rw [lg_entry_eq]
  generalize (lg_sl ([.ref h0, .ref nm, .ref tm]) ++ List.replicate (3 - (lg_sl ([.ref h0, .ref nm, .ref tm])).length) Slot.unset).toArray = ls at hl ⊢
  have hl : lv_has ls 3 [(0, .ref h0), (1, .ref nm), (2, .ref tm)] := hl
  refine lv_aload_n hx hb d_Shelf_init_0 rfl (lv_at hl 0 rfl) ?_
  refine W.objInit hx hb hown (hts _ kw_210) (hts _ kw_31) (hts _ kw_32) rfl (by rw [hml]; exact hl.1) rfl d_Shelf_init_1 (Nat.le_of_ble_eq_true rfl) (Nat.le_of_ble_eq_true rfl) ?_
  refine W.eq (g2 := F0 m 4 ls []) rfl ?_
  refine lv_aload_n hx hb d_Shelf_init_4 rfl (lv_at hl 0 rfl) ?_
  refine lv_sipush (v := 320) hx hb d_Shelf_init_5 (by decide) ?_
  have hkc : 0 + 1 ≤ 9 := by omega
  have hks : 0 + 320 ≤ 409 := by omega
  refine zz_newa (atype := .int) (ty := .int) (cA := cI) (a0 := (320, .inl (fun _ => 0))) (N' := 320) hx hb (hts _ kw_64) rfl hK hP hD hS hA 0 rfl (fun _ => rfl) (by decide +kernel) (by decide +kernel) (by decide) hkc hks d_Shelf_init_8 (fun q_1 H hP hD hS => ?_)
  have hP : va_P D zcl [(h0, .inr (5, [.null, .null, .null, .int 0, .int 0, .int 0, .null, .null, .null, .null, .null])), (nm, .inr (2, [nm_0, nm_1, nm_2, nm_3, .int cn, nm_5])), (q_1, .inl (cI, 320, .inl (fun _ => 0)))] H := hP
  have hD : va_D A [(h0, .inr (5, [.null, .null, .null, .int 0, .int 0, .int 0, .null, .null, .null, .null, .null])), (nm, .inr (2, [nm_0, nm_1, nm_2, nm_3, .int cn, nm_5])), (q_1, .inl (cI, 320, .inl (fun _ => 0)))] := hD
  refine W.widen (k := 1) (n := 320) (by omega) (by omega) ?_
  refine va_put (D := D) (ci := 5) (v := .ref q_1) (ty := (.array .int)) (C := "ProofDesk$Shelf") (T := F_Shelf) (N := 11) hx hb hts in_Shelf t_Shelf t_Shelf_ok n_Shelf hown hK hP hD hS 0 rfl rfl 2 (by decide) (hts _ kw_219) (fun _ h9 => h9) rfl (by decide +kernel) rfl rfl (Nat.le_of_ble_eq_true rfl) d_Shelf_init_10 (fun H locs hP hD hS => ?_)
  have hP : va_P D zcl [(h0, .inr (5, [.null, .null, .ref q_1, .int 0, .int 0, .int 0, .null, .null, .null, .null, .null])), (nm, .inr (2, [nm_0, nm_1, nm_2, nm_3, .int cn, nm_5])), (q_1, .inl (cI, 320, .inl (fun _ => 0)))] H := hP
  have hD : va_D A [(h0, .inr (5, [.null, .null, .ref q_1, .int 0, .int 0, .int 0, .null, .null, .null, .null, .null])), (nm, .inr (2, [nm_0, nm_1, nm_2, nm_3, .int cn, nm_5])), (q_1, .inl (cI, 320, .inl (fun _ => 0)))] := hD
  refine lv_aload_n hx hb d_Shelf_init_13 rfl (lv_at hl 0 rfl) ?_
  have hkc : 1 + 1 ≤ 9 := by omega
  have hks : 320 + 3 ≤ 409 := by omega
  refine va_new (ci := 0) (fs := z0f_Pile) (C := "ProofDesk$Pile") (T := F_Pile) (N := 3) hx hb hts in_Pile t_Pile t_Pile_ok hown (hts _ kw_211) (hts _ kw_40) (hts _ kw_3) hK hP hD hS hA rfl z0_Pile hkc hks d_Shelf_init_14 (fun q_2 H hP hD hS => ?_)
  have hP : va_P D zcl [(h0, .inr (5, [.null, .null, .ref q_1, .int 0, .int 0, .int 0, .null, .null, .null, .null, .null])), (nm, .inr (2, [nm_0, nm_1, nm_2, nm_3, .int cn, nm_5])), (q_1, .inl (cI, 320, .inl (fun _ => 0))), (q_2, .inr (0, [.int 0, .null, .int 0]))] H := hP
  have hD : va_D A [(h0, .inr (5, [.null, .null, .ref q_1, .int 0, .int 0, .int 0, .null, .null, .null, .null, .null])), (nm, .inr (2, [nm_0, nm_1, nm_2, nm_3, .int cn, nm_5])), (q_1, .inl (cI, 320, .inl (fun _ => 0))), (q_2, .inr (0, [.int 0, .null, .int 0]))] := hD
  refine W.widen (k := 2) (n := 323) (by omega) (by omega) ?_
  refine lv_dup hx hb d_Shelf_init_17 rfl ?_
  refine lv_iconst (v := 1) hx hb d_Shelf_init_18 (by decide) ?_
  have hPc := hP.sub (ws' := [(q_2, .inr (0, [.int 0, .null, .int 0]))]) [3] rfl
  have hDc := hD.sub (ws' := [(q_2, .inr (0, [.int 0, .null, .int 0]))]) [3] (by decide +kernel) rfl
  have hFc := va_free (wc := [(q_2, .inr (0, [.int 0, .null, .int 0]))]) hD hS hA [3] rfl
  have hkc : 2 + 1 ≤ 9 := by omega
  have hks : 323 + 16 ≤ 409 := by omega
  refine va_callv (va_runI (As := [.int 1]) (rest := [.ref q_2, .ref h0]) ⟨hx, hb, hml, hown, hts⟩ (c_Pile_init1 l D cI cB cZ cS H.size q_2) (⟨callB_of 1 hts (zgood kw_43) rfl rfl rfl (hts _ kw_3) (hts _ kw_212) (by decide +kernel) ⟨Nat.le_of_ble_eq_true rfl, Nat.le_of_ble_eq_true rfl⟩, rfl, hts _ kw_42⟩) (zPreS hPc hK hN hDc) rfl rfl hl.1 rfl (lv_room (Nat.le_of_ble_eq_true rfl)) d_Shelf_init_19 ⟨hkc, hks⟩) hS (fun q _ h => hFc q h) hFc (fun u t H1 locs ht hvm hw hB hz1 hk1 hS => ?_)
  obtain ⟨x1_3, hP1, hD1⟩ := hB
  rw [ht] at hP1
  obtain ⟨hP, hD⟩ := va_join (wr := [(h0, .inr (5, [.null, .null, .ref q_1, .int 0, .int 0, .int 0, .null, .null, .null, .null, .null])), (nm, .inr (2, [nm_0, nm_1, nm_2, nm_3, .int cn, nm_5])), (q_1, .inl (cI, 320, .inl (fun _ => 0)))]) (w1 := [(q_2, .inr (0, [.int 1, .ref x1_3, .int 0])), (x1_3, .inl (cI, 16, .inl (fun _ => 0)))]) hP hD [3] [0, 1, 2] rfl rfl (by decide +kernel) (by decide +kernel) hk1 hFc hP1 hD1
  generalize H1 = H at hP hS ⊢
  have hP : va_P D zcl [(h0, .inr (5, [.null, .null, .ref q_1, .int 0, .int 0, .int 0, .null, .null, .null, .null, .null])), (nm, .inr (2, [nm_0, nm_1, nm_2, nm_3, .int cn, nm_5])), (q_1, .inl (cI, 320, .inl (fun _ => 0))), (q_2, .inr (0, [.int 1, .ref x1_3, .int 0])), (x1_3, .inl (cI, 16, .inl (fun _ => 0)))] H := hP
  have hD : va_D A [(h0, .inr (5, [.null, .null, .ref q_1, .int 0, .int 0, .int 0, .null, .null, .null, .null, .null])), (nm, .inr (2, [nm_0, nm_1, nm_2, nm_3, .int cn, nm_5])), (q_1, .inl (cI, 320, .inl (fun _ => 0))), (q_2, .inr (0, [.int 1, .ref x1_3, .int 0])), (x1_3, .inl (cI, 16, .inl (fun _ => 0)))] := hD
  refine W.widen (k := 3) (n := 339) (by omega) (by omega) ?_
  refine va_putF (D := D) (ci := 5) (v := .ref q_2) (ty := (.object "ProofDesk$Pile")) (C := "ProofDesk$Shelf") (T := F_Shelf) (N := 11) hx hb hts in_Shelf t_Shelf t_Shelf_ok n_Shelf hown hK hP hD hS 0 rfl rfl 6 (by decide) (hts _ kw_225) (fun _ h9 => h9) rfl hin rfl (by decide +kernel) rfl rfl (Nat.le_of_ble_eq_true rfl) d_Shelf_init_22 (fun H locs hP hD hS => ?_)
  have hP : va_P D zcl [(h0, .inr (5, [.null, .null, .ref q_1, .int 0, .int 0, .int 0, .ref q_2, .null, .null, .null, .null])), (nm, .inr (2, [nm_0, nm_1, nm_2, nm_3, .int cn, nm_5])), (q_1, .inl (cI, 320, .inl (fun _ => 0))), (q_2, .inr (0, [.int 1, .ref x1_3, .int 0])), (x1_3, .inl (cI, 16, .inl (fun _ => 0)))] H := hP
  have hD : va_D A [(h0, .inr (5, [.null, .null, .ref q_1, .int 0, .int 0, .int 0, .ref q_2, .null, .null, .null, .null])), (nm, .inr (2, [nm_0, nm_1, nm_2, nm_3, .int cn, nm_5])), (q_1, .inl (cI, 320, .inl (fun _ => 0))), (q_2, .inr (0, [.int 1, .ref x1_3, .int 0])), (x1_3, .inl (cI, 16, .inl (fun _ => 0)))] := hD
  refine lv_aload_n hx hb d_Shelf_init_25 rfl (lv_at hl 0 rfl) ?_
  refine lv_bipush (v := 16) hx hb d_Shelf_init_26 (by decide) ?_
  have hkc : 3 + 1 ≤ 9 := by omega
  have hks : 339 + 16 ≤ 409 := by omega
  refine zz_newa (atype := .boolean) (ty := .boolean) (cA := cZ) (a0 := (16, .inl (fun _ => 0))) (N' := 16) hx hb (hts _ kw_253) rfl hK hP hD hS hA 2 rfl (fun _ => rfl) (by decide +kernel) (by decide +kernel) (by decide) hkc hks d_Shelf_init_28 (fun q_4 H hP hD hS => ?_)
  have hP : va_P D zcl [(h0, .inr (5, [.null, .null, .ref q_1, .int 0, .int 0, .int 0, .ref q_2, .null, .null, .null, .null])), (nm, .inr (2, [nm_0, nm_1, nm_2, nm_3, .int cn, nm_5])), (q_1, .inl (cI, 320, .inl (fun _ => 0))), (q_2, .inr (0, [.int 1, .ref x1_3, .int 0])), (x1_3, .inl (cI, 16, .inl (fun _ => 0))), (q_4, .inl (cZ, 16, .inl (fun _ => 0)))] H := hP
  have hD : va_D A [(h0, .inr (5, [.null, .null, .ref q_1, .int 0, .int 0, .int 0, .ref q_2, .null, .null, .null, .null])), (nm, .inr (2, [nm_0, nm_1, nm_2, nm_3, .int cn, nm_5])), (q_1, .inl (cI, 320, .inl (fun _ => 0))), (q_2, .inr (0, [.int 1, .ref x1_3, .int 0])), (x1_3, .inl (cI, 16, .inl (fun _ => 0))), (q_4, .inl (cZ, 16, .inl (fun _ => 0)))] := hD
  refine W.widen (k := 4) (n := 355) (by omega) (by omega) ?_
  refine va_put (D := D) (ci := 5) (v := .ref q_4) (ty := (.array .boolean)) (C := "ProofDesk$Shelf") (T := F_Shelf) (N := 11) hx hb hts in_Shelf t_Shelf t_Shelf_ok n_Shelf hown hK hP hD hS 0 rfl rfl 7 (by decide) (hts _ kw_226) (fun _ h9 => h9) rfl (by decide +kernel) rfl rfl (Nat.le_of_ble_eq_true rfl) d_Shelf_init_30 (fun H locs hP hD hS => ?_)
  have hP : va_P D zcl [(h0, .inr (5, [.null, .null, .ref q_1, .int 0, .int 0, .int 0, .ref q_2, .ref q_4, .null, .null, .null])), (nm, .inr (2, [nm_0, nm_1, nm_2, nm_3, .int cn, nm_5])), (q_1, .inl (cI, 320, .inl (fun _ => 0))), (q_2, .inr (0, [.int 1, .ref x1_3, .int 0])), (x1_3, .inl (cI, 16, .inl (fun _ => 0))), (q_4, .inl (cZ, 16, .inl (fun _ => 0)))] H := hP
  have hD : va_D A [(h0, .inr (5, [.null, .null, .ref q_1, .int 0, .int 0, .int 0, .ref q_2, .ref q_4, .null, .null, .null])), (nm, .inr (2, [nm_0, nm_1, nm_2, nm_3, .int cn, nm_5])), (q_1, .inl (cI, 320, .inl (fun _ => 0))), (q_2, .inr (0, [.int 1, .ref x1_3, .int 0])), (x1_3, .inl (cI, 16, .inl (fun _ => 0))), (q_4, .inl (cZ, 16, .inl (fun _ => 0)))] := hD
  refine lv_aload_n hx hb d_Shelf_init_33 rfl (lv_at hl 0 rfl) ?_
  refine lv_bipush (v := 16) hx hb d_Shelf_init_34 (by decide) ?_
  have hkc : 4 + 1 ≤ 9 := by omega
  have hks : 355 + 16 ≤ 409 := by omega
  refine zz_newa (atype := .boolean) (ty := .boolean) (cA := cZ) (a0 := (16, .inl (fun _ => 0))) (N' := 16) hx hb (hts _ kw_253) rfl hK hP hD hS hA 2 rfl (fun _ => rfl) (by decide +kernel) (by decide +kernel) (by decide) hkc hks d_Shelf_init_36 (fun q_5 H hP hD hS => ?_)
  have hP : va_P D zcl [(h0, .inr (5, [.null, .null, .ref q_1, .int 0, .int 0, .int 0, .ref q_2, .ref q_4, .null, .null, .null])), (nm, .inr (2, [nm_0, nm_1, nm_2, nm_3, .int cn, nm_5])), (q_1, .inl (cI, 320, .inl (fun _ => 0))), (q_2, .inr (0, [.int 1, .ref x1_3, .int 0])), (x1_3, .inl (cI, 16, .inl (fun _ => 0))), (q_4, .inl (cZ, 16, .inl (fun _ => 0))), (q_5, .inl (cZ, 16, .inl (fun _ => 0)))] H := hP
  have hD : va_D A [(h0, .inr (5, [.null, .null, .ref q_1, .int 0, .int 0, .int 0, .ref q_2, .ref q_4, .null, .null, .null])), (nm, .inr (2, [nm_0, nm_1, nm_2, nm_3, .int cn, nm_5])), (q_1, .inl (cI, 320, .inl (fun _ => 0))), (q_2, .inr (0, [.int 1, .ref x1_3, .int 0])), (x1_3, .inl (cI, 16, .inl (fun _ => 0))), (q_4, .inl (cZ, 16, .inl (fun _ => 0))), (q_5, .inl (cZ, 16, .inl (fun _ => 0)))] := hD
  refine W.widen (k := 5) (n := 371) (by omega) (by omega) ?_
  refine va_put (D := D) (ci := 5) (v := .ref q_5) (ty := (.array .boolean)) (C := "ProofDesk$Shelf") (T := F_Shelf) (N := 11) hx hb hts in_Shelf t_Shelf t_Shelf_ok n_Shelf hown hK hP hD hS 0 rfl rfl 8 (by decide) (hts _ kw_227) (fun _ h9 => h9) rfl (by decide +kernel) rfl rfl (Nat.le_of_ble_eq_true rfl) d_Shelf_init_38 (fun H locs hP hD hS => ?_)
  have hP : va_P D zcl [(h0, .inr (5, [.null, .null, .ref q_1, .int 0, .int 0, .int 0, .ref q_2, .ref q_4, .ref q_5, .null, .null])), (nm, .inr (2, [nm_0, nm_1, nm_2, nm_3, .int cn, nm_5])), (q_1, .inl (cI, 320, .inl (fun _ => 0))), (q_2, .inr (0, [.int 1, .ref x1_3, .int 0])), (x1_3, .inl (cI, 16, .inl (fun _ => 0))), (q_4, .inl (cZ, 16, .inl (fun _ => 0))), (q_5, .inl (cZ, 16, .inl (fun _ => 0)))] H := hP
  have hD : va_D A [(h0, .inr (5, [.null, .null, .ref q_1, .int 0, .int 0, .int 0, .ref q_2, .ref q_4, .ref q_5, .null, .null])), (nm, .inr (2, [nm_0, nm_1, nm_2, nm_3, .int cn, nm_5])), (q_1, .inl (cI, 320, .inl (fun _ => 0))), (q_2, .inr (0, [.int 1, .ref x1_3, .int 0])), (x1_3, .inl (cI, 16, .inl (fun _ => 0))), (q_4, .inl (cZ, 16, .inl (fun _ => 0))), (q_5, .inl (cZ, 16, .inl (fun _ => 0)))] := hD
  refine lv_aload_n hx hb d_Shelf_init_41 rfl (lv_at hl 0 rfl) ?_
  have hkc : 5 + 1 ≤ 9 := by omega
  have hks : 371 + 3 ≤ 409 := by omega
  refine va_new (ci := 0) (fs := z0f_Pile) (C := "ProofDesk$Pile") (T := F_Pile) (N := 3) hx hb hts in_Pile t_Pile t_Pile_ok hown (hts _ kw_211) (hts _ kw_40) (hts _ kw_3) hK hP hD hS hA rfl z0_Pile hkc hks d_Shelf_init_42 (fun q_6 H hP hD hS => ?_)
  have hP : va_P D zcl [(h0, .inr (5, [.null, .null, .ref q_1, .int 0, .int 0, .int 0, .ref q_2, .ref q_4, .ref q_5, .null, .null])), (nm, .inr (2, [nm_0, nm_1, nm_2, nm_3, .int cn, nm_5])), (q_1, .inl (cI, 320, .inl (fun _ => 0))), (q_2, .inr (0, [.int 1, .ref x1_3, .int 0])), (x1_3, .inl (cI, 16, .inl (fun _ => 0))), (q_4, .inl (cZ, 16, .inl (fun _ => 0))), (q_5, .inl (cZ, 16, .inl (fun _ => 0))), (q_6, .inr (0, [.int 0, .null, .int 0]))] H := hP
  have hD : va_D A [(h0, .inr (5, [.null, .null, .ref q_1, .int 0, .int 0, .int 0, .ref q_2, .ref q_4, .ref q_5, .null, .null])), (nm, .inr (2, [nm_0, nm_1, nm_2, nm_3, .int cn, nm_5])), (q_1, .inl (cI, 320, .inl (fun _ => 0))), (q_2, .inr (0, [.int 1, .ref x1_3, .int 0])), (x1_3, .inl (cI, 16, .inl (fun _ => 0))), (q_4, .inl (cZ, 16, .inl (fun _ => 0))), (q_5, .inl (cZ, 16, .inl (fun _ => 0))), (q_6, .inr (0, [.int 0, .null, .int 0]))] := hD
  refine W.widen (k := 6) (n := 374) (by omega) (by omega) ?_
  refine lv_dup hx hb d_Shelf_init_45 rfl ?_
  refine lv_iconst (v := 1) hx hb d_Shelf_init_46 (by decide) ?_
  have hPc := hP.sub (ws' := [(q_6, .inr (0, [.int 0, .null, .int 0]))]) [7] rfl
  have hDc := hD.sub (ws' := [(q_6, .inr (0, [.int 0, .null, .int 0]))]) [7] (by decide +kernel) rfl
  have hFc := va_free (wc := [(q_6, .inr (0, [.int 0, .null, .int 0]))]) hD hS hA [7] rfl
  have hkc : 6 + 1 ≤ 9 := by omega
  have hks : 374 + 16 ≤ 409 := by omega
  refine va_callv (va_runI (As := [.int 1]) (rest := [.ref q_6, .ref h0]) ⟨hx, hb, hml, hown, hts⟩ (c_Pile_init1 l D cI cB cZ cS H.size q_6) (⟨callB_of 1 hts (zgood kw_43) rfl rfl rfl (hts _ kw_3) (hts _ kw_212) (by decide +kernel) ⟨Nat.le_of_ble_eq_true rfl, Nat.le_of_ble_eq_true rfl⟩, rfl, hts _ kw_42⟩) (zPreS hPc hK hN hDc) rfl rfl hl.1 rfl (lv_room (Nat.le_of_ble_eq_true rfl)) d_Shelf_init_47 ⟨hkc, hks⟩) hS (fun q _ h => hFc q h) hFc (fun u t H1 locs ht hvm hw hB hz1 hk1 hS => ?_)
  obtain ⟨x1_7, hP1, hD1⟩ := hB
  rw [ht] at hP1
  obtain ⟨hP, hD⟩ := va_join (wr := [(h0, .inr (5, [.null, .null, .ref q_1, .int 0, .int 0, .int 0, .ref q_2, .ref q_4, .ref q_5, .null, .null])), (nm, .inr (2, [nm_0, nm_1, nm_2, nm_3, .int cn, nm_5])), (q_1, .inl (cI, 320, .inl (fun _ => 0))), (q_2, .inr (0, [.int 1, .ref x1_3, .int 0])), (x1_3, .inl (cI, 16, .inl (fun _ => 0))), (q_4, .inl (cZ, 16, .inl (fun _ => 0))), (q_5, .inl (cZ, 16, .inl (fun _ => 0)))]) (w1 := [(q_6, .inr (0, [.int 1, .ref x1_7, .int 0])), (x1_7, .inl (cI, 16, .inl (fun _ => 0)))]) hP hD [7] [0, 1, 2, 3, 4, 5, 6] rfl rfl (by decide +kernel) (by decide +kernel) hk1 hFc hP1 hD1
  generalize H1 = H at hP hS ⊢
  have hP : va_P D zcl [(h0, .inr (5, [.null, .null, .ref q_1, .int 0, .int 0, .int 0, .ref q_2, .ref q_4, .ref q_5, .null, .null])), (nm, .inr (2, [nm_0, nm_1, nm_2, nm_3, .int cn, nm_5])), (q_1, .inl (cI, 320, .inl (fun _ => 0))), (q_2, .inr (0, [.int 1, .ref x1_3, .int 0])), (x1_3, .inl (cI, 16, .inl (fun _ => 0))), (q_4, .inl (cZ, 16, .inl (fun _ => 0))), (q_5, .inl (cZ, 16, .inl (fun _ => 0))), (q_6, .inr (0, [.int 1, .ref x1_7, .int 0])), (x1_7, .inl (cI, 16, .inl (fun _ => 0)))] H := hP
  have hD : va_D A [(h0, .inr (5, [.null, .null, .ref q_1, .int 0, .int 0, .int 0, .ref q_2, .ref q_4, .ref q_5, .null, .null])), (nm, .inr (2, [nm_0, nm_1, nm_2, nm_3, .int cn, nm_5])), (q_1, .inl (cI, 320, .inl (fun _ => 0))), (q_2, .inr (0, [.int 1, .ref x1_3, .int 0])), (x1_3, .inl (cI, 16, .inl (fun _ => 0))), (q_4, .inl (cZ, 16, .inl (fun _ => 0))), (q_5, .inl (cZ, 16, .inl (fun _ => 0))), (q_6, .inr (0, [.int 1, .ref x1_7, .int 0])), (x1_7, .inl (cI, 16, .inl (fun _ => 0)))] := hD
  refine W.widen (k := 7) (n := 390) (by omega) (by omega) ?_
  refine va_putF (D := D) (ci := 5) (v := .ref q_6) (ty := (.object "ProofDesk$Pile")) (C := "ProofDesk$Shelf") (T := F_Shelf) (N := 11) hx hb hts in_Shelf t_Shelf t_Shelf_ok n_Shelf hown hK hP hD hS 0 rfl rfl 9 (by decide) (hts _ kw_228) (fun _ h9 => h9) rfl hin rfl (by decide +kernel) rfl rfl (Nat.le_of_ble_eq_true rfl) d_Shelf_init_50 (fun H locs hP hD hS => ?_)
  have hP : va_P D zcl [(h0, .inr (5, [.null, .null, .ref q_1, .int 0, .int 0, .int 0, .ref q_2, .ref q_4, .ref q_5, .ref q_6, .null])), (nm, .inr (2, [nm_0, nm_1, nm_2, nm_3, .int cn, nm_5])), (q_1, .inl (cI, 320, .inl (fun _ => 0))), (q_2, .inr (0, [.int 1, .ref x1_3, .int 0])), (x1_3, .inl (cI, 16, .inl (fun _ => 0))), (q_4, .inl (cZ, 16, .inl (fun _ => 0))), (q_5, .inl (cZ, 16, .inl (fun _ => 0))), (q_6, .inr (0, [.int 1, .ref x1_7, .int 0])), (x1_7, .inl (cI, 16, .inl (fun _ => 0)))] H := hP
  have hD : va_D A [(h0, .inr (5, [.null, .null, .ref q_1, .int 0, .int 0, .int 0, .ref q_2, .ref q_4, .ref q_5, .ref q_6, .null])), (nm, .inr (2, [nm_0, nm_1, nm_2, nm_3, .int cn, nm_5])), (q_1, .inl (cI, 320, .inl (fun _ => 0))), (q_2, .inr (0, [.int 1, .ref x1_3, .int 0])), (x1_3, .inl (cI, 16, .inl (fun _ => 0))), (q_4, .inl (cZ, 16, .inl (fun _ => 0))), (q_5, .inl (cZ, 16, .inl (fun _ => 0))), (q_6, .inr (0, [.int 1, .ref x1_7, .int 0])), (x1_7, .inl (cI, 16, .inl (fun _ => 0)))] := hD
  refine lv_aload_n hx hb d_Shelf_init_53 rfl (lv_at hl 0 rfl) ?_
  have hkc : 7 + 1 ≤ 9 := by omega
  have hks : 390 + 3 ≤ 409 := by omega
  refine va_new (ci := 0) (fs := z0f_Pile) (C := "ProofDesk$Pile") (T := F_Pile) (N := 3) hx hb hts in_Pile t_Pile t_Pile_ok hown (hts _ kw_211) (hts _ kw_40) (hts _ kw_3) hK hP hD hS hA rfl z0_Pile hkc hks d_Shelf_init_54 (fun q_8 H hP hD hS => ?_)
  have hP : va_P D zcl [(h0, .inr (5, [.null, .null, .ref q_1, .int 0, .int 0, .int 0, .ref q_2, .ref q_4, .ref q_5, .ref q_6, .null])), (nm, .inr (2, [nm_0, nm_1, nm_2, nm_3, .int cn, nm_5])), (q_1, .inl (cI, 320, .inl (fun _ => 0))), (q_2, .inr (0, [.int 1, .ref x1_3, .int 0])), (x1_3, .inl (cI, 16, .inl (fun _ => 0))), (q_4, .inl (cZ, 16, .inl (fun _ => 0))), (q_5, .inl (cZ, 16, .inl (fun _ => 0))), (q_6, .inr (0, [.int 1, .ref x1_7, .int 0])), (x1_7, .inl (cI, 16, .inl (fun _ => 0))), (q_8, .inr (0, [.int 0, .null, .int 0]))] H := hP
  have hD : va_D A [(h0, .inr (5, [.null, .null, .ref q_1, .int 0, .int 0, .int 0, .ref q_2, .ref q_4, .ref q_5, .ref q_6, .null])), (nm, .inr (2, [nm_0, nm_1, nm_2, nm_3, .int cn, nm_5])), (q_1, .inl (cI, 320, .inl (fun _ => 0))), (q_2, .inr (0, [.int 1, .ref x1_3, .int 0])), (x1_3, .inl (cI, 16, .inl (fun _ => 0))), (q_4, .inl (cZ, 16, .inl (fun _ => 0))), (q_5, .inl (cZ, 16, .inl (fun _ => 0))), (q_6, .inr (0, [.int 1, .ref x1_7, .int 0])), (x1_7, .inl (cI, 16, .inl (fun _ => 0))), (q_8, .inr (0, [.int 0, .null, .int 0]))] := hD
  refine W.widen (k := 8) (n := 393) (by omega) (by omega) ?_
  refine lv_dup hx hb d_Shelf_init_57 rfl ?_
  refine lv_iconst (v := 1) hx hb d_Shelf_init_58 (by decide) ?_
  have hPc := hP.sub (ws' := [(q_8, .inr (0, [.int 0, .null, .int 0]))]) [9] rfl
  have hDc := hD.sub (ws' := [(q_8, .inr (0, [.int 0, .null, .int 0]))]) [9] (by decide +kernel) rfl
  have hFc := va_free (wc := [(q_8, .inr (0, [.int 0, .null, .int 0]))]) hD hS hA [9] rfl
  have hkc : 8 + 1 ≤ 9 := by omega
  have hks : 393 + 16 ≤ 409 := by omega
  refine va_callv (va_runI (As := [.int 1]) (rest := [.ref q_8, .ref h0]) ⟨hx, hb, hml, hown, hts⟩ (c_Pile_init1 l D cI cB cZ cS H.size q_8) (⟨callB_of 1 hts (zgood kw_43) rfl rfl rfl (hts _ kw_3) (hts _ kw_212) (by decide +kernel) ⟨Nat.le_of_ble_eq_true rfl, Nat.le_of_ble_eq_true rfl⟩, rfl, hts _ kw_42⟩) (zPreS hPc hK hN hDc) rfl rfl hl.1 rfl (lv_room (Nat.le_of_ble_eq_true rfl)) d_Shelf_init_59 ⟨hkc, hks⟩) hS (fun q _ h => hFc q h) hFc (fun u t H1 locs ht hvm hw hB hz1 hk1 hS => ?_)
  obtain ⟨x1_9, hP1, hD1⟩ := hB
  rw [ht] at hP1
  obtain ⟨hP, hD⟩ := va_join (wr := [(h0, .inr (5, [.null, .null, .ref q_1, .int 0, .int 0, .int 0, .ref q_2, .ref q_4, .ref q_5, .ref q_6, .null])), (nm, .inr (2, [nm_0, nm_1, nm_2, nm_3, .int cn, nm_5])), (q_1, .inl (cI, 320, .inl (fun _ => 0))), (q_2, .inr (0, [.int 1, .ref x1_3, .int 0])), (x1_3, .inl (cI, 16, .inl (fun _ => 0))), (q_4, .inl (cZ, 16, .inl (fun _ => 0))), (q_5, .inl (cZ, 16, .inl (fun _ => 0))), (q_6, .inr (0, [.int 1, .ref x1_7, .int 0])), (x1_7, .inl (cI, 16, .inl (fun _ => 0)))]) (w1 := [(q_8, .inr (0, [.int 1, .ref x1_9, .int 0])), (x1_9, .inl (cI, 16, .inl (fun _ => 0)))]) hP hD [9] [0, 1, 2, 3, 4, 5, 6, 7, 8] rfl rfl (by decide +kernel) (by decide +kernel) hk1 hFc hP1 hD1
  generalize H1 = H at hP hS ⊢
  have hP : va_P D zcl [(h0, .inr (5, [.null, .null, .ref q_1, .int 0, .int 0, .int 0, .ref q_2, .ref q_4, .ref q_5, .ref q_6, .null])), (nm, .inr (2, [nm_0, nm_1, nm_2, nm_3, .int cn, nm_5])), (q_1, .inl (cI, 320, .inl (fun _ => 0))), (q_2, .inr (0, [.int 1, .ref x1_3, .int 0])), (x1_3, .inl (cI, 16, .inl (fun _ => 0))), (q_4, .inl (cZ, 16, .inl (fun _ => 0))), (q_5, .inl (cZ, 16, .inl (fun _ => 0))), (q_6, .inr (0, [.int 1, .ref x1_7, .int 0])), (x1_7, .inl (cI, 16, .inl (fun _ => 0))), (q_8, .inr (0, [.int 1, .ref x1_9, .int 0])), (x1_9, .inl (cI, 16, .inl (fun _ => 0)))] H := hP
  have hD : va_D A [(h0, .inr (5, [.null, .null, .ref q_1, .int 0, .int 0, .int 0, .ref q_2, .ref q_4, .ref q_5, .ref q_6, .null])), (nm, .inr (2, [nm_0, nm_1, nm_2, nm_3, .int cn, nm_5])), (q_1, .inl (cI, 320, .inl (fun _ => 0))), (q_2, .inr (0, [.int 1, .ref x1_3, .int 0])), (x1_3, .inl (cI, 16, .inl (fun _ => 0))), (q_4, .inl (cZ, 16, .inl (fun _ => 0))), (q_5, .inl (cZ, 16, .inl (fun _ => 0))), (q_6, .inr (0, [.int 1, .ref x1_7, .int 0])), (x1_7, .inl (cI, 16, .inl (fun _ => 0))), (q_8, .inr (0, [.int 1, .ref x1_9, .int 0])), (x1_9, .inl (cI, 16, .inl (fun _ => 0)))] := hD
  refine W.widen (k := 9) (n := 409) (by omega) (by omega) ?_
  refine va_putF (D := D) (ci := 5) (v := .ref q_8) (ty := (.object "ProofDesk$Pile")) (C := "ProofDesk$Shelf") (T := F_Shelf) (N := 11) hx hb hts in_Shelf t_Shelf t_Shelf_ok n_Shelf hown hK hP hD hS 0 rfl rfl 10 (by decide) (hts _ kw_229) (fun _ h9 => h9) rfl hin rfl (by decide +kernel) rfl rfl (Nat.le_of_ble_eq_true rfl) d_Shelf_init_62 (fun H locs hP hD hS => ?_)
  have hP : va_P D zcl [(h0, .inr (5, [.null, .null, .ref q_1, .int 0, .int 0, .int 0, .ref q_2, .ref q_4, .ref q_5, .ref q_6, .ref q_8])), (nm, .inr (2, [nm_0, nm_1, nm_2, nm_3, .int cn, nm_5])), (q_1, .inl (cI, 320, .inl (fun _ => 0))), (q_2, .inr (0, [.int 1, .ref x1_3, .int 0])), (x1_3, .inl (cI, 16, .inl (fun _ => 0))), (q_4, .inl (cZ, 16, .inl (fun _ => 0))), (q_5, .inl (cZ, 16, .inl (fun _ => 0))), (q_6, .inr (0, [.int 1, .ref x1_7, .int 0])), (x1_7, .inl (cI, 16, .inl (fun _ => 0))), (q_8, .inr (0, [.int 1, .ref x1_9, .int 0])), (x1_9, .inl (cI, 16, .inl (fun _ => 0)))] H := hP
  have hD : va_D A [(h0, .inr (5, [.null, .null, .ref q_1, .int 0, .int 0, .int 0, .ref q_2, .ref q_4, .ref q_5, .ref q_6, .ref q_8])), (nm, .inr (2, [nm_0, nm_1, nm_2, nm_3, .int cn, nm_5])), (q_1, .inl (cI, 320, .inl (fun _ => 0))), (q_2, .inr (0, [.int 1, .ref x1_3, .int 0])), (x1_3, .inl (cI, 16, .inl (fun _ => 0))), (q_4, .inl (cZ, 16, .inl (fun _ => 0))), (q_5, .inl (cZ, 16, .inl (fun _ => 0))), (q_6, .inr (0, [.int 1, .ref x1_7, .int 0])), (x1_7, .inl (cI, 16, .inl (fun _ => 0))), (q_8, .inr (0, [.int 1, .ref x1_9, .int 0])), (x1_9, .inl (cI, 16, .inl (fun _ => 0)))] := hD
  refine lv_aload_n hx hb d_Shelf_init_65 rfl (lv_at hl 0 rfl) ?_
  refine lv_aload_n hx hb d_Shelf_init_66 rfl (lv_at hl 1 rfl) ?_
  refine va_putF (D := D) (ci := 5) (v := .ref nm) (ty := (.object "ProofDesk$Names")) (C := "ProofDesk$Shelf") (T := F_Shelf) (N := 11) hx hb hts in_Shelf t_Shelf t_Shelf_ok n_Shelf hown hK hP hD hS 0 rfl rfl 0 (by decide) (hts _ kw_213) (fun _ h9 => h9) rfl hin rfl (by decide +kernel) rfl rfl (Nat.le_of_ble_eq_true rfl) d_Shelf_init_67 (fun H locs hP hD hS => ?_)
  have hP : va_P D zcl [(h0, .inr (5, [.ref nm, .null, .ref q_1, .int 0, .int 0, .int 0, .ref q_2, .ref q_4, .ref q_5, .ref q_6, .ref q_8])), (nm, .inr (2, [nm_0, nm_1, nm_2, nm_3, .int cn, nm_5])), (q_1, .inl (cI, 320, .inl (fun _ => 0))), (q_2, .inr (0, [.int 1, .ref x1_3, .int 0])), (x1_3, .inl (cI, 16, .inl (fun _ => 0))), (q_4, .inl (cZ, 16, .inl (fun _ => 0))), (q_5, .inl (cZ, 16, .inl (fun _ => 0))), (q_6, .inr (0, [.int 1, .ref x1_7, .int 0])), (x1_7, .inl (cI, 16, .inl (fun _ => 0))), (q_8, .inr (0, [.int 1, .ref x1_9, .int 0])), (x1_9, .inl (cI, 16, .inl (fun _ => 0)))] H := hP
  have hD : va_D A [(h0, .inr (5, [.ref nm, .null, .ref q_1, .int 0, .int 0, .int 0, .ref q_2, .ref q_4, .ref q_5, .ref q_6, .ref q_8])), (nm, .inr (2, [nm_0, nm_1, nm_2, nm_3, .int cn, nm_5])), (q_1, .inl (cI, 320, .inl (fun _ => 0))), (q_2, .inr (0, [.int 1, .ref x1_3, .int 0])), (x1_3, .inl (cI, 16, .inl (fun _ => 0))), (q_4, .inl (cZ, 16, .inl (fun _ => 0))), (q_5, .inl (cZ, 16, .inl (fun _ => 0))), (q_6, .inr (0, [.int 1, .ref x1_7, .int 0])), (x1_7, .inl (cI, 16, .inl (fun _ => 0))), (q_8, .inr (0, [.int 1, .ref x1_9, .int 0])), (x1_9, .inl (cI, 16, .inl (fun _ => 0)))] := hD
  refine lv_aload_n hx hb d_Shelf_init_70 rfl (lv_at hl 0 rfl) ?_
  refine lv_aload_n hx hb d_Shelf_init_71 rfl (lv_at hl 2 rfl) ?_
  refine va_putF (D := D) (ci := 5) (v := .ref tm) (ty := (.object "ProofDesk$Terms")) (C := "ProofDesk$Shelf") (T := F_Shelf) (N := 11) hx hb hts in_Shelf t_Shelf t_Shelf_ok n_Shelf hown hK hP hD hS 0 rfl rfl 1 (by decide) (hts _ kw_217) (fun _ h9 => h9) rfl hin rfl (by decide +kernel) rfl rfl (Nat.le_of_ble_eq_true rfl) d_Shelf_init_72 (fun H locs hP hD hS => ?_)
  have hP : va_P D zcl [(h0, .inr (5, [.ref nm, .ref tm, .ref q_1, .int 0, .int 0, .int 0, .ref q_2, .ref q_4, .ref q_5, .ref q_6, .ref q_8])), (nm, .inr (2, [nm_0, nm_1, nm_2, nm_3, .int cn, nm_5])), (q_1, .inl (cI, 320, .inl (fun _ => 0))), (q_2, .inr (0, [.int 1, .ref x1_3, .int 0])), (x1_3, .inl (cI, 16, .inl (fun _ => 0))), (q_4, .inl (cZ, 16, .inl (fun _ => 0))), (q_5, .inl (cZ, 16, .inl (fun _ => 0))), (q_6, .inr (0, [.int 1, .ref x1_7, .int 0])), (x1_7, .inl (cI, 16, .inl (fun _ => 0))), (q_8, .inr (0, [.int 1, .ref x1_9, .int 0])), (x1_9, .inl (cI, 16, .inl (fun _ => 0)))] H := hP
  have hD : va_D A [(h0, .inr (5, [.ref nm, .ref tm, .ref q_1, .int 0, .int 0, .int 0, .ref q_2, .ref q_4, .ref q_5, .ref q_6, .ref q_8])), (nm, .inr (2, [nm_0, nm_1, nm_2, nm_3, .int cn, nm_5])), (q_1, .inl (cI, 320, .inl (fun _ => 0))), (q_2, .inr (0, [.int 1, .ref x1_3, .int 0])), (x1_3, .inl (cI, 16, .inl (fun _ => 0))), (q_4, .inl (cZ, 16, .inl (fun _ => 0))), (q_5, .inl (cZ, 16, .inl (fun _ => 0))), (q_6, .inr (0, [.int 1, .ref x1_7, .int 0])), (x1_7, .inl (cI, 16, .inl (fun _ => 0))), (q_8, .inr (0, [.int 1, .ref x1_9, .int 0])), (x1_9, .inl (cI, 16, .inl (fun _ => 0)))] := hD
  refine lv_aload_n hx hb d_Shelf_init_75 rfl (lv_at hl 0 rfl) ?_
  refine lv_aload_n hx hb d_Shelf_init_76 rfl (lv_at hl 1 rfl) ?_
  refine va_getN (D := D) (ci := 2) (v := .int cn) (C := "ProofDesk$Names") (T := F_Names) (N := 6) hx hb hts in_Names hown hK hP 1 rfl rfl 4 (by decide) (va_Nw.use rfl (hN _ kw_147)) (fun _ h9 => h9) rfl d_Shelf_init_77 ?_
  refine va_put (D := D) (ci := 5) (v := .int cn) (ty := .int) (C := "ProofDesk$Shelf") (T := F_Shelf) (N := 11) hx hb hts in_Shelf t_Shelf t_Shelf_ok n_Shelf hown hK hP hD hS 0 rfl rfl 5 (by decide) (hts _ kw_224) (fun _ h9 => h9) rfl (by decide +kernel) rfl rfl (Nat.le_of_ble_eq_true rfl) d_Shelf_init_80 (fun H locs hP hD hS => ?_)
  have hP : va_P D zcl [(h0, .inr (5, [.ref nm, .ref tm, .ref q_1, .int 0, .int 0, .int cn, .ref q_2, .ref q_4, .ref q_5, .ref q_6, .ref q_8])), (nm, .inr (2, [nm_0, nm_1, nm_2, nm_3, .int cn, nm_5])), (q_1, .inl (cI, 320, .inl (fun _ => 0))), (q_2, .inr (0, [.int 1, .ref x1_3, .int 0])), (x1_3, .inl (cI, 16, .inl (fun _ => 0))), (q_4, .inl (cZ, 16, .inl (fun _ => 0))), (q_5, .inl (cZ, 16, .inl (fun _ => 0))), (q_6, .inr (0, [.int 1, .ref x1_7, .int 0])), (x1_7, .inl (cI, 16, .inl (fun _ => 0))), (q_8, .inr (0, [.int 1, .ref x1_9, .int 0])), (x1_9, .inl (cI, 16, .inl (fun _ => 0)))] H := hP
  have hD : va_D A [(h0, .inr (5, [.ref nm, .ref tm, .ref q_1, .int 0, .int 0, .int cn, .ref q_2, .ref q_4, .ref q_5, .ref q_6, .ref q_8])), (nm, .inr (2, [nm_0, nm_1, nm_2, nm_3, .int cn, nm_5])), (q_1, .inl (cI, 320, .inl (fun _ => 0))), (q_2, .inr (0, [.int 1, .ref x1_3, .int 0])), (x1_3, .inl (cI, 16, .inl (fun _ => 0))), (q_4, .inl (cZ, 16, .inl (fun _ => 0))), (q_5, .inl (cZ, 16, .inl (fun _ => 0))), (q_6, .inr (0, [.int 1, .ref x1_7, .int 0])), (x1_7, .inl (cI, 16, .inl (fun _ => 0))), (q_8, .inr (0, [.int 1, .ref x1_9, .int 0])), (x1_9, .inl (cI, 16, .inl (fun _ => 0)))] := hD
  have hP9 := hP.sub (ws' := [(h0, .inr (5, [.ref nm, .ref tm, .ref q_1, .int 0, .int 0, .int cn, .ref q_2, .ref q_4, .ref q_5, .ref q_6, .ref q_8])), (nm, .inr (2, [nm_0, nm_1, nm_2, nm_3, .int cn, nm_5])), (q_1, .inl (cI, 320, .inl (fun _ => 0))), (q_2, .inr (0, [.int 1, .ref x1_3, .int 0])), (x1_3, .inl (cI, 16, .inl (fun _ => 0))), (q_4, .inl (cZ, 16, .inl (fun _ => 0))), (q_5, .inl (cZ, 16, .inl (fun _ => 0))), (q_6, .inr (0, [.int 1, .ref x1_7, .int 0])), (x1_7, .inl (cI, 16, .inl (fun _ => 0))), (q_8, .inr (0, [.int 1, .ref x1_9, .int 0])), (x1_9, .inl (cI, 16, .inl (fun _ => 0)))]) [0, 1, 2, 3, 4, 5, 6, 7, 8, 9, 10] rfl
  have hD9 := hD.sub (ws' := [(h0, .inr (5, [.ref nm, .ref tm, .ref q_1, .int 0, .int 0, .int cn, .ref q_2, .ref q_4, .ref q_5, .ref q_6, .ref q_8])), (nm, .inr (2, [nm_0, nm_1, nm_2, nm_3, .int cn, nm_5])), (q_1, .inl (cI, 320, .inl (fun _ => 0))), (q_2, .inr (0, [.int 1, .ref x1_3, .int 0])), (x1_3, .inl (cI, 16, .inl (fun _ => 0))), (q_4, .inl (cZ, 16, .inl (fun _ => 0))), (q_5, .inl (cZ, 16, .inl (fun _ => 0))), (q_6, .inr (0, [.int 1, .ref x1_7, .int 0])), (x1_7, .inl (cI, 16, .inl (fun _ => 0))), (q_8, .inr (0, [.int 1, .ref x1_9, .int 0])), (x1_9, .inl (cI, 16, .inl (fun _ => 0)))]) [0, 1, 2, 3, 4, 5, 6, 7, 8, 9, 10] (by decide +kernel) rfl
  refine W.widen (k := 9) (n := 409) (by omega) (by omega) ?_
  exact W.vret hx hb hr (fun t ht hW => ⟨⟨(), rfl, trivial, q_1, q_2, x1_3, q_4, q_5, q_6, x1_7, q_8, x1_9, by rw [ht]; exact hP9, hD9⟩, hS.F ht⟩) hS.2.2 d_Shelf_init_83
abbrev b_Lexer_init : ByteArray := prog_4_method_1_code
abbrev y_Lexer_init : MethodName := ⟨"ProofDesk$Lexer", "<init>", "(LProofDesk$Names;)V"⟩
theorem d_Lexer_init_0 : decode b_Lexer_init 0 = .ok (.aload_n 0, 1) := by decide +kernel
theorem d_Lexer_init_1 : decode b_Lexer_init 1 = .ok (.invokespecial 3, 3) := by decide +kernel
theorem kw_259 : (Jvm.Cond.methodLink "ProofDesk$Lexer" (3 : Nat) ({ cls := "java/lang/Object", name := "<init>", desc := "()V" } : Jvm.MethodName)) ∈ zw := List.mem_filter.mpr ⟨List.mem_append_right _ (List.mem_of_getElem? (i := 259) (by decide +kernel)), by decide +kernel⟩
theorem d_Lexer_init_4 : decode b_Lexer_init 4 = .ok (.aload_n 0, 1) := by decide +kernel
theorem d_Lexer_init_5 : decode b_Lexer_init 5 = .ok (.aload_n 1, 1) := by decide +kernel
theorem d_Lexer_init_6 : decode b_Lexer_init 6 = .ok (.putfield 9, 3) := by decide +kernel
theorem kw_260 : (Jvm.Cond.fieldLink "ProofDesk$Lexer" (9 : Nat) "ProofDesk$Lexer" "names" "LProofDesk$Names;") ∈ zw := List.mem_filter.mpr ⟨List.mem_append_right _ (List.mem_of_getElem? (i := 260) (by decide +kernel)), by decide +kernel⟩
theorem d_Lexer_init_9 : decode b_Lexer_init 9 = .ok (.aload_n 0, 1) := by decide +kernel
theorem d_Lexer_init_10 : decode b_Lexer_init 10 = .ok (.iconst 0, 1) := by decide +kernel
theorem d_Lexer_init_11 : decode b_Lexer_init 11 = .ok (.newarray .byte, 2) := by decide +kernel
theorem d_Lexer_init_13 : decode b_Lexer_init 13 = .ok (.putfield 15, 3) := by decide +kernel
theorem kw_262 : (Jvm.Cond.fieldLink "ProofDesk$Lexer" (15 : Nat) "ProofDesk$Lexer" "text" "[B") ∈ zw := List.mem_filter.mpr ⟨List.mem_append_right _ (List.mem_of_getElem? (i := 262) (by decide +kernel)), by decide +kernel⟩
theorem d_Lexer_init_16 : decode b_Lexer_init 16 = .ok (.return_, 1) := by decide +kernel
set_option maxHeartbeats 4000000 in
set_option maxRecDepth 100000 in
theorem c_Lexer_init (l : Launch) (D : va_G) (cI cB cZ cS : ClassId) (sz : Nat) (h0 : Nat) (nm : Nat) : Met l y_Lexer_init (zc y_Lexer_init b_Lexer_init 2 none) ({ frames := 1, cells := 1, slots := 0, locals := 12 }) (zPc D (zty cI cB cZ cS) [(h0, .inr (3, [.null, .null, .int 0, .int 0, .int 0, .int 0, .int 0, .int 0]))] sz [.ref h0, .ref nm]) (va_Qv (fun _ : Unit => True) (fun _ t => ∃ x1 : Nat, va_P D zcl [(h0, .inr (3, [.ref nm, .ref x1, .int 0, .int 0, .int 0, .int 0, .int 0, .int 0])), (x1, .inl (cB, 0, .inl (fun _ => 0)))] t.heap ∧ va_D (va_A [(h0, .inr (3, [.null, .null, .int 0, .int 0, .int 0, .int 0, .int 0, .int 0]))] sz) [(h0, .inr (3, [.ref nm, .ref x1, .int 0, .int 0, .int 0, .int 0, .int 0, .int 0])), (x1, .inl (cB, 0, .inl (fun _ => 0)))]) (va_A [(h0, .inr (3, [.null, .null, .int 0, .int 0, .int 0, .int 0, .int 0, .int 0]))] sz)) 1 0 (va_A [(h0, .inr (3, [.null, .null, .int 0, .int 0, .int 0, .int 0, .int 0, .int 0]))] sz) := by
  refine Met.ofW (cc := b_Lexer_init) (maxL := 2) (ret := none) (by decide) rfl ?_
  intro p e s m args below meth c s₁ B hml hv
  obtain ⟨rfl, hsz, hP, ⟨hK, hN⟩, hD0⟩ := hv
  have hx := B.exec
  have hb := B.bytes
  have hr := B.returns
  have hts0 := atoms_spec (ws := zc y_Lexer_init b_Lexer_init 2 none) B.pre
  have hts : ∀ w ∈ zw, w.before _ s = true := fun w hw => hts0 w (List.mem_cons_of_mem _ hw)
  have hown : s.vm.findClass "ProofDesk$Lexer" = some m.cls := findClass_of_methodNamed B.named
  have hlocks := B.notSynchronized
  have hin : meth.name = "<init>" := (name_of_methodNamed B.named B.method).1
  subst hsz
  have hD := hD0.self (sz := s.heap.size)
  generalize hAe : va_A [(h0, .inr (3, [.null, .null, .int 0, .int 0, .int 0, .int 0, .int 0, .int 0]))] s.heap.size = A at hD ⊢
  have hA : ∀ q : Nat, s.heap.size ≤ q → A q := fun q h => by rw [← hAe]; exact Or.inr h
  have hS : va_S A s.heap s.heap [] := va_S.rf
  have hP : va_P D zcl [(h0, .inr (3, [.null, .null, .int 0, .int 0, .int 0, .int 0, .int 0, .int 0]))] s.heap := hP
  have hl := lv_entry ([.ref h0, .ref nm]) (n := 2) (Nat.le_of_ble_eq_true rfl)
  rw [lg_entry_eq]
  generalize (lg_sl ([.ref h0, .ref nm]) ++ List.replicate (2 - (lg_sl ([.ref h0, .ref nm])).length) Slot.unset).toArray = ls at hl ⊢
  have hl : lv_has ls 2 [(0, .ref h0), (1, .ref nm)] := hl
  refine lv_aload_n hx hb d_Lexer_init_0 rfl (lv_at hl 0 rfl) ?_
  refine W.objInit hx hb hown (hts _ kw_259) (hts _ kw_31) (hts _ kw_32) rfl (by rw [hml]; exact hl.1) rfl d_Lexer_init_1 (Nat.le_of_ble_eq_true rfl) (Nat.le_of_ble_eq_true rfl) ?_
  refine W.eq (g2 := F0 m 4 ls []) rfl ?_
  refine lv_aload_n hx hb d_Lexer_init_4 rfl (lv_at hl 0 rfl) ?_
  refine lv_aload_n hx hb d_Lexer_init_5 rfl (lv_at hl 1 rfl) ?_
  refine va_putF (D := D) (ci := 3) (v := .ref nm) (ty := (.object "ProofDesk$Names")) (C := "ProofDesk$Lexer") (T := F_Lexer) (N := 8) hx hb hts in_Lexer t_Lexer t_Lexer_ok n_Lexer hown hK hP hD hS 0 rfl rfl 0 (by decide) (hts _ kw_260) (fun _ h9 => h9) rfl hin rfl (by decide +kernel) rfl rfl (Nat.le_of_ble_eq_true rfl) d_Lexer_init_6 (fun H locs hP hD hS => ?_)
  have hP : va_P D zcl [(h0, .inr (3, [.ref nm, .null, .int 0, .int 0, .int 0, .int 0, .int 0, .int 0]))] H := hP
  have hD : va_D A [(h0, .inr (3, [.ref nm, .null, .int 0, .int 0, .int 0, .int 0, .int 0, .int 0]))] := hD
  refine lv_aload_n hx hb d_Lexer_init_9 rfl (lv_at hl 0 rfl) ?_
  refine lv_iconst (v := 0) hx hb d_Lexer_init_10 (by decide) ?_
  have hkc : 0 + 1 ≤ 1 := by omega
  have hks : 0 + 0 ≤ 0 := by omega
  refine zz_newa (atype := .byte) (ty := .byte) (cA := cB) (a0 := (0, .inl (fun _ => 0))) (N' := 0) hx hb (hts _ kw_163) rfl hK hP hD hS hA 1 rfl (fun _ => rfl) (by decide +kernel) (by decide +kernel) (by decide) hkc hks d_Lexer_init_11 (fun q_1 H hP hD hS => ?_)
  have hP : va_P D zcl [(h0, .inr (3, [.ref nm, .null, .int 0, .int 0, .int 0, .int 0, .int 0, .int 0])), (q_1, .inl (cB, 0, .inl (fun _ => 0)))] H := hP
  have hD : va_D A [(h0, .inr (3, [.ref nm, .null, .int 0, .int 0, .int 0, .int 0, .int 0, .int 0])), (q_1, .inl (cB, 0, .inl (fun _ => 0)))] := hD
  refine W.widen (k := 1) (n := 0) (by omega) (by omega) ?_
  refine va_put (D := D) (ci := 3) (v := .ref q_1) (ty := (.array .byte)) (C := "ProofDesk$Lexer") (T := F_Lexer) (N := 8) hx hb hts in_Lexer t_Lexer t_Lexer_ok n_Lexer hown hK hP hD hS 0 rfl rfl 1 (by decide) (hts _ kw_262) (fun _ h9 => h9) rfl (by decide +kernel) rfl rfl (Nat.le_of_ble_eq_true rfl) d_Lexer_init_13 (fun H locs hP hD hS => ?_)
  have hP : va_P D zcl [(h0, .inr (3, [.ref nm, .ref q_1, .int 0, .int 0, .int 0, .int 0, .int 0, .int 0])), (q_1, .inl (cB, 0, .inl (fun _ => 0)))] H := hP
  have hD : va_D A [(h0, .inr (3, [.ref nm, .ref q_1, .int 0, .int 0, .int 0, .int 0, .int 0, .int 0])), (q_1, .inl (cB, 0, .inl (fun _ => 0)))] := hD
  have hP9 := hP.sub (ws' := [(h0, .inr (3, [.ref nm, .ref q_1, .int 0, .int 0, .int 0, .int 0, .int 0, .int 0])), (q_1, .inl (cB, 0, .inl (fun _ => 0)))]) [0, 1] rfl
  have hD9 := hD.sub (ws' := [(h0, .inr (3, [.ref nm, .ref q_1, .int 0, .int 0, .int 0, .int 0, .int 0, .int 0])), (q_1, .inl (cB, 0, .inl (fun _ => 0)))]) [0, 1] (by decide +kernel) rfl
  refine W.widen (k := 1) (n := 0) (by omega) (by omega) ?_
  exact W.vret hx hb hr (fun t ht hW => ⟨⟨(), rfl, trivial, q_1, by rw [ht]; exact hP9, hD9⟩, hS.F ht⟩) hS.2.2 d_Lexer_init_16
abbrev b_Parser_init : ByteArray := prog_6_method_1_code
abbrev y_Parser_init : MethodName := ⟨"ProofDesk$Parser", "<init>", "(LProofDesk$Lexer;LProofDesk$Shelf;LProofDesk$Ledger;)V"⟩
theorem d_Parser_init_0 : decode b_Parser_init 0 = .ok (.aload_n 0, 1) := by decide +kernel
theorem d_Parser_init_1 : decode b_Parser_init 1 = .ok (.invokespecial 3, 3) := by decide +kernel
theorem kw_296 : (Jvm.Cond.methodLink "ProofDesk$Parser" (3 : Nat) ({ cls := "java/lang/Object", name := "<init>", desc := "()V" } : Jvm.MethodName)) ∈ zw := List.mem_filter.mpr ⟨List.mem_append_right _ (List.mem_of_getElem? (i := 296) (by decide +kernel)), by decide +kernel⟩
theorem d_Parser_init_4 : decode b_Parser_init 4 = .ok (.aload_n 0, 1) := by decide +kernel
theorem d_Parser_init_5 : decode b_Parser_init 5 = .ok (.new 9, 3) := by decide +kernel
theorem kw_297 : (Jvm.Cond.classLink "ProofDesk$Parser" (9 : Nat) "ProofDesk$Pile") ∈ zw := List.mem_filter.mpr ⟨List.mem_append_right _ (List.mem_of_getElem? (i := 297) (by decide +kernel)), by decide +kernel⟩
theorem d_Parser_init_8 : decode b_Parser_init 8 = .ok (.dup, 1) := by decide +kernel
theorem d_Parser_init_9 : decode b_Parser_init 9 = .ok (.iconst 5, 1) := by decide +kernel
theorem d_Parser_init_10 : decode b_Parser_init 10 = .ok (.invokespecial 13, 3) := by decide +kernel
theorem kw_298 : (Jvm.Cond.methodLink "ProofDesk$Parser" (13 : Nat) ({ cls := "ProofDesk$Pile", name := "<init>", desc := "(I)V" } : Jvm.MethodName)) ∈ zw := List.mem_filter.mpr ⟨List.mem_append_right _ (List.mem_of_getElem? (i := 298) (by decide +kernel)), by decide +kernel⟩
theorem d_Parser_init_13 : decode b_Parser_init 13 = .ok (.putfield 16, 3) := by decide +kernel
theorem kw_307 : (Jvm.Cond.fieldLink "ProofDesk$Parser" (16 : Nat) "ProofDesk$Parser" "frames" "LProofDesk$Pile;") ∈ zw := List.mem_filter.mpr ⟨List.mem_append_right _ (List.mem_of_getElem? (i := 307) (by decide +kernel)), by decide +kernel⟩
theorem d_Parser_init_16 : decode b_Parser_init 16 = .ok (.aload_n 0, 1) := by decide +kernel
theorem d_Parser_init_17 : decode b_Parser_init 17 = .ok (.new 9, 3) := by decide +kernel
theorem d_Parser_init_20 : decode b_Parser_init 20 = .ok (.dup, 1) := by decide +kernel
theorem d_Parser_init_21 : decode b_Parser_init 21 = .ok (.iconst 1, 1) := by decide +kernel
theorem d_Parser_init_22 : decode b_Parser_init 22 = .ok (.invokespecial 13, 3) := by decide +kernel
theorem d_Parser_init_25 : decode b_Parser_init 25 = .ok (.putfield 20, 3) := by decide +kernel
theorem kw_308 : (Jvm.Cond.fieldLink "ProofDesk$Parser" (20 : Nat) "ProofDesk$Parser" "waiting" "LProofDesk$Pile;") ∈ zw := List.mem_filter.mpr ⟨List.mem_append_right _ (List.mem_of_getElem? (i := 308) (by decide +kernel)), by decide +kernel⟩
theorem d_Parser_init_28 : decode b_Parser_init 28 = .ok (.aload_n 0, 1) := by decide +kernel
theorem d_Parser_init_29 : decode b_Parser_init 29 = .ok (.new 9, 3) := by decide +kernel
theorem d_Parser_init_32 : decode b_Parser_init 32 = .ok (.dup, 1) := by decide +kernel
theorem d_Parser_init_33 : decode b_Parser_init 33 = .ok (.iconst 3, 1) := by decide +kernel
theorem d_Parser_init_34 : decode b_Parser_init 34 = .ok (.invokespecial 13, 3) := by decide +kernel
theorem d_Parser_init_37 : decode b_Parser_init 37 = .ok (.putfield 23, 3) := by decide +kernel
theorem kw_321 : (Jvm.Cond.fieldLink "ProofDesk$Parser" (23 : Nat) "ProofDesk$Parser" "bound" "LProofDesk$Pile;") ∈ zw := List.mem_filter.mpr ⟨List.mem_append_right _ (List.mem_of_getElem? (i := 321) (by decide +kernel)), by decide +kernel⟩
theorem d_Parser_init_40 : decode b_Parser_init 40 = .ok (.aload_n 0, 1) := by decide +kernel
theorem d_Parser_init_41 : decode b_Parser_init 41 = .ok (.new 9, 3) := by decide +kernel
theorem d_Parser_init_44 : decode b_Parser_init 44 = .ok (.dup, 1) := by decide +kernel
theorem d_Parser_init_45 : decode b_Parser_init 45 = .ok (.iconst 3, 1) := by decide +kernel
theorem d_Parser_init_46 : decode b_Parser_init 46 = .ok (.invokespecial 13, 3) := by decide +kernel
theorem d_Parser_init_49 : decode b_Parser_init 49 = .ok (.putfield 26, 3) := by decide +kernel
theorem kw_327 : (Jvm.Cond.fieldLink "ProofDesk$Parser" (26 : Nat) "ProofDesk$Parser" "constructors" "LProofDesk$Pile;") ∈ zw := List.mem_filter.mpr ⟨List.mem_append_right _ (List.mem_of_getElem? (i := 327) (by decide +kernel)), by decide +kernel⟩
theorem d_Parser_init_52 : decode b_Parser_init 52 = .ok (.aload_n 0, 1) := by decide +kernel
theorem d_Parser_init_53 : decode b_Parser_init 53 = .ok (.aload_n 1, 1) := by decide +kernel
theorem d_Parser_init_54 : decode b_Parser_init 54 = .ok (.putfield 29, 3) := by decide +kernel
theorem kw_299 : (Jvm.Cond.fieldLink "ProofDesk$Parser" (29 : Nat) "ProofDesk$Parser" "lexer" "LProofDesk$Lexer;") ∈ zw := List.mem_filter.mpr ⟨List.mem_append_right _ (List.mem_of_getElem? (i := 299) (by decide +kernel)), by decide +kernel⟩
theorem d_Parser_init_57 : decode b_Parser_init 57 = .ok (.aload_n 0, 1) := by decide +kernel
theorem d_Parser_init_58 : decode b_Parser_init 58 = .ok (.aload_n 1, 1) := by decide +kernel
theorem d_Parser_init_59 : decode b_Parser_init 59 = .ok (.getfield 33, 3) := by decide +kernel
theorem kw_261 : (Jvm.Cond.fieldLinkNest "ProofDesk$Parser" (33 : Nat) "ProofDesk$Lexer" "names" "LProofDesk$Names;" "ProofDesk") ∈ zn := List.mem_filter.mpr ⟨List.mem_append_right _ (List.mem_of_getElem? (i := 261) (by decide +kernel)), by decide +kernel⟩
theorem d_Parser_init_62 : decode b_Parser_init 62 = .ok (.putfield 39, 3) := by decide +kernel
theorem kw_300 : (Jvm.Cond.fieldLink "ProofDesk$Parser" (39 : Nat) "ProofDesk$Parser" "names" "LProofDesk$Names;") ∈ zw := List.mem_filter.mpr ⟨List.mem_append_right _ (List.mem_of_getElem? (i := 300) (by decide +kernel)), by decide +kernel⟩
theorem d_Parser_init_65 : decode b_Parser_init 65 = .ok (.aload_n 0, 1) := by decide +kernel
theorem d_Parser_init_66 : decode b_Parser_init 66 = .ok (.aload_n 2, 1) := by decide +kernel
theorem d_Parser_init_67 : decode b_Parser_init 67 = .ok (.getfield 40, 3) := by decide +kernel
theorem kw_216 : (Jvm.Cond.fieldLinkNest "ProofDesk$Parser" (40 : Nat) "ProofDesk$Shelf" "terms" "LProofDesk$Terms;" "ProofDesk") ∈ zn := List.mem_filter.mpr ⟨List.mem_append_right _ (List.mem_of_getElem? (i := 216) (by decide +kernel)), by decide +kernel⟩
theorem d_Parser_init_70 : decode b_Parser_init 70 = .ok (.putfield 46, 3) := by decide +kernel
theorem kw_302 : (Jvm.Cond.fieldLink "ProofDesk$Parser" (46 : Nat) "ProofDesk$Parser" "terms" "LProofDesk$Terms;") ∈ zw := List.mem_filter.mpr ⟨List.mem_append_right _ (List.mem_of_getElem? (i := 302) (by decide +kernel)), by decide +kernel⟩
theorem d_Parser_init_73 : decode b_Parser_init 73 = .ok (.aload_n 0, 1) := by decide +kernel
theorem d_Parser_init_74 : decode b_Parser_init 74 = .ok (.aload_n 2, 1) := by decide +kernel
theorem d_Parser_init_75 : decode b_Parser_init 75 = .ok (.putfield 47, 3) := by decide +kernel
theorem kw_304 : (Jvm.Cond.fieldLink "ProofDesk$Parser" (47 : Nat) "ProofDesk$Parser" "shelf" "LProofDesk$Shelf;") ∈ zw := List.mem_filter.mpr ⟨List.mem_append_right _ (List.mem_of_getElem? (i := 304) (by decide +kernel)), by decide +kernel⟩
theorem d_Parser_init_78 : decode b_Parser_init 78 = .ok (.aload_n 0, 1) := by decide +kernel
theorem d_Parser_init_79 : decode b_Parser_init 79 = .ok (.aload_n 3, 1) := by decide +kernel
theorem d_Parser_init_80 : decode b_Parser_init 80 = .ok (.putfield 51, 3) := by decide +kernel
theorem kw_306 : (Jvm.Cond.fieldLink "ProofDesk$Parser" (51 : Nat) "ProofDesk$Parser" "ledger" "LProofDesk$Ledger;") ∈ zw := List.mem_filter.mpr ⟨List.mem_append_right _ (List.mem_of_getElem? (i := 306) (by decide +kernel)), by decide +kernel⟩
theorem d_Parser_init_83 : decode b_Parser_init 83 = .ok (.return_, 1) := by decide +kernel
set_option maxHeartbeats 4000000 in
set_option maxRecDepth 100000 in
theorem c_Parser_init (l : Launch) (D : va_G) (cI cB cZ cS : ClassId) (sz : Nat) (h0 : Nat) (lx : Nat) (sh : Nat) (le : Nat) (nm : Nat) (lx_1 : Value) (lx_2 : Value) (lx_3 : Value) (lx_4 : Value) (lx_5 : Value) (lx_6 : Value) (lx_7 : Value) (tm : Nat) (sh_0 : Value) (sh_2 : Value) (sh_3 : Value) (sh_4 : Value) (sh_5 : Value) (sh_6 : Value) (sh_7 : Value) (sh_8 : Value) (sh_9 : Value) (sh_10 : Value) : Met l y_Parser_init (zc y_Parser_init b_Parser_init 4 none) ({ frames := 2, cells := 8, slots := 204, locals := 33 }) (zPc D (zty cI cB cZ cS) [(h0, .inr (6, [.null, .null, .null, .null, .null, .null, .null, .int 0, .int 0, .int 0, .int 0, .int 0, .int 0, .int 0, .int 0, .int 0, .null, .int 0, .int 0, .null])), (lx, .inr (3, [.ref nm, lx_1, lx_2, lx_3, lx_4, lx_5, lx_6, lx_7])), (sh, .inr (5, [sh_0, .ref tm, sh_2, sh_3, sh_4, sh_5, sh_6, sh_7, sh_8, sh_9, sh_10]))] sz [.ref h0, .ref lx, .ref sh, .ref le]) (va_Qv (fun _ : Unit => True) (fun _ t => ∃ x1 x2 x3 x4 x5 x6 x7 x8 : Nat, va_P D zcl [(h0, .inr (6, [.ref lx, .ref nm, .ref tm, .ref sh, .ref le, .ref x1, .ref x3, .int 0, .int 0, .int 0, .int 0, .int 0, .int 0, .int 0, .int 0, .int 0, .ref x5, .int 0, .int 0, .ref x7])), (lx, .inr (3, [.ref nm, lx_1, lx_2, lx_3, lx_4, lx_5, lx_6, lx_7])), (sh, .inr (5, [sh_0, .ref tm, sh_2, sh_3, sh_4, sh_5, sh_6, sh_7, sh_8, sh_9, sh_10])), (x1, .inr (0, [.int 5, .ref x2, .int 0])), (x2, .inl (cI, 80, .inl (fun _ => 0))), (x3, .inr (0, [.int 1, .ref x4, .int 0])), (x4, .inl (cI, 16, .inl (fun _ => 0))), (x5, .inr (0, [.int 3, .ref x6, .int 0])), (x6, .inl (cI, 48, .inl (fun _ => 0))), (x7, .inr (0, [.int 3, .ref x8, .int 0])), (x8, .inl (cI, 48, .inl (fun _ => 0)))] t.heap ∧ va_D (va_A [(h0, .inr (6, [.null, .null, .null, .null, .null, .null, .null, .int 0, .int 0, .int 0, .int 0, .int 0, .int 0, .int 0, .int 0, .int 0, .null, .int 0, .int 0, .null])), (lx, .inr (3, [.ref nm, lx_1, lx_2, lx_3, lx_4, lx_5, lx_6, lx_7])), (sh, .inr (5, [sh_0, .ref tm, sh_2, sh_3, sh_4, sh_5, sh_6, sh_7, sh_8, sh_9, sh_10]))] sz) [(h0, .inr (6, [.ref lx, .ref nm, .ref tm, .ref sh, .ref le, .ref x1, .ref x3, .int 0, .int 0, .int 0, .int 0, .int 0, .int 0, .int 0, .int 0, .int 0, .ref x5, .int 0, .int 0, .ref x7])), (lx, .inr (3, [.ref nm, lx_1, lx_2, lx_3, lx_4, lx_5, lx_6, lx_7])), (sh, .inr (5, [sh_0, .ref tm, sh_2, sh_3, sh_4, sh_5, sh_6, sh_7, sh_8, sh_9, sh_10])), (x1, .inr (0, [.int 5, .ref x2, .int 0])), (x2, .inl (cI, 80, .inl (fun _ => 0))), (x3, .inr (0, [.int 1, .ref x4, .int 0])), (x4, .inl (cI, 16, .inl (fun _ => 0))), (x5, .inr (0, [.int 3, .ref x6, .int 0])), (x6, .inl (cI, 48, .inl (fun _ => 0))), (x7, .inr (0, [.int 3, .ref x8, .int 0])), (x8, .inl (cI, 48, .inl (fun _ => 0)))]) (va_A [(h0, .inr (6, [.null, .null, .null, .null, .null, .null, .null, .int 0, .int 0, .int 0, .int 0, .int 0, .int 0, .int 0, .int 0, .int 0, .null, .int 0, .int 0, .null])), (lx, .inr (3, [.ref nm, lx_1, lx_2, lx_3, lx_4, lx_5, lx_6, lx_7])), (sh, .inr (5, [sh_0, .ref tm, sh_2, sh_3, sh_4, sh_5, sh_6, sh_7, sh_8, sh_9, sh_10]))] sz)) 8 204 (va_A [(h0, .inr (6, [.null, .null, .null, .null, .null, .null, .null, .int 0, .int 0, .int 0, .int 0, .int 0, .int 0, .int 0, .int 0, .int 0, .null, .int 0, .int 0, .null])), (lx, .inr (3, [.ref nm, lx_1, lx_2, lx_3, lx_4, lx_5, lx_6, lx_7])), (sh, .inr (5, [sh_0, .ref tm, sh_2, sh_3, sh_4, sh_5, sh_6, sh_7, sh_8, sh_9, sh_10]))] sz) := by
  refine Met.ofW (cc := b_Parser_init) (maxL := 4) (ret := none) (by decide) rfl ?_
  intro p e s m args below meth c s₁ B hml hv
  obtain ⟨rfl, hsz, hP, ⟨hK, hN⟩, hD0⟩ := hv
  have hx := B.exec
  have hb := B.bytes
  have hr := B.returns
  have hts0 := atoms_spec (ws := zc y_Parser_init b_Parser_init 4 none) B.pre
  have hts : ∀ w ∈ zw, w.before _ s = true := fun w hw => hts0 w (List.mem_cons_of_mem _ hw)
  have hown : s.vm.findClass "ProofDesk$Parser" = some m.cls := findClass_of_methodNamed B.named
  have hlocks := B.notSynchronized
  have hin : meth.name = "<init>" := (name_of_methodNamed B.named B.method).1
  subst hsz
  have hD := hD0.self (sz := s.heap.size)
  generalize hAe : va_A [(h0, .inr (6, [.null, .null, .null, .null, .null, .null, .null, .int 0, .int 0, .int 0, .int 0, .int 0, .int 0, .int 0, .int 0, .int 0, .null, .int 0, .int 0, .null])), (lx, .inr (3, [.ref nm, lx_1, lx_2, lx_3, lx_4, lx_5, lx_6, lx_7])), (sh, .inr (5, [sh_0, .ref tm, sh_2, sh_3, sh_4, sh_5, sh_6, sh_7, sh_8, sh_9, sh_10]))] s.heap.size = A at hD ⊢
  have hA : ∀ q : Nat, s.heap.size ≤ q → A q := fun q h => by rw [← hAe]; exact Or.inr h
  have hS : va_S A s.heap s.heap [] := va_S.rf
  have hP : va_P D zcl [(h0, .inr (6, [.null, .null, .null, .null, .null, .null, .null, .int 0, .int 0, .int 0, .int 0, .int 0, .int 0, .int 0, .int 0, .int 0, .null, .int 0, .int 0, .null])), (lx, .inr (3, [.ref nm, lx_1, lx_2, lx_3, lx_4, lx_5, lx_6, lx_7])), (sh, .inr (5, [sh_0, .ref tm, sh_2, sh_3, sh_4, sh_5, sh_6, sh_7, sh_8, sh_9, sh_10]))] s.heap := hP
  have hl := lv_entry ([.ref h0, .ref lx, .ref sh, .ref le]) (n := 4) (Nat.le_of_ble_eq_true rfl)
  rw [lg_entry_eq]
  generalize (lg_sl ([.ref h0, .ref lx, .ref sh, .ref le]) ++ List.replicate (4 - (lg_sl ([.ref h0, .ref lx, .ref sh, .ref le])).length) Slot.unset).toArray = ls at hl ⊢
  have hl : lv_has ls 4 [(0, .ref h0), (1, .ref lx), (2, .ref sh), (3, .ref le)] := hl
  refine lv_aload_n hx hb d_Parser_init_0 rfl (lv_at hl 0 rfl) ?_
  refine W.objInit hx hb hown (hts _ kw_296) (hts _ kw_31) (hts _ kw_32) rfl (by rw [hml]; exact hl.1) rfl d_Parser_init_1 (Nat.le_of_ble_eq_true rfl) (Nat.le_of_ble_eq_true rfl) ?_
  refine W.eq (g2 := F0 m 4 ls []) rfl ?_
  refine lv_aload_n hx hb d_Parser_init_4 rfl (lv_at hl 0 rfl) ?_
  have hkc : 0 + 1 ≤ 8 := by omega
  have hks : 0 + 3 ≤ 204 := by omega
  refine va_new (ci := 0) (fs := z0f_Pile) (C := "ProofDesk$Pile") (T := F_Pile) (N := 3) hx hb hts in_Pile t_Pile t_Pile_ok hown (hts _ kw_297) (hts _ kw_40) (hts _ kw_3) hK hP hD hS hA rfl z0_Pile hkc hks d_Parser_init_5 (fun q_1 H hP hD hS => ?_)
  have hP : va_P D zcl [(h0, .inr (6, [.null, .null, .null, .null, .null, .null, .null, .int 0, .int 0, .int 0, .int 0, .int 0, .int 0, .int 0, .int 0, .int 0, .null, .int 0, .int 0, .null])), (lx, .inr (3, [.ref nm, lx_1, lx_2, lx_3, lx_4, lx_5, lx_6, lx_7])), (sh, .inr (5, [sh_0, .ref tm, sh_2, sh_3, sh_4, sh_5, sh_6, sh_7, sh_8, sh_9, sh_10])), (q_1, .inr (0, [.int 0, .null, .int 0]))] H := hP
  have hD : va_D A [(h0, .inr (6, [.null, .null, .null, .null, .null, .null, .null, .int 0, .int 0, .int 0, .int 0, .int 0, .int 0, .int 0, .int 0, .int 0, .null, .int 0, .int 0, .null])), (lx, .inr (3, [.ref nm, lx_1, lx_2, lx_3, lx_4, lx_5, lx_6, lx_7])), (sh, .inr (5, [sh_0, .ref tm, sh_2, sh_3, sh_4, sh_5, sh_6, sh_7, sh_8, sh_9, sh_10])), (q_1, .inr (0, [.int 0, .null, .int 0]))] := hD
  refine W.widen (k := 1) (n := 3) (by omega) (by omega) ?_
  refine lv_dup hx hb d_Parser_init_8 rfl ?_
  refine lv_iconst (v := 5) hx hb d_Parser_init_9 (by decide) ?_
  have hPc := hP.sub (ws' := [(q_1, .inr (0, [.int 0, .null, .int 0]))]) [3] rfl
  have hDc := hD.sub (ws' := [(q_1, .inr (0, [.int 0, .null, .int 0]))]) [3] (by decide +kernel) rfl
  have hFc := va_free (wc := [(q_1, .inr (0, [.int 0, .null, .int 0]))]) hD hS hA [3] rfl
  have hkc : 1 + 1 ≤ 8 := by omega
  have hks : 3 + 80 ≤ 204 := by omega
  refine va_callv (va_runI (As := [.int 5]) (rest := [.ref q_1, .ref h0]) ⟨hx, hb, hml, hown, hts⟩ (c_Pile_init5 l D cI cB cZ cS H.size q_1) (⟨callB_of 1 hts (zgood kw_43) rfl rfl rfl (hts _ kw_3) (hts _ kw_298) (by decide +kernel) ⟨Nat.le_of_ble_eq_true rfl, Nat.le_of_ble_eq_true rfl⟩, rfl, hts _ kw_42⟩) (zPreS hPc hK hN hDc) rfl rfl hl.1 rfl (lv_room (Nat.le_of_ble_eq_true rfl)) d_Parser_init_10 ⟨hkc, hks⟩) hS (fun q _ h => hFc q h) hFc (fun u t H1 locs ht hvm hw hB hz1 hk1 hS => ?_)
  obtain ⟨x1_2, hP1, hD1⟩ := hB
  rw [ht] at hP1
  obtain ⟨hP, hD⟩ := va_join (wr := [(h0, .inr (6, [.null, .null, .null, .null, .null, .null, .null, .int 0, .int 0, .int 0, .int 0, .int 0, .int 0, .int 0, .int 0, .int 0, .null, .int 0, .int 0, .null])), (lx, .inr (3, [.ref nm, lx_1, lx_2, lx_3, lx_4, lx_5, lx_6, lx_7])), (sh, .inr (5, [sh_0, .ref tm, sh_2, sh_3, sh_4, sh_5, sh_6, sh_7, sh_8, sh_9, sh_10]))]) (w1 := [(q_1, .inr (0, [.int 5, .ref x1_2, .int 0])), (x1_2, .inl (cI, 80, .inl (fun _ => 0)))]) hP hD [3] [0, 1, 2] rfl rfl (by decide +kernel) (by decide +kernel) hk1 hFc hP1 hD1
  generalize H1 = H at hP hS ⊢
  have hP : va_P D zcl [(h0, .inr (6, [.null, .null, .null, .null, .null, .null, .null, .int 0, .int 0, .int 0, .int 0, .int 0, .int 0, .int 0, .int 0, .int 0, .null, .int 0, .int 0, .null])), (lx, .inr (3, [.ref nm, lx_1, lx_2, lx_3, lx_4, lx_5, lx_6, lx_7])), (sh, .inr (5, [sh_0, .ref tm, sh_2, sh_3, sh_4, sh_5, sh_6, sh_7, sh_8, sh_9, sh_10])), (q_1, .inr (0, [.int 5, .ref x1_2, .int 0])), (x1_2, .inl (cI, 80, .inl (fun _ => 0)))] H := hP
  have hD : va_D A [(h0, .inr (6, [.null, .null, .null, .null, .null, .null, .null, .int 0, .int 0, .int 0, .int 0, .int 0, .int 0, .int 0, .int 0, .int 0, .null, .int 0, .int 0, .null])), (lx, .inr (3, [.ref nm, lx_1, lx_2, lx_3, lx_4, lx_5, lx_6, lx_7])), (sh, .inr (5, [sh_0, .ref tm, sh_2, sh_3, sh_4, sh_5, sh_6, sh_7, sh_8, sh_9, sh_10])), (q_1, .inr (0, [.int 5, .ref x1_2, .int 0])), (x1_2, .inl (cI, 80, .inl (fun _ => 0)))] := hD
  refine W.widen (k := 2) (n := 83) (by omega) (by omega) ?_
  refine va_putF (D := D) (ci := 6) (v := .ref q_1) (ty := (.object "ProofDesk$Pile")) (C := "ProofDesk$Parser") (T := F_Parser) (N := 20) hx hb hts in_Parser t_Parser t_Parser_ok n_Parser hown hK hP hD hS 0 rfl rfl 5 (by decide) (hts _ kw_307) (fun _ h9 => h9) rfl hin rfl (by decide +kernel) rfl rfl (Nat.le_of_ble_eq_true rfl) d_Parser_init_13 (fun H locs hP hD hS => ?_)
  have hP : va_P D zcl [(h0, .inr (6, [.null, .null, .null, .null, .null, .ref q_1, .null, .int 0, .int 0, .int 0, .int 0, .int 0, .int 0, .int 0, .int 0, .int 0, .null, .int 0, .int 0, .null])), (lx, .inr (3, [.ref nm, lx_1, lx_2, lx_3, lx_4, lx_5, lx_6, lx_7])), (sh, .inr (5, [sh_0, .ref tm, sh_2, sh_3, sh_4, sh_5, sh_6, sh_7, sh_8, sh_9, sh_10])), (q_1, .inr (0, [.int 5, .ref x1_2, .int 0])), (x1_2, .inl (cI, 80, .inl (fun _ => 0)))] H := hP
  have hD : va_D A [(h0, .inr (6, [.null, .null, .null, .null, .null, .ref q_1, .null, .int 0, .int 0, .int 0, .int 0, .int 0, .int 0, .int 0, .int 0, .int 0, .null, .int 0, .int 0, .null])), (lx, .inr (3, [.ref nm, lx_1, lx_2, lx_3, lx_4, lx_5, lx_6, lx_7])), (sh, .inr (5, [sh_0, .ref tm, sh_2, sh_3, sh_4, sh_5, sh_6, sh_7, sh_8, sh_9, sh_10])), (q_1, .inr (0, [.int 5, .ref x1_2, .int 0])), (x1_2, .inl (cI, 80, .inl (fun _ => 0)))] := hD
  refine lv_aload_n hx hb d_Parser_init_16 rfl (lv_at hl 0 rfl) ?_
  have hkc : 2 + 1 ≤ 8 := by omega
  have hks : 83 + 3 ≤ 204 := by omega
  refine va_new (ci := 0) (fs := z0f_Pile) (C := "ProofDesk$Pile") (T := F_Pile) (N := 3) hx hb hts in_Pile t_Pile t_Pile_ok hown (hts _ kw_297) (hts _ kw_40) (hts _ kw_3) hK hP hD hS hA rfl z0_Pile hkc hks d_Parser_init_17 (fun q_3 H hP hD hS => ?_)
  have hP : va_P D zcl [(h0, .inr (6, [.null, .null, .null, .null, .null, .ref q_1, .null, .int 0, .int 0, .int 0, .int 0, .int 0, .int 0, .int 0, .int 0, .int 0, .null, .int 0, .int 0, .null])), (lx, .inr (3, [.ref nm, lx_1, lx_2, lx_3, lx_4, lx_5, lx_6, lx_7])), (sh, .inr (5, [sh_0, .ref tm, sh_2, sh_3, sh_4, sh_5, sh_6, sh_7, sh_8, sh_9, sh_10])), (q_1, .inr (0, [.int 5, .ref x1_2, .int 0])), (x1_2, .inl (cI, 80, .inl (fun _ => 0))), (q_3, .inr (0, [.int 0, .null, .int 0]))] H := hP
  have hD : va_D A [(h0, .inr (6, [.null, .null, .null, .null, .null, .ref q_1, .null, .int 0, .int 0, .int 0, .int 0, .int 0, .int 0, .int 0, .int 0, .int 0, .null, .int 0, .int 0, .null])), (lx, .inr (3, [.ref nm, lx_1, lx_2, lx_3, lx_4, lx_5, lx_6, lx_7])), (sh, .inr (5, [sh_0, .ref tm, sh_2, sh_3, sh_4, sh_5, sh_6, sh_7, sh_8, sh_9, sh_10])), (q_1, .inr (0, [.int 5, .ref x1_2, .int 0])), (x1_2, .inl (cI, 80, .inl (fun _ => 0))), (q_3, .inr (0, [.int 0, .null, .int 0]))] := hD
  refine W.widen (k := 3) (n := 86) (by omega) (by omega) ?_
  refine lv_dup hx hb d_Parser_init_20 rfl ?_
  refine lv_iconst (v := 1) hx hb d_Parser_init_21 (by decide) ?_
  have hPc := hP.sub (ws' := [(q_3, .inr (0, [.int 0, .null, .int 0]))]) [5] rfl
  have hDc := hD.sub (ws' := [(q_3, .inr (0, [.int 0, .null, .int 0]))]) [5] (by decide +kernel) rfl
  have hFc := va_free (wc := [(q_3, .inr (0, [.int 0, .null, .int 0]))]) hD hS hA [5] rfl
  have hkc : 3 + 1 ≤ 8 := by omega
  have hks : 86 + 16 ≤ 204 := by omega
  refine va_callv (va_runI (As := [.int 1]) (rest := [.ref q_3, .ref h0]) ⟨hx, hb, hml, hown, hts⟩ (c_Pile_init1 l D cI cB cZ cS H.size q_3) (⟨callB_of 1 hts (zgood kw_43) rfl rfl rfl (hts _ kw_3) (hts _ kw_298) (by decide +kernel) ⟨Nat.le_of_ble_eq_true rfl, Nat.le_of_ble_eq_true rfl⟩, rfl, hts _ kw_42⟩) (zPreS hPc hK hN hDc) rfl rfl hl.1 rfl (lv_room (Nat.le_of_ble_eq_true rfl)) d_Parser_init_22 ⟨hkc, hks⟩) hS (fun q _ h => hFc q h) hFc (fun u t H1 locs ht hvm hw hB hz1 hk1 hS => ?_)
  obtain ⟨x1_4, hP1, hD1⟩ := hB
  rw [ht] at hP1
  obtain ⟨hP, hD⟩ := va_join (wr := [(h0, .inr (6, [.null, .null, .null, .null, .null, .ref q_1, .null, .int 0, .int 0, .int 0, .int 0, .int 0, .int 0, .int 0, .int 0, .int 0, .null, .int 0, .int 0, .null])), (lx, .inr (3, [.ref nm, lx_1, lx_2, lx_3, lx_4, lx_5, lx_6, lx_7])), (sh, .inr (5, [sh_0, .ref tm, sh_2, sh_3, sh_4, sh_5, sh_6, sh_7, sh_8, sh_9, sh_10])), (q_1, .inr (0, [.int 5, .ref x1_2, .int 0])), (x1_2, .inl (cI, 80, .inl (fun _ => 0)))]) (w1 := [(q_3, .inr (0, [.int 1, .ref x1_4, .int 0])), (x1_4, .inl (cI, 16, .inl (fun _ => 0)))]) hP hD [5] [0, 1, 2, 3, 4] rfl rfl (by decide +kernel) (by decide +kernel) hk1 hFc hP1 hD1
  generalize H1 = H at hP hS ⊢
  have hP : va_P D zcl [(h0, .inr (6, [.null, .null, .null, .null, .null, .ref q_1, .null, .int 0, .int 0, .int 0, .int 0, .int 0, .int 0, .int 0, .int 0, .int 0, .null, .int 0, .int 0, .null])), (lx, .inr (3, [.ref nm, lx_1, lx_2, lx_3, lx_4, lx_5, lx_6, lx_7])), (sh, .inr (5, [sh_0, .ref tm, sh_2, sh_3, sh_4, sh_5, sh_6, sh_7, sh_8, sh_9, sh_10])), (q_1, .inr (0, [.int 5, .ref x1_2, .int 0])), (x1_2, .inl (cI, 80, .inl (fun _ => 0))), (q_3, .inr (0, [.int 1, .ref x1_4, .int 0])), (x1_4, .inl (cI, 16, .inl (fun _ => 0)))] H := hP
  have hD : va_D A [(h0, .inr (6, [.null, .null, .null, .null, .null, .ref q_1, .null, .int 0, .int 0, .int 0, .int 0, .int 0, .int 0, .int 0, .int 0, .int 0, .null, .int 0, .int 0, .null])), (lx, .inr (3, [.ref nm, lx_1, lx_2, lx_3, lx_4, lx_5, lx_6, lx_7])), (sh, .inr (5, [sh_0, .ref tm, sh_2, sh_3, sh_4, sh_5, sh_6, sh_7, sh_8, sh_9, sh_10])), (q_1, .inr (0, [.int 5, .ref x1_2, .int 0])), (x1_2, .inl (cI, 80, .inl (fun _ => 0))), (q_3, .inr (0, [.int 1, .ref x1_4, .int 0])), (x1_4, .inl (cI, 16, .inl (fun _ => 0)))] := hD
  refine W.widen (k := 4) (n := 102) (by omega) (by omega) ?_
  refine va_putF (D := D) (ci := 6) (v := .ref q_3) (ty := (.object "ProofDesk$Pile")) (C := "ProofDesk$Parser") (T := F_Parser) (N := 20) hx hb hts in_Parser t_Parser t_Parser_ok n_Parser hown hK hP hD hS 0 rfl rfl 6 (by decide) (hts _ kw_308) (fun _ h9 => h9) rfl hin rfl (by decide +kernel) rfl rfl (Nat.le_of_ble_eq_true rfl) d_Parser_init_25 (fun H locs hP hD hS => ?_)
  have hP : va_P D zcl [(h0, .inr (6, [.null, .null, .null, .null, .null, .ref q_1, .ref q_3, .int 0, .int 0, .int 0, .int 0, .int 0, .int 0, .int 0, .int 0, .int 0, .null, .int 0, .int 0, .null])), (lx, .inr (3, [.ref nm, lx_1, lx_2, lx_3, lx_4, lx_5, lx_6, lx_7])), (sh, .inr (5, [sh_0, .ref tm, sh_2, sh_3, sh_4, sh_5, sh_6, sh_7, sh_8, sh_9, sh_10])), (q_1, .inr (0, [.int 5, .ref x1_2, .int 0])), (x1_2, .inl (cI, 80, .inl (fun _ => 0))), (q_3, .inr (0, [.int 1, .ref x1_4, .int 0])), (x1_4, .inl (cI, 16, .inl (fun _ => 0)))] H := hP
  have hD : va_D A [(h0, .inr (6, [.null, .null, .null, .null, .null, .ref q_1, .ref q_3, .int 0, .int 0, .int 0, .int 0, .int 0, .int 0, .int 0, .int 0, .int 0, .null, .int 0, .int 0, .null])), (lx, .inr (3, [.ref nm, lx_1, lx_2, lx_3, lx_4, lx_5, lx_6, lx_7])), (sh, .inr (5, [sh_0, .ref tm, sh_2, sh_3, sh_4, sh_5, sh_6, sh_7, sh_8, sh_9, sh_10])), (q_1, .inr (0, [.int 5, .ref x1_2, .int 0])), (x1_2, .inl (cI, 80, .inl (fun _ => 0))), (q_3, .inr (0, [.int 1, .ref x1_4, .int 0])), (x1_4, .inl (cI, 16, .inl (fun _ => 0)))] := hD
  refine lv_aload_n hx hb d_Parser_init_28 rfl (lv_at hl 0 rfl) ?_
  have hkc : 4 + 1 ≤ 8 := by omega
  have hks : 102 + 3 ≤ 204 := by omega
  refine va_new (ci := 0) (fs := z0f_Pile) (C := "ProofDesk$Pile") (T := F_Pile) (N := 3) hx hb hts in_Pile t_Pile t_Pile_ok hown (hts _ kw_297) (hts _ kw_40) (hts _ kw_3) hK hP hD hS hA rfl z0_Pile hkc hks d_Parser_init_29 (fun q_5 H hP hD hS => ?_)
  have hP : va_P D zcl [(h0, .inr (6, [.null, .null, .null, .null, .null, .ref q_1, .ref q_3, .int 0, .int 0, .int 0, .int 0, .int 0, .int 0, .int 0, .int 0, .int 0, .null, .int 0, .int 0, .null])), (lx, .inr (3, [.ref nm, lx_1, lx_2, lx_3, lx_4, lx_5, lx_6, lx_7])), (sh, .inr (5, [sh_0, .ref tm, sh_2, sh_3, sh_4, sh_5, sh_6, sh_7, sh_8, sh_9, sh_10])), (q_1, .inr (0, [.int 5, .ref x1_2, .int 0])), (x1_2, .inl (cI, 80, .inl (fun _ => 0))), (q_3, .inr (0, [.int 1, .ref x1_4, .int 0])), (x1_4, .inl (cI, 16, .inl (fun _ => 0))), (q_5, .inr (0, [.int 0, .null, .int 0]))] H := hP
  have hD : va_D A [(h0, .inr (6, [.null, .null, .null, .null, .null, .ref q_1, .ref q_3, .int 0, .int 0, .int 0, .int 0, .int 0, .int 0, .int 0, .int 0, .int 0, .null, .int 0, .int 0, .null])), (lx, .inr (3, [.ref nm, lx_1, lx_2, lx_3, lx_4, lx_5, lx_6, lx_7])), (sh, .inr (5, [sh_0, .ref tm, sh_2, sh_3, sh_4, sh_5, sh_6, sh_7, sh_8, sh_9, sh_10])), (q_1, .inr (0, [.int 5, .ref x1_2, .int 0])), (x1_2, .inl (cI, 80, .inl (fun _ => 0))), (q_3, .inr (0, [.int 1, .ref x1_4, .int 0])), (x1_4, .inl (cI, 16, .inl (fun _ => 0))), (q_5, .inr (0, [.int 0, .null, .int 0]))] := hD
  refine W.widen (k := 5) (n := 105) (by omega) (by omega) ?_
  refine lv_dup hx hb d_Parser_init_32 rfl ?_
  refine lv_iconst (v := 3) hx hb d_Parser_init_33 (by decide) ?_
  have hPc := hP.sub (ws' := [(q_5, .inr (0, [.int 0, .null, .int 0]))]) [7] rfl
  have hDc := hD.sub (ws' := [(q_5, .inr (0, [.int 0, .null, .int 0]))]) [7] (by decide +kernel) rfl
  have hFc := va_free (wc := [(q_5, .inr (0, [.int 0, .null, .int 0]))]) hD hS hA [7] rfl
  have hkc : 5 + 1 ≤ 8 := by omega
  have hks : 105 + 48 ≤ 204 := by omega
  refine va_callv (va_runI (As := [.int 3]) (rest := [.ref q_5, .ref h0]) ⟨hx, hb, hml, hown, hts⟩ (c_Pile_init3 l D cI cB cZ cS H.size q_5) (⟨callB_of 1 hts (zgood kw_43) rfl rfl rfl (hts _ kw_3) (hts _ kw_298) (by decide +kernel) ⟨Nat.le_of_ble_eq_true rfl, Nat.le_of_ble_eq_true rfl⟩, rfl, hts _ kw_42⟩) (zPreS hPc hK hN hDc) rfl rfl hl.1 rfl (lv_room (Nat.le_of_ble_eq_true rfl)) d_Parser_init_34 ⟨hkc, hks⟩) hS (fun q _ h => hFc q h) hFc (fun u t H1 locs ht hvm hw hB hz1 hk1 hS => ?_)
  obtain ⟨x1_6, hP1, hD1⟩ := hB
  rw [ht] at hP1
  obtain ⟨hP, hD⟩ := va_join (wr := [(h0, .inr (6, [.null, .null, .null, .null, .null, .ref q_1, .ref q_3, .int 0, .int 0, .int 0, .int 0, .int 0, .int 0, .int 0, .int 0, .int 0, .null, .int 0, .int 0, .null])), (lx, .inr (3, [.ref nm, lx_1, lx_2, lx_3, lx_4, lx_5, lx_6, lx_7])), (sh, .inr (5, [sh_0, .ref tm, sh_2, sh_3, sh_4, sh_5, sh_6, sh_7, sh_8, sh_9, sh_10])), (q_1, .inr (0, [.int 5, .ref x1_2, .int 0])), (x1_2, .inl (cI, 80, .inl (fun _ => 0))), (q_3, .inr (0, [.int 1, .ref x1_4, .int 0])), (x1_4, .inl (cI, 16, .inl (fun _ => 0)))]) (w1 := [(q_5, .inr (0, [.int 3, .ref x1_6, .int 0])), (x1_6, .inl (cI, 48, .inl (fun _ => 0)))]) hP hD [7] [0, 1, 2, 3, 4, 5, 6] rfl rfl (by decide +kernel) (by decide +kernel) hk1 hFc hP1 hD1
  generalize H1 = H at hP hS ⊢
  have hP : va_P D zcl [(h0, .inr (6, [.null, .null, .null, .null, .null, .ref q_1, .ref q_3, .int 0, .int 0, .int 0, .int 0, .int 0, .int 0, .int 0, .int 0, .int 0, .null, .int 0, .int 0, .null])), (lx, .inr (3, [.ref nm, lx_1, lx_2, lx_3, lx_4, lx_5, lx_6, lx_7])), (sh, .inr (5, [sh_0, .ref tm, sh_2, sh_3, sh_4, sh_5, sh_6, sh_7, sh_8, sh_9, sh_10])), (q_1, .inr (0, [.int 5, .ref x1_2, .int 0])), (x1_2, .inl (cI, 80, .inl (fun _ => 0))), (q_3, .inr (0, [.int 1, .ref x1_4, .int 0])), (x1_4, .inl (cI, 16, .inl (fun _ => 0))), (q_5, .inr (0, [.int 3, .ref x1_6, .int 0])), (x1_6, .inl (cI, 48, .inl (fun _ => 0)))] H := hP
  have hD : va_D A [(h0, .inr (6, [.null, .null, .null, .null, .null, .ref q_1, .ref q_3, .int 0, .int 0, .int 0, .int 0, .int 0, .int 0, .int 0, .int 0, .int 0, .null, .int 0, .int 0, .null])), (lx, .inr (3, [.ref nm, lx_1, lx_2, lx_3, lx_4, lx_5, lx_6, lx_7])), (sh, .inr (5, [sh_0, .ref tm, sh_2, sh_3, sh_4, sh_5, sh_6, sh_7, sh_8, sh_9, sh_10])), (q_1, .inr (0, [.int 5, .ref x1_2, .int 0])), (x1_2, .inl (cI, 80, .inl (fun _ => 0))), (q_3, .inr (0, [.int 1, .ref x1_4, .int 0])), (x1_4, .inl (cI, 16, .inl (fun _ => 0))), (q_5, .inr (0, [.int 3, .ref x1_6, .int 0])), (x1_6, .inl (cI, 48, .inl (fun _ => 0)))] := hD
  refine W.widen (k := 6) (n := 153) (by omega) (by omega) ?_
  refine va_putF (D := D) (ci := 6) (v := .ref q_5) (ty := (.object "ProofDesk$Pile")) (C := "ProofDesk$Parser") (T := F_Parser) (N := 20) hx hb hts in_Parser t_Parser t_Parser_ok n_Parser hown hK hP hD hS 0 rfl rfl 16 (by decide) (hts _ kw_321) (fun _ h9 => h9) rfl hin rfl (by decide +kernel) rfl rfl (Nat.le_of_ble_eq_true rfl) d_Parser_init_37 (fun H locs hP hD hS => ?_)
  have hP : va_P D zcl [(h0, .inr (6, [.null, .null, .null, .null, .null, .ref q_1, .ref q_3, .int 0, .int 0, .int 0, .int 0, .int 0, .int 0, .int 0, .int 0, .int 0, .ref q_5, .int 0, .int 0, .null])), (lx, .inr (3, [.ref nm, lx_1, lx_2, lx_3, lx_4, lx_5, lx_6, lx_7])), (sh, .inr (5, [sh_0, .ref tm, sh_2, sh_3, sh_4, sh_5, sh_6, sh_7, sh_8, sh_9, sh_10])), (q_1, .inr (0, [.int 5, .ref x1_2, .int 0])), (x1_2, .inl (cI, 80, .inl (fun _ => 0))), (q_3, .inr (0, [.int 1, .ref x1_4, .int 0])), (x1_4, .inl (cI, 16, .inl (fun _ => 0))), (q_5, .inr (0, [.int 3, .ref x1_6, .int 0])), (x1_6, .inl (cI, 48, .inl (fun _ => 0)))] H := hP
  have hD : va_D A [(h0, .inr (6, [.null, .null, .null, .null, .null, .ref q_1, .ref q_3, .int 0, .int 0, .int 0, .int 0, .int 0, .int 0, .int 0, .int 0, .int 0, .ref q_5, .int 0, .int 0, .null])), (lx, .inr (3, [.ref nm, lx_1, lx_2, lx_3, lx_4, lx_5, lx_6, lx_7])), (sh, .inr (5, [sh_0, .ref tm, sh_2, sh_3, sh_4, sh_5, sh_6, sh_7, sh_8, sh_9, sh_10])), (q_1, .inr (0, [.int 5, .ref x1_2, .int 0])), (x1_2, .inl (cI, 80, .inl (fun _ => 0))), (q_3, .inr (0, [.int 1, .ref x1_4, .int 0])), (x1_4, .inl (cI, 16, .inl (fun _ => 0))), (q_5, .inr (0, [.int 3, .ref x1_6, .int 0])), (x1_6, .inl (cI, 48, .inl (fun _ => 0)))] := hD
  refine lv_aload_n hx hb d_Parser_init_40 rfl (lv_at hl 0 rfl) ?_
  have hkc : 6 + 1 ≤ 8 := by omega
  have hks : 153 + 3 ≤ 204 := by omega
  refine va_new (ci := 0) (fs := z0f_Pile) (C := "ProofDesk$Pile") (T := F_Pile) (N := 3) hx hb hts in_Pile t_Pile t_Pile_ok hown (hts _ kw_297) (hts _ kw_40) (hts _ kw_3) hK hP hD hS hA rfl z0_Pile hkc hks d_Parser_init_41 (fun q_7 H hP hD hS => ?_)
  have hP : va_P D zcl [(h0, .inr (6, [.null, .null, .null, .null, .null, .ref q_1, .ref q_3, .int 0, .int 0, .int 0, .int 0, .int 0, .int 0, .int 0, .int 0, .int 0, .ref q_5, .int 0, .int 0, .null])), (lx, .inr (3, [.ref nm, lx_1, lx_2, lx_3, lx_4, lx_5, lx_6, lx_7])), (sh, .inr (5, [sh_0, .ref tm, sh_2, sh_3, sh_4, sh_5, sh_6, sh_7, sh_8, sh_9, sh_10])), (q_1, .inr (0, [.int 5, .ref x1_2, .int 0])), (x1_2, .inl (cI, 80, .inl (fun _ => 0))), (q_3, .inr (0, [.int 1, .ref x1_4, .int 0])), (x1_4, .inl (cI, 16, .inl (fun _ => 0))), (q_5, .inr (0, [.int 3, .ref x1_6, .int 0])), (x1_6, .inl (cI, 48, .inl (fun _ => 0))), (q_7, .inr (0, [.int 0, .null, .int 0]))] H := hP
  have hD : va_D A [(h0, .inr (6, [.null, .null, .null, .null, .null, .ref q_1, .ref q_3, .int 0, .int 0, .int 0, .int 0, .int 0, .int 0, .int 0, .int 0, .int 0, .ref q_5, .int 0, .int 0, .null])), (lx, .inr (3, [.ref nm, lx_1, lx_2, lx_3, lx_4, lx_5, lx_6, lx_7])), (sh, .inr (5, [sh_0, .ref tm, sh_2, sh_3, sh_4, sh_5, sh_6, sh_7, sh_8, sh_9, sh_10])), (q_1, .inr (0, [.int 5, .ref x1_2, .int 0])), (x1_2, .inl (cI, 80, .inl (fun _ => 0))), (q_3, .inr (0, [.int 1, .ref x1_4, .int 0])), (x1_4, .inl (cI, 16, .inl (fun _ => 0))), (q_5, .inr (0, [.int 3, .ref x1_6, .int 0])), (x1_6, .inl (cI, 48, .inl (fun _ => 0))), (q_7, .inr (0, [.int 0, .null, .int 0]))] := hD
  refine W.widen (k := 7) (n := 156) (by omega) (by omega) ?_
  refine lv_dup hx hb d_Parser_init_44 rfl ?_
  refine lv_iconst (v := 3) hx hb d_Parser_init_45 (by decide) ?_
  have hPc := hP.sub (ws' := [(q_7, .inr (0, [.int 0, .null, .int 0]))]) [9] rfl
  have hDc := hD.sub (ws' := [(q_7, .inr (0, [.int 0, .null, .int 0]))]) [9] (by decide +kernel) rfl
  have hFc := va_free (wc := [(q_7, .inr (0, [.int 0, .null, .int 0]))]) hD hS hA [9] rfl
  have hkc : 7 + 1 ≤ 8 := by omega
  have hks : 156 + 48 ≤ 204 := by omega
  refine va_callv (va_runI (As := [.int 3]) (rest := [.ref q_7, .ref h0]) ⟨hx, hb, hml, hown, hts⟩ (c_Pile_init3 l D cI cB cZ cS H.size q_7) (⟨callB_of 1 hts (zgood kw_43) rfl rfl rfl (hts _ kw_3) (hts _ kw_298) (by decide +kernel) ⟨Nat.le_of_ble_eq_true rfl, Nat.le_of_ble_eq_true rfl⟩, rfl, hts _ kw_42⟩) (zPreS hPc hK hN hDc) rfl rfl hl.1 rfl (lv_room (Nat.le_of_ble_eq_true rfl)) d_Parser_init_46 ⟨hkc, hks⟩) hS (fun q _ h => hFc q h) hFc (fun u t H1 locs ht hvm hw hB hz1 hk1 hS => ?_)
  obtain ⟨x1_8, hP1, hD1⟩ := hB
  rw [ht] at hP1
  obtain ⟨hP, hD⟩ := va_join (wr := [(h0, .inr (6, [.null, .null, .null, .null, .null, .ref q_1, .ref q_3, .int 0, .int 0, .int 0, .int 0, .int 0, .int 0, .int 0, .int 0, .int 0, .ref q_5, .int 0, .int 0, .null])), (lx, .inr (3, [.ref nm, lx_1, lx_2, lx_3, lx_4, lx_5, lx_6, lx_7])), (sh, .inr (5, [sh_0, .ref tm, sh_2, sh_3, sh_4, sh_5, sh_6, sh_7, sh_8, sh_9, sh_10])), (q_1, .inr (0, [.int 5, .ref x1_2, .int 0])), (x1_2, .inl (cI, 80, .inl (fun _ => 0))), (q_3, .inr (0, [.int 1, .ref x1_4, .int 0])), (x1_4, .inl (cI, 16, .inl (fun _ => 0))), (q_5, .inr (0, [.int 3, .ref x1_6, .int 0])), (x1_6, .inl (cI, 48, .inl (fun _ => 0)))]) (w1 := [(q_7, .inr (0, [.int 3, .ref x1_8, .int 0])), (x1_8, .inl (cI, 48, .inl (fun _ => 0)))]) hP hD [9] [0, 1, 2, 3, 4, 5, 6, 7, 8] rfl rfl (by decide +kernel) (by decide +kernel) hk1 hFc hP1 hD1
  generalize H1 = H at hP hS ⊢
  have hP : va_P D zcl [(h0, .inr (6, [.null, .null, .null, .null, .null, .ref q_1, .ref q_3, .int 0, .int 0, .int 0, .int 0, .int 0, .int 0, .int 0, .int 0, .int 0, .ref q_5, .int 0, .int 0, .null])), (lx, .inr (3, [.ref nm, lx_1, lx_2, lx_3, lx_4, lx_5, lx_6, lx_7])), (sh, .inr (5, [sh_0, .ref tm, sh_2, sh_3, sh_4, sh_5, sh_6, sh_7, sh_8, sh_9, sh_10])), (q_1, .inr (0, [.int 5, .ref x1_2, .int 0])), (x1_2, .inl (cI, 80, .inl (fun _ => 0))), (q_3, .inr (0, [.int 1, .ref x1_4, .int 0])), (x1_4, .inl (cI, 16, .inl (fun _ => 0))), (q_5, .inr (0, [.int 3, .ref x1_6, .int 0])), (x1_6, .inl (cI, 48, .inl (fun _ => 0))), (q_7, .inr (0, [.int 3, .ref x1_8, .int 0])), (x1_8, .inl (cI, 48, .inl (fun _ => 0)))] H := hP
  have hD : va_D A [(h0, .inr (6, [.null, .null, .null, .null, .null, .ref q_1, .ref q_3, .int 0, .int 0, .int 0, .int 0, .int 0, .int 0, .int 0, .int 0, .int 0, .ref q_5, .int 0, .int 0, .null])), (lx, .inr (3, [.ref nm, lx_1, lx_2, lx_3, lx_4, lx_5, lx_6, lx_7])), (sh, .inr (5, [sh_0, .ref tm, sh_2, sh_3, sh_4, sh_5, sh_6, sh_7, sh_8, sh_9, sh_10])), (q_1, .inr (0, [.int 5, .ref x1_2, .int 0])), (x1_2, .inl (cI, 80, .inl (fun _ => 0))), (q_3, .inr (0, [.int 1, .ref x1_4, .int 0])), (x1_4, .inl (cI, 16, .inl (fun _ => 0))), (q_5, .inr (0, [.int 3, .ref x1_6, .int 0])), (x1_6, .inl (cI, 48, .inl (fun _ => 0))), (q_7, .inr (0, [.int 3, .ref x1_8, .int 0])), (x1_8, .inl (cI, 48, .inl (fun _ => 0)))] := hD
  refine W.widen (k := 8) (n := 204) (by omega) (by omega) ?_
  refine va_putF (D := D) (ci := 6) (v := .ref q_7) (ty := (.object "ProofDesk$Pile")) (C := "ProofDesk$Parser") (T := F_Parser) (N := 20) hx hb hts in_Parser t_Parser t_Parser_ok n_Parser hown hK hP hD hS 0 rfl rfl 19 (by decide) (hts _ kw_327) (fun _ h9 => h9) rfl hin rfl (by decide +kernel) rfl rfl (Nat.le_of_ble_eq_true rfl) d_Parser_init_49 (fun H locs hP hD hS => ?_)
  have hP : va_P D zcl [(h0, .inr (6, [.null, .null, .null, .null, .null, .ref q_1, .ref q_3, .int 0, .int 0, .int 0, .int 0, .int 0, .int 0, .int 0, .int 0, .int 0, .ref q_5, .int 0, .int 0, .ref q_7])), (lx, .inr (3, [.ref nm, lx_1, lx_2, lx_3, lx_4, lx_5, lx_6, lx_7])), (sh, .inr (5, [sh_0, .ref tm, sh_2, sh_3, sh_4, sh_5, sh_6, sh_7, sh_8, sh_9, sh_10])), (q_1, .inr (0, [.int 5, .ref x1_2, .int 0])), (x1_2, .inl (cI, 80, .inl (fun _ => 0))), (q_3, .inr (0, [.int 1, .ref x1_4, .int 0])), (x1_4, .inl (cI, 16, .inl (fun _ => 0))), (q_5, .inr (0, [.int 3, .ref x1_6, .int 0])), (x1_6, .inl (cI, 48, .inl (fun _ => 0))), (q_7, .inr (0, [.int 3, .ref x1_8, .int 0])), (x1_8, .inl (cI, 48, .inl (fun _ => 0)))] H := hP
  have hD : va_D A [(h0, .inr (6, [.null, .null, .null, .null, .null, .ref q_1, .ref q_3, .int 0, .int 0, .int 0, .int 0, .int 0, .int 0, .int 0, .int 0, .int 0, .ref q_5, .int 0, .int 0, .ref q_7])), (lx, .inr (3, [.ref nm, lx_1, lx_2, lx_3, lx_4, lx_5, lx_6, lx_7])), (sh, .inr (5, [sh_0, .ref tm, sh_2, sh_3, sh_4, sh_5, sh_6, sh_7, sh_8, sh_9, sh_10])), (q_1, .inr (0, [.int 5, .ref x1_2, .int 0])), (x1_2, .inl (cI, 80, .inl (fun _ => 0))), (q_3, .inr (0, [.int 1, .ref x1_4, .int 0])), (x1_4, .inl (cI, 16, .inl (fun _ => 0))), (q_5, .inr (0, [.int 3, .ref x1_6, .int 0])), (x1_6, .inl (cI, 48, .inl (fun _ => 0))), (q_7, .inr (0, [.int 3, .ref x1_8, .int 0])), (x1_8, .inl (cI, 48, .inl (fun _ => 0)))] := hD
  refine lv_aload_n hx hb d_Parser_init_52 rfl (lv_at hl 0 rfl) ?_
  refine lv_aload_n hx hb d_Parser_init_53 rfl (lv_at hl 1 rfl) ?_
  refine va_putF (D := D) (ci := 6) (v := .ref lx) (ty := (.object "ProofDesk$Lexer")) (C := "ProofDesk$Parser") (T := F_Parser) (N := 20) hx hb hts in_Parser t_Parser t_Parser_ok n_Parser hown hK hP hD hS 0 rfl rfl 0 (by decide) (hts _ kw_299) (fun _ h9 => h9) rfl hin rfl (by decide +kernel) rfl rfl (Nat.le_of_ble_eq_true rfl) d_Parser_init_54 (fun H locs hP hD hS => ?_)
  have hP : va_P D zcl [(h0, .inr (6, [.ref lx, .null, .null, .null, .null, .ref q_1, .ref q_3, .int 0, .int 0, .int 0, .int 0, .int 0, .int 0, .int 0, .int 0, .int 0, .ref q_5, .int 0, .int 0, .ref q_7])), (lx, .inr (3, [.ref nm, lx_1, lx_2, lx_3, lx_4, lx_5, lx_6, lx_7])), (sh, .inr (5, [sh_0, .ref tm, sh_2, sh_3, sh_4, sh_5, sh_6, sh_7, sh_8, sh_9, sh_10])), (q_1, .inr (0, [.int 5, .ref x1_2, .int 0])), (x1_2, .inl (cI, 80, .inl (fun _ => 0))), (q_3, .inr (0, [.int 1, .ref x1_4, .int 0])), (x1_4, .inl (cI, 16, .inl (fun _ => 0))), (q_5, .inr (0, [.int 3, .ref x1_6, .int 0])), (x1_6, .inl (cI, 48, .inl (fun _ => 0))), (q_7, .inr (0, [.int 3, .ref x1_8, .int 0])), (x1_8, .inl (cI, 48, .inl (fun _ => 0)))] H := hP
  have hD : va_D A [(h0, .inr (6, [.ref lx, .null, .null, .null, .null, .ref q_1, .ref q_3, .int 0, .int 0, .int 0, .int 0, .int 0, .int 0, .int 0, .int 0, .int 0, .ref q_5, .int 0, .int 0, .ref q_7])), (lx, .inr (3, [.ref nm, lx_1, lx_2, lx_3, lx_4, lx_5, lx_6, lx_7])), (sh, .inr (5, [sh_0, .ref tm, sh_2, sh_3, sh_4, sh_5, sh_6, sh_7, sh_8, sh_9, sh_10])), (q_1, .inr (0, [.int 5, .ref x1_2, .int 0])), (x1_2, .inl (cI, 80, .inl (fun _ => 0))), (q_3, .inr (0, [.int 1, .ref x1_4, .int 0])), (x1_4, .inl (cI, 16, .inl (fun _ => 0))), (q_5, .inr (0, [.int 3, .ref x1_6, .int 0])), (x1_6, .inl (cI, 48, .inl (fun _ => 0))), (q_7, .inr (0, [.int 3, .ref x1_8, .int 0])), (x1_8, .inl (cI, 48, .inl (fun _ => 0)))] := hD
  refine lv_aload_n hx hb d_Parser_init_57 rfl (lv_at hl 0 rfl) ?_
  refine lv_aload_n hx hb d_Parser_init_58 rfl (lv_at hl 1 rfl) ?_
  refine va_getN (D := D) (ci := 3) (v := .ref nm) (C := "ProofDesk$Lexer") (T := F_Lexer) (N := 8) hx hb hts in_Lexer hown hK hP 1 rfl rfl 0 (by decide) (va_Nw.use rfl (hN _ kw_261)) (fun _ h9 => h9) rfl d_Parser_init_59 ?_
  refine va_putF (D := D) (ci := 6) (v := .ref nm) (ty := (.object "ProofDesk$Names")) (C := "ProofDesk$Parser") (T := F_Parser) (N := 20) hx hb hts in_Parser t_Parser t_Parser_ok n_Parser hown hK hP hD hS 0 rfl rfl 1 (by decide) (hts _ kw_300) (fun _ h9 => h9) rfl hin rfl (by decide +kernel) rfl rfl (Nat.le_of_ble_eq_true rfl) d_Parser_init_62 (fun H locs hP hD hS => ?_)
  have hP : va_P D zcl [(h0, .inr (6, [.ref lx, .ref nm, .null, .null, .null, .ref q_1, .ref q_3, .int 0, .int 0, .int 0, .int 0, .int 0, .int 0, .int 0, .int 0, .int 0, .ref q_5, .int 0, .int 0, .ref q_7])), (lx, .inr (3, [.ref nm, lx_1, lx_2, lx_3, lx_4, lx_5, lx_6, lx_7])), (sh, .inr (5, [sh_0, .ref tm, sh_2, sh_3, sh_4, sh_5, sh_6, sh_7, sh_8, sh_9, sh_10])), (q_1, .inr (0, [.int 5, .ref x1_2, .int 0])), (x1_2, .inl (cI, 80, .inl (fun _ => 0))), (q_3, .inr (0, [.int 1, .ref x1_4, .int 0])), (x1_4, .inl (cI, 16, .inl (fun _ => 0))), (q_5, .inr (0, [.int 3, .ref x1_6, .int 0])), (x1_6, .inl (cI, 48, .inl (fun _ => 0))), (q_7, .inr (0, [.int 3, .ref x1_8, .int 0])), (x1_8, .inl (cI, 48, .inl (fun _ => 0)))] H := hP
  have hD : va_D A [(h0, .inr (6, [.ref lx, .ref nm, .null, .null, .null, .ref q_1, .ref q_3, .int 0, .int 0, .int 0, .int 0, .int 0, .int 0, .int 0, .int 0, .int 0, .ref q_5, .int 0, .int 0, .ref q_7])), (lx, .inr (3, [.ref nm, lx_1, lx_2, lx_3, lx_4, lx_5, lx_6, lx_7])), (sh, .inr (5, [sh_0, .ref tm, sh_2, sh_3, sh_4, sh_5, sh_6, sh_7, sh_8, sh_9, sh_10])), (q_1, .inr (0, [.int 5, .ref x1_2, .int 0])), (x1_2, .inl (cI, 80, .inl (fun _ => 0))), (q_3, .inr (0, [.int 1, .ref x1_4, .int 0])), (x1_4, .inl (cI, 16, .inl (fun _ => 0))), (q_5, .inr (0, [.int 3, .ref x1_6, .int 0])), (x1_6, .inl (cI, 48, .inl (fun _ => 0))), (q_7, .inr (0, [.int 3, .ref x1_8, .int 0])), (x1_8, .inl (cI, 48, .inl (fun _ => 0)))] := hD
  refine lv_aload_n hx hb d_Parser_init_65 rfl (lv_at hl 0 rfl) ?_
  refine lv_aload_n hx hb d_Parser_init_66 rfl (lv_at hl 2 rfl) ?_
  refine va_getN (D := D) (ci := 5) (v := .ref tm) (C := "ProofDesk$Shelf") (T := F_Shelf) (N := 11) hx hb hts in_Shelf hown hK hP 2 rfl rfl 1 (by decide) (va_Nw.use rfl (hN _ kw_216)) (fun _ h9 => h9) rfl d_Parser_init_67 ?_
  refine va_putF (D := D) (ci := 6) (v := .ref tm) (ty := (.object "ProofDesk$Terms")) (C := "ProofDesk$Parser") (T := F_Parser) (N := 20) hx hb hts in_Parser t_Parser t_Parser_ok n_Parser hown hK hP hD hS 0 rfl rfl 2 (by decide) (hts _ kw_302) (fun _ h9 => h9) rfl hin rfl (by decide +kernel) rfl rfl (Nat.le_of_ble_eq_true rfl) d_Parser_init_70 (fun H locs hP hD hS => ?_)
  have hP : va_P D zcl [(h0, .inr (6, [.ref lx, .ref nm, .ref tm, .null, .null, .ref q_1, .ref q_3, .int 0, .int 0, .int 0, .int 0, .int 0, .int 0, .int 0, .int 0, .int 0, .ref q_5, .int 0, .int 0, .ref q_7])), (lx, .inr (3, [.ref nm, lx_1, lx_2, lx_3, lx_4, lx_5, lx_6, lx_7])), (sh, .inr (5, [sh_0, .ref tm, sh_2, sh_3, sh_4, sh_5, sh_6, sh_7, sh_8, sh_9, sh_10])), (q_1, .inr (0, [.int 5, .ref x1_2, .int 0])), (x1_2, .inl (cI, 80, .inl (fun _ => 0))), (q_3, .inr (0, [.int 1, .ref x1_4, .int 0])), (x1_4, .inl (cI, 16, .inl (fun _ => 0))), (q_5, .inr (0, [.int 3, .ref x1_6, .int 0])), (x1_6, .inl (cI, 48, .inl (fun _ => 0))), (q_7, .inr (0, [.int 3, .ref x1_8, .int 0])), (x1_8, .inl (cI, 48, .inl (fun _ => 0)))] H := hP
  have hD : va_D A [(h0, .inr (6, [.ref lx, .ref nm, .ref tm, .null, .null, .ref q_1, .ref q_3, .int 0, .int 0, .int 0, .int 0, .int 0, .int 0, .int 0, .int 0, .int 0, .ref q_5, .int 0, .int 0, .ref q_7])), (lx, .inr (3, [.ref nm, lx_1, lx_2, lx_3, lx_4, lx_5, lx_6, lx_7])), (sh, .inr (5, [sh_0, .ref tm, sh_2, sh_3, sh_4, sh_5, sh_6, sh_7, sh_8, sh_9, sh_10])), (q_1, .inr (0, [.int 5, .ref x1_2, .int 0])), (x1_2, .inl (cI, 80, .inl (fun _ => 0))), (q_3, .inr (0, [.int 1, .ref x1_4, .int 0])), (x1_4, .inl (cI, 16, .inl (fun _ => 0))), (q_5, .inr (0, [.int 3, .ref x1_6, .int 0])), (x1_6, .inl (cI, 48, .inl (fun _ => 0))), (q_7, .inr (0, [.int 3, .ref x1_8, .int 0])), (x1_8, .inl (cI, 48, .inl (fun _ => 0)))] := hD
  refine lv_aload_n hx hb d_Parser_init_73 rfl (lv_at hl 0 rfl) ?_
  refine lv_aload_n hx hb d_Parser_init_74 rfl (lv_at hl 2 rfl) ?_
  refine va_putF (D := D) (ci := 6) (v := .ref sh) (ty := (.object "ProofDesk$Shelf")) (C := "ProofDesk$Parser") (T := F_Parser) (N := 20) hx hb hts in_Parser t_Parser t_Parser_ok n_Parser hown hK hP hD hS 0 rfl rfl 3 (by decide) (hts _ kw_304) (fun _ h9 => h9) rfl hin rfl (by decide +kernel) rfl rfl (Nat.le_of_ble_eq_true rfl) d_Parser_init_75 (fun H locs hP hD hS => ?_)
  have hP : va_P D zcl [(h0, .inr (6, [.ref lx, .ref nm, .ref tm, .ref sh, .null, .ref q_1, .ref q_3, .int 0, .int 0, .int 0, .int 0, .int 0, .int 0, .int 0, .int 0, .int 0, .ref q_5, .int 0, .int 0, .ref q_7])), (lx, .inr (3, [.ref nm, lx_1, lx_2, lx_3, lx_4, lx_5, lx_6, lx_7])), (sh, .inr (5, [sh_0, .ref tm, sh_2, sh_3, sh_4, sh_5, sh_6, sh_7, sh_8, sh_9, sh_10])), (q_1, .inr (0, [.int 5, .ref x1_2, .int 0])), (x1_2, .inl (cI, 80, .inl (fun _ => 0))), (q_3, .inr (0, [.int 1, .ref x1_4, .int 0])), (x1_4, .inl (cI, 16, .inl (fun _ => 0))), (q_5, .inr (0, [.int 3, .ref x1_6, .int 0])), (x1_6, .inl (cI, 48, .inl (fun _ => 0))), (q_7, .inr (0, [.int 3, .ref x1_8, .int 0])), (x1_8, .inl (cI, 48, .inl (fun _ => 0)))] H := hP
  have hD : va_D A [(h0, .inr (6, [.ref lx, .ref nm, .ref tm, .ref sh, .null, .ref q_1, .ref q_3, .int 0, .int 0, .int 0, .int 0, .int 0, .int 0, .int 0, .int 0, .int 0, .ref q_5, .int 0, .int 0, .ref q_7])), (lx, .inr (3, [.ref nm, lx_1, lx_2, lx_3, lx_4, lx_5, lx_6, lx_7])), (sh, .inr (5, [sh_0, .ref tm, sh_2, sh_3, sh_4, sh_5, sh_6, sh_7, sh_8, sh_9, sh_10])), (q_1, .inr (0, [.int 5, .ref x1_2, .int 0])), (x1_2, .inl (cI, 80, .inl (fun _ => 0))), (q_3, .inr (0, [.int 1, .ref x1_4, .int 0])), (x1_4, .inl (cI, 16, .inl (fun _ => 0))), (q_5, .inr (0, [.int 3, .ref x1_6, .int 0])), (x1_6, .inl (cI, 48, .inl (fun _ => 0))), (q_7, .inr (0, [.int 3, .ref x1_8, .int 0])), (x1_8, .inl (cI, 48, .inl (fun _ => 0)))] := hD
  refine lv_aload_n hx hb d_Parser_init_78 rfl (lv_at hl 0 rfl) ?_
  refine lv_aload_n hx hb d_Parser_init_79 rfl (lv_at hl 3 rfl) ?_
  refine va_putF (D := D) (ci := 6) (v := .ref le) (ty := (.object "ProofDesk$Ledger")) (C := "ProofDesk$Parser") (T := F_Parser) (N := 20) hx hb hts in_Parser t_Parser t_Parser_ok n_Parser hown hK hP hD hS 0 rfl rfl 4 (by decide) (hts _ kw_306) (fun _ h9 => h9) rfl hin rfl (by decide +kernel) rfl rfl (Nat.le_of_ble_eq_true rfl) d_Parser_init_80 (fun H locs hP hD hS => ?_)
  have hP : va_P D zcl [(h0, .inr (6, [.ref lx, .ref nm, .ref tm, .ref sh, .ref le, .ref q_1, .ref q_3, .int 0, .int 0, .int 0, .int 0, .int 0, .int 0, .int 0, .int 0, .int 0, .ref q_5, .int 0, .int 0, .ref q_7])), (lx, .inr (3, [.ref nm, lx_1, lx_2, lx_3, lx_4, lx_5, lx_6, lx_7])), (sh, .inr (5, [sh_0, .ref tm, sh_2, sh_3, sh_4, sh_5, sh_6, sh_7, sh_8, sh_9, sh_10])), (q_1, .inr (0, [.int 5, .ref x1_2, .int 0])), (x1_2, .inl (cI, 80, .inl (fun _ => 0))), (q_3, .inr (0, [.int 1, .ref x1_4, .int 0])), (x1_4, .inl (cI, 16, .inl (fun _ => 0))), (q_5, .inr (0, [.int 3, .ref x1_6, .int 0])), (x1_6, .inl (cI, 48, .inl (fun _ => 0))), (q_7, .inr (0, [.int 3, .ref x1_8, .int 0])), (x1_8, .inl (cI, 48, .inl (fun _ => 0)))] H := hP
  have hD : va_D A [(h0, .inr (6, [.ref lx, .ref nm, .ref tm, .ref sh, .ref le, .ref q_1, .ref q_3, .int 0, .int 0, .int 0, .int 0, .int 0, .int 0, .int 0, .int 0, .int 0, .ref q_5, .int 0, .int 0, .ref q_7])), (lx, .inr (3, [.ref nm, lx_1, lx_2, lx_3, lx_4, lx_5, lx_6, lx_7])), (sh, .inr (5, [sh_0, .ref tm, sh_2, sh_3, sh_4, sh_5, sh_6, sh_7, sh_8, sh_9, sh_10])), (q_1, .inr (0, [.int 5, .ref x1_2, .int 0])), (x1_2, .inl (cI, 80, .inl (fun _ => 0))), (q_3, .inr (0, [.int 1, .ref x1_4, .int 0])), (x1_4, .inl (cI, 16, .inl (fun _ => 0))), (q_5, .inr (0, [.int 3, .ref x1_6, .int 0])), (x1_6, .inl (cI, 48, .inl (fun _ => 0))), (q_7, .inr (0, [.int 3, .ref x1_8, .int 0])), (x1_8, .inl (cI, 48, .inl (fun _ => 0)))] := hD
  have hP9 := hP.sub (ws' := [(h0, .inr (6, [.ref lx, .ref nm, .ref tm, .ref sh, .ref le, .ref q_1, .ref q_3, .int 0, .int 0, .int 0, .int 0, .int 0, .int 0, .int 0, .int 0, .int 0, .ref q_5, .int 0, .int 0, .ref q_7])), (lx, .inr (3, [.ref nm, lx_1, lx_2, lx_3, lx_4, lx_5, lx_6, lx_7])), (sh, .inr (5, [sh_0, .ref tm, sh_2, sh_3, sh_4, sh_5, sh_6, sh_7, sh_8, sh_9, sh_10])), (q_1, .inr (0, [.int 5, .ref x1_2, .int 0])), (x1_2, .inl (cI, 80, .inl (fun _ => 0))), (q_3, .inr (0, [.int 1, .ref x1_4, .int 0])), (x1_4, .inl (cI, 16, .inl (fun _ => 0))), (q_5, .inr (0, [.int 3, .ref x1_6, .int 0])), (x1_6, .inl (cI, 48, .inl (fun _ => 0))), (q_7, .inr (0, [.int 3, .ref x1_8, .int 0])), (x1_8, .inl (cI, 48, .inl (fun _ => 0)))]) [0, 1, 2, 3, 4, 5, 6, 7, 8, 9, 10] rfl
  have hD9 := hD.sub (ws' := [(h0, .inr (6, [.ref lx, .ref nm, .ref tm, .ref sh, .ref le, .ref q_1, .ref q_3, .int 0, .int 0, .int 0, .int 0, .int 0, .int 0, .int 0, .int 0, .int 0, .ref q_5, .int 0, .int 0, .ref q_7])), (lx, .inr (3, [.ref nm, lx_1, lx_2, lx_3, lx_4, lx_5, lx_6, lx_7])), (sh, .inr (5, [sh_0, .ref tm, sh_2, sh_3, sh_4, sh_5, sh_6, sh_7, sh_8, sh_9, sh_10])), (q_1, .inr (0, [.int 5, .ref x1_2, .int 0])), (x1_2, .inl (cI, 80, .inl (fun _ => 0))), (q_3, .inr (0, [.int 1, .ref x1_4, .int 0])), (x1_4, .inl (cI, 16, .inl (fun _ => 0))), (q_5, .inr (0, [.int 3, .ref x1_6, .int 0])), (x1_6, .inl (cI, 48, .inl (fun _ => 0))), (q_7, .inr (0, [.int 3, .ref x1_8, .int 0])), (x1_8, .inl (cI, 48, .inl (fun _ => 0)))]) [0, 1, 2, 3, 4, 5, 6, 7, 8, 9, 10] (by decide +kernel) rfl
  refine W.widen (k := 8) (n := 204) (by omega) (by omega) ?_
  exact W.vret hx hb hr (fun t ht hW => ⟨⟨(), rfl, trivial, q_1, x1_2, q_3, x1_4, q_5, x1_6, q_7, x1_8, by rw [ht]; exact hP9, hD9⟩, hS.F ht⟩) hS.2.2 d_Parser_init_83
abbrev b_Printer_init : ByteArray := prog_8_method_1_code
abbrev y_Printer_init : MethodName := ⟨"ProofDesk$Printer", "<init>", "(LProofDesk$Names;LProofDesk$Shelf;)V"⟩
theorem d_Printer_init_0 : decode b_Printer_init 0 = .ok (.aload_n 0, 1) := by decide +kernel
theorem d_Printer_init_1 : decode b_Printer_init 1 = .ok (.invokespecial 3, 3) := by decide +kernel
theorem kw_375 : (Jvm.Cond.methodLink "ProofDesk$Printer" (3 : Nat) ({ cls := "java/lang/Object", name := "<init>", desc := "()V" } : Jvm.MethodName)) ∈ zw := List.mem_filter.mpr ⟨List.mem_append_right _ (List.mem_of_getElem? (i := 375) (by decide +kernel)), by decide +kernel⟩
theorem d_Printer_init_4 : decode b_Printer_init 4 = .ok (.aload_n 0, 1) := by decide +kernel
theorem d_Printer_init_5 : decode b_Printer_init 5 = .ok (.sipush 256, 3) := by decide +kernel
theorem d_Printer_init_8 : decode b_Printer_init 8 = .ok (.newarray .byte, 2) := by decide +kernel
theorem d_Printer_init_10 : decode b_Printer_init 10 = .ok (.putfield 9, 3) := by decide +kernel
theorem kw_381 : (Jvm.Cond.fieldLink "ProofDesk$Printer" (9 : Nat) "ProofDesk$Printer" "sheet" "[B") ∈ zw := List.mem_filter.mpr ⟨List.mem_append_right _ (List.mem_of_getElem? (i := 381) (by decide +kernel)), by decide +kernel⟩
theorem d_Printer_init_13 : decode b_Printer_init 13 = .ok (.aload_n 0, 1) := by decide +kernel
theorem d_Printer_init_14 : decode b_Printer_init 14 = .ok (.new 15, 3) := by decide +kernel
theorem kw_376 : (Jvm.Cond.classLink "ProofDesk$Printer" (15 : Nat) "ProofDesk$Pile") ∈ zw := List.mem_filter.mpr ⟨List.mem_append_right _ (List.mem_of_getElem? (i := 376) (by decide +kernel)), by decide +kernel⟩
theorem d_Printer_init_17 : decode b_Printer_init 17 = .ok (.dup, 1) := by decide +kernel
theorem d_Printer_init_18 : decode b_Printer_init 18 = .ok (.iconst 3, 1) := by decide +kernel
theorem d_Printer_init_19 : decode b_Printer_init 19 = .ok (.invokespecial 17, 3) := by decide +kernel
theorem kw_377 : (Jvm.Cond.methodLink "ProofDesk$Printer" (17 : Nat) ({ cls := "ProofDesk$Pile", name := "<init>", desc := "(I)V" } : Jvm.MethodName)) ∈ zw := List.mem_filter.mpr ⟨List.mem_append_right _ (List.mem_of_getElem? (i := 377) (by decide +kernel)), by decide +kernel⟩
theorem d_Printer_init_22 : decode b_Printer_init 22 = .ok (.putfield 20, 3) := by decide +kernel
theorem kw_386 : (Jvm.Cond.fieldLink "ProofDesk$Printer" (20 : Nat) "ProofDesk$Printer" "tasks" "LProofDesk$Pile;") ∈ zw := List.mem_filter.mpr ⟨List.mem_append_right _ (List.mem_of_getElem? (i := 386) (by decide +kernel)), by decide +kernel⟩
theorem d_Printer_init_25 : decode b_Printer_init 25 = .ok (.aload_n 0, 1) := by decide +kernel
theorem d_Printer_init_26 : decode b_Printer_init 26 = .ok (.new 15, 3) := by decide +kernel
theorem d_Printer_init_29 : decode b_Printer_init 29 = .ok (.dup, 1) := by decide +kernel
theorem d_Printer_init_30 : decode b_Printer_init 30 = .ok (.iconst 1, 1) := by decide +kernel
theorem d_Printer_init_31 : decode b_Printer_init 31 = .ok (.invokespecial 17, 3) := by decide +kernel
theorem d_Printer_init_34 : decode b_Printer_init 34 = .ok (.putfield 24, 3) := by decide +kernel
theorem kw_387 : (Jvm.Cond.fieldLink "ProofDesk$Printer" (24 : Nat) "ProofDesk$Printer" "used" "LProofDesk$Pile;") ∈ zw := List.mem_filter.mpr ⟨List.mem_append_right _ (List.mem_of_getElem? (i := 387) (by decide +kernel)), by decide +kernel⟩
theorem d_Printer_init_37 : decode b_Printer_init 37 = .ok (.aload_n 0, 1) := by decide +kernel
theorem d_Printer_init_38 : decode b_Printer_init 38 = .ok (.bipush 64, 2) := by decide +kernel
theorem d_Printer_init_40 : decode b_Printer_init 40 = .ok (.newarray .int, 2) := by decide +kernel
theorem d_Printer_init_42 : decode b_Printer_init 42 = .ok (.putfield 27, 3) := by decide +kernel
theorem kw_389 : (Jvm.Cond.fieldLink "ProofDesk$Printer" (27 : Nat) "ProofDesk$Printer" "scopes" "[I") ∈ zw := List.mem_filter.mpr ⟨List.mem_append_right _ (List.mem_of_getElem? (i := 389) (by decide +kernel)), by decide +kernel⟩
theorem d_Printer_init_45 : decode b_Printer_init 45 = .ok (.aload_n 0, 1) := by decide +kernel
theorem d_Printer_init_46 : decode b_Printer_init 46 = .ok (.bipush 50, 2) := by decide +kernel
theorem d_Printer_init_48 : decode b_Printer_init 48 = .ok (.newarray .byte, 2) := by decide +kernel
theorem d_Printer_init_50 : decode b_Printer_init 50 = .ok (.putfield 31, 3) := by decide +kernel
theorem kw_390 : (Jvm.Cond.fieldLink "ProofDesk$Printer" (31 : Nat) "ProofDesk$Printer" "spelling" "[B") ∈ zw := List.mem_filter.mpr ⟨List.mem_append_right _ (List.mem_of_getElem? (i := 390) (by decide +kernel)), by decide +kernel⟩
theorem d_Printer_init_53 : decode b_Printer_init 53 = .ok (.aload_n 0, 1) := by decide +kernel
theorem d_Printer_init_54 : decode b_Printer_init 54 = .ok (.sipush 4096, 3) := by decide +kernel
theorem d_Printer_init_57 : decode b_Printer_init 57 = .ok (.newarray .int, 2) := by decide +kernel
theorem d_Printer_init_59 : decode b_Printer_init 59 = .ok (.putfield 34, 3) := by decide +kernel
theorem kw_391 : (Jvm.Cond.fieldLink "ProofDesk$Printer" (34 : Nat) "ProofDesk$Printer" "clashes" "[I") ∈ zw := List.mem_filter.mpr ⟨List.mem_append_right _ (List.mem_of_getElem? (i := 391) (by decide +kernel)), by decide +kernel⟩
theorem d_Printer_init_62 : decode b_Printer_init 62 = .ok (.aload_n 0, 1) := by decide +kernel
theorem d_Printer_init_63 : decode b_Printer_init 63 = .ok (.new 15, 3) := by decide +kernel
theorem d_Printer_init_66 : decode b_Printer_init 66 = .ok (.dup, 1) := by decide +kernel
theorem d_Printer_init_67 : decode b_Printer_init 67 = .ok (.iconst 1, 1) := by decide +kernel
theorem d_Printer_init_68 : decode b_Printer_init 68 = .ok (.invokespecial 17, 3) := by decide +kernel
theorem d_Printer_init_71 : decode b_Printer_init 71 = .ok (.putfield 37, 3) := by decide +kernel
theorem kw_393 : (Jvm.Cond.fieldLink "ProofDesk$Printer" (37 : Nat) "ProofDesk$Printer" "stack" "LProofDesk$Pile;") ∈ zw := List.mem_filter.mpr ⟨List.mem_append_right _ (List.mem_of_getElem? (i := 393) (by decide +kernel)), by decide +kernel⟩
theorem d_Printer_init_74 : decode b_Printer_init 74 = .ok (.aload_n 0, 1) := by decide +kernel
theorem d_Printer_init_75 : decode b_Printer_init 75 = .ok (.aload_n 1, 1) := by decide +kernel
theorem d_Printer_init_76 : decode b_Printer_init 76 = .ok (.putfield 40, 3) := by decide +kernel
theorem kw_378 : (Jvm.Cond.fieldLink "ProofDesk$Printer" (40 : Nat) "ProofDesk$Printer" "names" "LProofDesk$Names;") ∈ zw := List.mem_filter.mpr ⟨List.mem_append_right _ (List.mem_of_getElem? (i := 378) (by decide +kernel)), by decide +kernel⟩
theorem d_Printer_init_79 : decode b_Printer_init 79 = .ok (.aload_n 0, 1) := by decide +kernel
theorem d_Printer_init_80 : decode b_Printer_init 80 = .ok (.aload_n 2, 1) := by decide +kernel
theorem d_Printer_init_81 : decode b_Printer_init 81 = .ok (.getfield 44, 3) := by decide +kernel
theorem kw_218 : (Jvm.Cond.fieldLinkNest "ProofDesk$Printer" (44 : Nat) "ProofDesk$Shelf" "terms" "LProofDesk$Terms;" "ProofDesk") ∈ zn := List.mem_filter.mpr ⟨List.mem_append_right _ (List.mem_of_getElem? (i := 218) (by decide +kernel)), by decide +kernel⟩
theorem d_Printer_init_84 : decode b_Printer_init 84 = .ok (.putfield 50, 3) := by decide +kernel
theorem kw_379 : (Jvm.Cond.fieldLink "ProofDesk$Printer" (50 : Nat) "ProofDesk$Printer" "terms" "LProofDesk$Terms;") ∈ zw := List.mem_filter.mpr ⟨List.mem_append_right _ (List.mem_of_getElem? (i := 379) (by decide +kernel)), by decide +kernel⟩
theorem d_Printer_init_87 : decode b_Printer_init 87 = .ok (.aload_n 0, 1) := by decide +kernel
theorem d_Printer_init_88 : decode b_Printer_init 88 = .ok (.aload_n 2, 1) := by decide +kernel
theorem d_Printer_init_89 : decode b_Printer_init 89 = .ok (.putfield 51, 3) := by decide +kernel
theorem kw_380 : (Jvm.Cond.fieldLink "ProofDesk$Printer" (51 : Nat) "ProofDesk$Printer" "shelf" "LProofDesk$Shelf;") ∈ zw := List.mem_filter.mpr ⟨List.mem_append_right _ (List.mem_of_getElem? (i := 380) (by decide +kernel)), by decide +kernel⟩
theorem d_Printer_init_92 : decode b_Printer_init 92 = .ok (.return_, 1) := by decide +kernel
set_option maxHeartbeats 4000000 in
set_option maxRecDepth 100000 in
theorem c_Printer_init (l : Launch) (D : va_G) (cI cB cZ cS : ClassId) (sz : Nat) (h0 : Nat) (nm : Nat) (sh : Nat) (tm : Nat) (sh_0 : Value) (sh_2 : Value) (sh_3 : Value) (sh_4 : Value) (sh_5 : Value) (sh_6 : Value) (sh_7 : Value) (sh_8 : Value) (sh_9 : Value) (sh_10 : Value) : Met l y_Printer_init (zc y_Printer_init b_Printer_init 3 none) ({ frames := 2, cells := 10, slots := 4555, locals := 33 }) (zPc D (zty cI cB cZ cS) [(h0, .inr (10, [.null, .null, .null, .null, .int 0, .int 0, .null, .null, .int 0, .null, .null, .null, .int 0, .null])), (sh, .inr (5, [sh_0, .ref tm, sh_2, sh_3, sh_4, sh_5, sh_6, sh_7, sh_8, sh_9, sh_10]))] sz [.ref h0, .ref nm, .ref sh]) (va_Qv (fun _ : Unit => True) (fun _ t => ∃ x1 x2 x3 x4 x5 x6 x7 x8 x9 x10 : Nat, va_P D zcl [(h0, .inr (10, [.ref nm, .ref tm, .ref sh, .ref x1, .int 0, .int 0, .ref x2, .ref x4, .int 0, .ref x6, .ref x7, .ref x8, .int 0, .ref x9])), (sh, .inr (5, [sh_0, .ref tm, sh_2, sh_3, sh_4, sh_5, sh_6, sh_7, sh_8, sh_9, sh_10])), (x1, .inl (cB, 256, .inl (fun _ => 0))), (x2, .inr (0, [.int 3, .ref x3, .int 0])), (x3, .inl (cI, 48, .inl (fun _ => 0))), (x4, .inr (0, [.int 1, .ref x5, .int 0])), (x5, .inl (cI, 16, .inl (fun _ => 0))), (x6, .inl (cI, 64, .inl (fun _ => 0))), (x7, .inl (cB, 50, .inl (fun _ => 0))), (x8, .inl (cI, 4096, .inl (fun _ => 0))), (x9, .inr (0, [.int 1, .ref x10, .int 0])), (x10, .inl (cI, 16, .inl (fun _ => 0)))] t.heap ∧ va_D (va_A [(h0, .inr (10, [.null, .null, .null, .null, .int 0, .int 0, .null, .null, .int 0, .null, .null, .null, .int 0, .null])), (sh, .inr (5, [sh_0, .ref tm, sh_2, sh_3, sh_4, sh_5, sh_6, sh_7, sh_8, sh_9, sh_10]))] sz) [(h0, .inr (10, [.ref nm, .ref tm, .ref sh, .ref x1, .int 0, .int 0, .ref x2, .ref x4, .int 0, .ref x6, .ref x7, .ref x8, .int 0, .ref x9])), (sh, .inr (5, [sh_0, .ref tm, sh_2, sh_3, sh_4, sh_5, sh_6, sh_7, sh_8, sh_9, sh_10])), (x1, .inl (cB, 256, .inl (fun _ => 0))), (x2, .inr (0, [.int 3, .ref x3, .int 0])), (x3, .inl (cI, 48, .inl (fun _ => 0))), (x4, .inr (0, [.int 1, .ref x5, .int 0])), (x5, .inl (cI, 16, .inl (fun _ => 0))), (x6, .inl (cI, 64, .inl (fun _ => 0))), (x7, .inl (cB, 50, .inl (fun _ => 0))), (x8, .inl (cI, 4096, .inl (fun _ => 0))), (x9, .inr (0, [.int 1, .ref x10, .int 0])), (x10, .inl (cI, 16, .inl (fun _ => 0)))]) (va_A [(h0, .inr (10, [.null, .null, .null, .null, .int 0, .int 0, .null, .null, .int 0, .null, .null, .null, .int 0, .null])), (sh, .inr (5, [sh_0, .ref tm, sh_2, sh_3, sh_4, sh_5, sh_6, sh_7, sh_8, sh_9, sh_10]))] sz)) 10 4555 (va_A [(h0, .inr (10, [.null, .null, .null, .null, .int 0, .int 0, .null, .null, .int 0, .null, .null, .null, .int 0, .null])), (sh, .inr (5, [sh_0, .ref tm, sh_2, sh_3, sh_4, sh_5, sh_6, sh_7, sh_8, sh_9, sh_10]))] sz) := by
  refine Met.ofW (cc := b_Printer_init) (maxL := 3) (ret := none) (by decide) rfl ?_
  intro p e s m args below meth c s₁ B hml hv
  obtain ⟨rfl, hsz, hP, ⟨hK, hN⟩, hD0⟩ := hv
  have hx := B.exec
  have hb := B.bytes
  have hr := B.returns
  have hts0 := atoms_spec (ws := zc y_Printer_init b_Printer_init 3 none) B.pre
  have hts : ∀ w ∈ zw, w.before _ s = true := fun w hw => hts0 w (List.mem_cons_of_mem _ hw)
  have hown : s.vm.findClass "ProofDesk$Printer" = some m.cls := findClass_of_methodNamed B.named
  have hlocks := B.notSynchronized
  have hin : meth.name = "<init>" := (name_of_methodNamed B.named B.method).1
  subst hsz
  have hD := hD0.self (sz := s.heap.size)
  generalize hAe : va_A [(h0, .inr (10, [.null, .null, .null, .null, .int 0, .int 0, .null, .null, .int 0, .null, .null, .null, .int 0, .null])), (sh, .inr (5, [sh_0, .ref tm, sh_2, sh_3, sh_4, sh_5, sh_6, sh_7, sh_8, sh_9, sh_10]))] s.heap.size = A at hD ⊢
  have hA : ∀ q : Nat, s.heap.size ≤ q → A q := fun q h => by rw [← hAe]; exact Or.inr h
  have hS : va_S A s.heap s.heap [] := va_S.rf
  have hP : va_P D zcl [(h0, .inr (10, [.null, .null, .null, .null, .int 0, .int 0, .null, .null, .int 0, .null, .null, .null, .int 0, .null])), (sh, .inr (5, [sh_0, .ref tm, sh_2, sh_3, sh_4, sh_5, sh_6, sh_7, sh_8, sh_9, sh_10]))] s.heap := hP
  have hl := lv_entry ([.ref h0, .ref nm, .ref sh]) (n := 3) (Nat.le_of_ble_eq_true rfl)
  rw [lg_entry_eq]
  generalize (lg_sl ([.ref h0, .ref nm, .ref sh]) ++ List.replicate (3 - (lg_sl ([.ref h0, .ref nm, .ref sh])).length) Slot.unset).toArray = ls at hl ⊢
  have hl : lv_has ls 3 [(0, .ref h0), (1, .ref nm), (2, .ref sh)] := hl
  refine lv_aload_n hx hb d_Printer_init_0 rfl (lv_at hl 0 rfl) ?_
  refine W.objInit hx hb hown (hts _ kw_375) (hts _ kw_31) (hts _ kw_32) rfl (by rw [hml]; exact hl.1) rfl d_Printer_init_1 (Nat.le_of_ble_eq_true rfl) (Nat.le_of_ble_eq_true rfl) ?_
  refine W.eq (g2 := F0 m 4 ls []) rfl ?_
  refine lv_aload_n hx hb d_Printer_init_4 rfl (lv_at hl 0 rfl) ?_
  refine lv_sipush (v := 256) hx hb d_Printer_init_5 (by decide) ?_
  have hkc : 0 + 1 ≤ 10 := by omega
  have hks : 0 + 256 ≤ 4555 := by omega
  refine zz_newa (atype := .byte) (ty := .byte) (cA := cB) (a0 := (256, .inl (fun _ => 0))) (N' := 256) hx hb (hts _ kw_163) rfl hK hP hD hS hA 1 rfl (fun _ => rfl) (by decide +kernel) (by decide +kernel) (by decide) hkc hks d_Printer_init_8 (fun q_1 H hP hD hS => ?_)
  have hP : va_P D zcl [(h0, .inr (10, [.null, .null, .null, .null, .int 0, .int 0, .null, .null, .int 0, .null, .null, .null, .int 0, .null])), (sh, .inr (5, [sh_0, .ref tm, sh_2, sh_3, sh_4, sh_5, sh_6, sh_7, sh_8, sh_9, sh_10])), (q_1, .inl (cB, 256, .inl (fun _ => 0)))] H := hP
  have hD : va_D A [(h0, .inr (10, [.null, .null, .null, .null, .int 0, .int 0, .null, .null, .int 0, .null, .null, .null, .int 0, .null])), (sh, .inr (5, [sh_0, .ref tm, sh_2, sh_3, sh_4, sh_5, sh_6, sh_7, sh_8, sh_9, sh_10])), (q_1, .inl (cB, 256, .inl (fun _ => 0)))] := hD
  refine W.widen (k := 1) (n := 256) (by omega) (by omega) ?_
  refine va_put (D := D) (ci := 10) (v := .ref q_1) (ty := (.array .byte)) (C := "ProofDesk$Printer") (T := F_Printer) (N := 14) hx hb hts in_Printer t_Printer t_Printer_ok n_Printer hown hK hP hD hS 0 rfl rfl 3 (by decide) (hts _ kw_381) (fun _ h9 => h9) rfl (by decide +kernel) rfl rfl (Nat.le_of_ble_eq_true rfl) d_Printer_init_10 (fun H locs hP hD hS => ?_)
  have hP : va_P D zcl [(h0, .inr (10, [.null, .null, .null, .ref q_1, .int 0, .int 0, .null, .null, .int 0, .null, .null, .null, .int 0, .null])), (sh, .inr (5, [sh_0, .ref tm, sh_2, sh_3, sh_4, sh_5, sh_6, sh_7, sh_8, sh_9, sh_10])), (q_1, .inl (cB, 256, .inl (fun _ => 0)))] H := hP
  have hD : va_D A [(h0, .inr (10, [.null, .null, .null, .ref q_1, .int 0, .int 0, .null, .null, .int 0, .null, .null, .null, .int 0, .null])), (sh, .inr (5, [sh_0, .ref tm, sh_2, sh_3, sh_4, sh_5, sh_6, sh_7, sh_8, sh_9, sh_10])), (q_1, .inl (cB, 256, .inl (fun _ => 0)))] := hD
  refine lv_aload_n hx hb d_Printer_init_13 rfl (lv_at hl 0 rfl) ?_
  have hkc : 1 + 1 ≤ 10 := by omega
  have hks : 256 + 3 ≤ 4555 := by omega
  refine va_new (ci := 0) (fs := z0f_Pile) (C := "ProofDesk$Pile") (T := F_Pile) (N := 3) hx hb hts in_Pile t_Pile t_Pile_ok hown (hts _ kw_376) (hts _ kw_40) (hts _ kw_3) hK hP hD hS hA rfl z0_Pile hkc hks d_Printer_init_14 (fun q_2 H hP hD hS => ?_)
  have hP : va_P D zcl [(h0, .inr (10, [.null, .null, .null, .ref q_1, .int 0, .int 0, .null, .null, .int 0, .null, .null, .null, .int 0, .null])), (sh, .inr (5, [sh_0, .ref tm, sh_2, sh_3, sh_4, sh_5, sh_6, sh_7, sh_8, sh_9, sh_10])), (q_1, .inl (cB, 256, .inl (fun _ => 0))), (q_2, .inr (0, [.int 0, .null, .int 0]))] H := hP
  have hD : va_D A [(h0, .inr (10, [.null, .null, .null, .ref q_1, .int 0, .int 0, .null, .null, .int 0, .null, .null, .null, .int 0, .null])), (sh, .inr (5, [sh_0, .ref tm, sh_2, sh_3, sh_4, sh_5, sh_6, sh_7, sh_8, sh_9, sh_10])), (q_1, .inl (cB, 256, .inl (fun _ => 0))), (q_2, .inr (0, [.int 0, .null, .int 0]))] := hD
  refine W.widen (k := 2) (n := 259) (by omega) (by omega) ?_
  refine lv_dup hx hb d_Printer_init_17 rfl ?_
  refine lv_iconst (v := 3) hx hb d_Printer_init_18 (by decide) ?_
  have hPc := hP.sub (ws' := [(q_2, .inr (0, [.int 0, .null, .int 0]))]) [3] rfl
  have hDc := hD.sub (ws' := [(q_2, .inr (0, [.int 0, .null, .int 0]))]) [3] (by decide +kernel) rfl
  have hFc := va_free (wc := [(q_2, .inr (0, [.int 0, .null, .int 0]))]) hD hS hA [3] rfl
  have hkc : 2 + 1 ≤ 10 := by omega
  have hks : 259 + 48 ≤ 4555 := by omega
  refine va_callv (va_runI (As := [.int 3]) (rest := [.ref q_2, .ref h0]) ⟨hx, hb, hml, hown, hts⟩ (c_Pile_init3 l D cI cB cZ cS H.size q_2) (⟨callB_of 1 hts (zgood kw_43) rfl rfl rfl (hts _ kw_3) (hts _ kw_377) (by decide +kernel) ⟨Nat.le_of_ble_eq_true rfl, Nat.le_of_ble_eq_true rfl⟩, rfl, hts _ kw_42⟩) (zPreS hPc hK hN hDc) rfl rfl hl.1 rfl (lv_room (Nat.le_of_ble_eq_true rfl)) d_Printer_init_19 ⟨hkc, hks⟩) hS (fun q _ h => hFc q h) hFc (fun u t H1 locs ht hvm hw hB hz1 hk1 hS => ?_)
  obtain ⟨x1_3, hP1, hD1⟩ := hB
  rw [ht] at hP1
  obtain ⟨hP, hD⟩ := va_join (wr := [(h0, .inr (10, [.null, .null, .null, .ref q_1, .int 0, .int 0, .null, .null, .int 0, .null, .null, .null, .int 0, .null])), (sh, .inr (5, [sh_0, .ref tm, sh_2, sh_3, sh_4, sh_5, sh_6, sh_7, sh_8, sh_9, sh_10])), (q_1, .inl (cB, 256, .inl (fun _ => 0)))]) (w1 := [(q_2, .inr (0, [.int 3, .ref x1_3, .int 0])), (x1_3, .inl (cI, 48, .inl (fun _ => 0)))]) hP hD [3] [0, 1, 2] rfl rfl (by decide +kernel) (by decide +kernel) hk1 hFc hP1 hD1
  generalize H1 = H at hP hS ⊢
  have hP : va_P D zcl [(h0, .inr (10, [.null, .null, .null, .ref q_1, .int 0, .int 0, .null, .null, .int 0, .null, .null, .null, .int 0, .null])), (sh, .inr (5, [sh_0, .ref tm, sh_2, sh_3, sh_4, sh_5, sh_6, sh_7, sh_8, sh_9, sh_10])), (q_1, .inl (cB, 256, .inl (fun _ => 0))), (q_2, .inr (0, [.int 3, .ref x1_3, .int 0])), (x1_3, .inl (cI, 48, .inl (fun _ => 0)))] H := hP
  have hD : va_D A [(h0, .inr (10, [.null, .null, .null, .ref q_1, .int 0, .int 0, .null, .null, .int 0, .null, .null, .null, .int 0, .null])), (sh, .inr (5, [sh_0, .ref tm, sh_2, sh_3, sh_4, sh_5, sh_6, sh_7, sh_8, sh_9, sh_10])), (q_1, .inl (cB, 256, .inl (fun _ => 0))), (q_2, .inr (0, [.int 3, .ref x1_3, .int 0])), (x1_3, .inl (cI, 48, .inl (fun _ => 0)))] := hD
  refine W.widen (k := 3) (n := 307) (by omega) (by omega) ?_
  refine va_putF (D := D) (ci := 10) (v := .ref q_2) (ty := (.object "ProofDesk$Pile")) (C := "ProofDesk$Printer") (T := F_Printer) (N := 14) hx hb hts in_Printer t_Printer t_Printer_ok n_Printer hown hK hP hD hS 0 rfl rfl 6 (by decide) (hts _ kw_386) (fun _ h9 => h9) rfl hin rfl (by decide +kernel) rfl rfl (Nat.le_of_ble_eq_true rfl) d_Printer_init_22 (fun H locs hP hD hS => ?_)
  have hP : va_P D zcl [(h0, .inr (10, [.null, .null, .null, .ref q_1, .int 0, .int 0, .ref q_2, .null, .int 0, .null, .null, .null, .int 0, .null])), (sh, .inr (5, [sh_0, .ref tm, sh_2, sh_3, sh_4, sh_5, sh_6, sh_7, sh_8, sh_9, sh_10])), (q_1, .inl (cB, 256, .inl (fun _ => 0))), (q_2, .inr (0, [.int 3, .ref x1_3, .int 0])), (x1_3, .inl (cI, 48, .inl (fun _ => 0)))] H := hP
  have hD : va_D A [(h0, .inr (10, [.null, .null, .null, .ref q_1, .int 0, .int 0, .ref q_2, .null, .int 0, .null, .null, .null, .int 0, .null])), (sh, .inr (5, [sh_0, .ref tm, sh_2, sh_3, sh_4, sh_5, sh_6, sh_7, sh_8, sh_9, sh_10])), (q_1, .inl (cB, 256, .inl (fun _ => 0))), (q_2, .inr (0, [.int 3, .ref x1_3, .int 0])), (x1_3, .inl (cI, 48, .inl (fun _ => 0)))] := hD
  refine lv_aload_n hx hb d_Printer_init_25 rfl (lv_at hl 0 rfl) ?_
  have hkc : 3 + 1 ≤ 10 := by omega
  have hks : 307 + 3 ≤ 4555 := by omega
  refine va_new (ci := 0) (fs := z0f_Pile) (C := "ProofDesk$Pile") (T := F_Pile) (N := 3) hx hb hts in_Pile t_Pile t_Pile_ok hown (hts _ kw_376) (hts _ kw_40) (hts _ kw_3) hK hP hD hS hA rfl z0_Pile hkc hks d_Printer_init_26 (fun q_4 H hP hD hS => ?_)
  have hP : va_P D zcl [(h0, .inr (10, [.null, .null, .null, .ref q_1, .int 0, .int 0, .ref q_2, .null, .int 0, .null, .null, .null, .int 0, .null])), (sh, .inr (5, [sh_0, .ref tm, sh_2, sh_3, sh_4, sh_5, sh_6, sh_7, sh_8, sh_9, sh_10])), (q_1, .inl (cB, 256, .inl (fun _ => 0))), (q_2, .inr (0, [.int 3, .ref x1_3, .int 0])), (x1_3, .inl (cI, 48, .inl (fun _ => 0))), (q_4, .inr (0, [.int 0, .null, .int 0]))] H := hP
  have hD : va_D A [(h0, .inr (10, [.null, .null, .null, .ref q_1, .int 0, .int 0, .ref q_2, .null, .int 0, .null, .null, .null, .int 0, .null])), (sh, .inr (5, [sh_0, .ref tm, sh_2, sh_3, sh_4, sh_5, sh_6, sh_7, sh_8, sh_9, sh_10])), (q_1, .inl (cB, 256, .inl (fun _ => 0))), (q_2, .inr (0, [.int 3, .ref x1_3, .int 0])), (x1_3, .inl (cI, 48, .inl (fun _ => 0))), (q_4, .inr (0, [.int 0, .null, .int 0]))] := hD
  refine W.widen (k := 4) (n := 310) (by omega) (by omega) ?_
  refine lv_dup hx hb d_Printer_init_29 rfl ?_
  refine lv_iconst (v := 1) hx hb d_Printer_init_30 (by decide) ?_
  have hPc := hP.sub (ws' := [(q_4, .inr (0, [.int 0, .null, .int 0]))]) [5] rfl
  have hDc := hD.sub (ws' := [(q_4, .inr (0, [.int 0, .null, .int 0]))]) [5] (by decide +kernel) rfl
  have hFc := va_free (wc := [(q_4, .inr (0, [.int 0, .null, .int 0]))]) hD hS hA [5] rfl
  have hkc : 4 + 1 ≤ 10 := by omega
  have hks : 310 + 16 ≤ 4555 := by omega
  refine va_callv (va_runI (As := [.int 1]) (rest := [.ref q_4, .ref h0]) ⟨hx, hb, hml, hown, hts⟩ (c_Pile_init1 l D cI cB cZ cS H.size q_4) (⟨callB_of 1 hts (zgood kw_43) rfl rfl rfl (hts _ kw_3) (hts _ kw_377) (by decide +kernel) ⟨Nat.le_of_ble_eq_true rfl, Nat.le_of_ble_eq_true rfl⟩, rfl, hts _ kw_42⟩) (zPreS hPc hK hN hDc) rfl rfl hl.1 rfl (lv_room (Nat.le_of_ble_eq_true rfl)) d_Printer_init_31 ⟨hkc, hks⟩) hS (fun q _ h => hFc q h) hFc (fun u t H1 locs ht hvm hw hB hz1 hk1 hS => ?_)
  obtain ⟨x1_5, hP1, hD1⟩ := hB
  rw [ht] at hP1
  obtain ⟨hP, hD⟩ := va_join (wr := [(h0, .inr (10, [.null, .null, .null, .ref q_1, .int 0, .int 0, .ref q_2, .null, .int 0, .null, .null, .null, .int 0, .null])), (sh, .inr (5, [sh_0, .ref tm, sh_2, sh_3, sh_4, sh_5, sh_6, sh_7, sh_8, sh_9, sh_10])), (q_1, .inl (cB, 256, .inl (fun _ => 0))), (q_2, .inr (0, [.int 3, .ref x1_3, .int 0])), (x1_3, .inl (cI, 48, .inl (fun _ => 0)))]) (w1 := [(q_4, .inr (0, [.int 1, .ref x1_5, .int 0])), (x1_5, .inl (cI, 16, .inl (fun _ => 0)))]) hP hD [5] [0, 1, 2, 3, 4] rfl rfl (by decide +kernel) (by decide +kernel) hk1 hFc hP1 hD1
  generalize H1 = H at hP hS ⊢
  have hP : va_P D zcl [(h0, .inr (10, [.null, .null, .null, .ref q_1, .int 0, .int 0, .ref q_2, .null, .int 0, .null, .null, .null, .int 0, .null])), (sh, .inr (5, [sh_0, .ref tm, sh_2, sh_3, sh_4, sh_5, sh_6, sh_7, sh_8, sh_9, sh_10])), (q_1, .inl (cB, 256, .inl (fun _ => 0))), (q_2, .inr (0, [.int 3, .ref x1_3, .int 0])), (x1_3, .inl (cI, 48, .inl (fun _ => 0))), (q_4, .inr (0, [.int 1, .ref x1_5, .int 0])), (x1_5, .inl (cI, 16, .inl (fun _ => 0)))] H := hP
  have hD : va_D A [(h0, .inr (10, [.null, .null, .null, .ref q_1, .int 0, .int 0, .ref q_2, .null, .int 0, .null, .null, .null, .int 0, .null])), (sh, .inr (5, [sh_0, .ref tm, sh_2, sh_3, sh_4, sh_5, sh_6, sh_7, sh_8, sh_9, sh_10])), (q_1, .inl (cB, 256, .inl (fun _ => 0))), (q_2, .inr (0, [.int 3, .ref x1_3, .int 0])), (x1_3, .inl (cI, 48, .inl (fun _ => 0))), (q_4, .inr (0, [.int 1, .ref x1_5, .int 0])), (x1_5, .inl (cI, 16, .inl (fun _ => 0)))] := hD
  refine W.widen (k := 5) (n := 326) (by omega) (by omega) ?_
  refine va_putF (D := D) (ci := 10) (v := .ref q_4) (ty := (.object "ProofDesk$Pile")) (C := "ProofDesk$Printer") (T := F_Printer) (N := 14) hx hb hts in_Printer t_Printer t_Printer_ok n_Printer hown hK hP hD hS 0 rfl rfl 7 (by decide) (hts _ kw_387) (fun _ h9 => h9) rfl hin rfl (by decide +kernel) rfl rfl (Nat.le_of_ble_eq_true rfl) d_Printer_init_34 (fun H locs hP hD hS => ?_)
  have hP : va_P D zcl [(h0, .inr (10, [.null, .null, .null, .ref q_1, .int 0, .int 0, .ref q_2, .ref q_4, .int 0, .null, .null, .null, .int 0, .null])), (sh, .inr (5, [sh_0, .ref tm, sh_2, sh_3, sh_4, sh_5, sh_6, sh_7, sh_8, sh_9, sh_10])), (q_1, .inl (cB, 256, .inl (fun _ => 0))), (q_2, .inr (0, [.int 3, .ref x1_3, .int 0])), (x1_3, .inl (cI, 48, .inl (fun _ => 0))), (q_4, .inr (0, [.int 1, .ref x1_5, .int 0])), (x1_5, .inl (cI, 16, .inl (fun _ => 0)))] H := hP
  have hD : va_D A [(h0, .inr (10, [.null, .null, .null, .ref q_1, .int 0, .int 0, .ref q_2, .ref q_4, .int 0, .null, .null, .null, .int 0, .null])), (sh, .inr (5, [sh_0, .ref tm, sh_2, sh_3, sh_4, sh_5, sh_6, sh_7, sh_8, sh_9, sh_10])), (q_1, .inl (cB, 256, .inl (fun _ => 0))), (q_2, .inr (0, [.int 3, .ref x1_3, .int 0])), (x1_3, .inl (cI, 48, .inl (fun _ => 0))), (q_4, .inr (0, [.int 1, .ref x1_5, .int 0])), (x1_5, .inl (cI, 16, .inl (fun _ => 0)))] := hD
  refine lv_aload_n hx hb d_Printer_init_37 rfl (lv_at hl 0 rfl) ?_
  refine lv_bipush (v := 64) hx hb d_Printer_init_38 (by decide) ?_
  have hkc : 5 + 1 ≤ 10 := by omega
  have hks : 326 + 64 ≤ 4555 := by omega
  refine zz_newa (atype := .int) (ty := .int) (cA := cI) (a0 := (64, .inl (fun _ => 0))) (N' := 64) hx hb (hts _ kw_64) rfl hK hP hD hS hA 0 rfl (fun _ => rfl) (by decide +kernel) (by decide +kernel) (by decide) hkc hks d_Printer_init_40 (fun q_6 H hP hD hS => ?_)
  have hP : va_P D zcl [(h0, .inr (10, [.null, .null, .null, .ref q_1, .int 0, .int 0, .ref q_2, .ref q_4, .int 0, .null, .null, .null, .int 0, .null])), (sh, .inr (5, [sh_0, .ref tm, sh_2, sh_3, sh_4, sh_5, sh_6, sh_7, sh_8, sh_9, sh_10])), (q_1, .inl (cB, 256, .inl (fun _ => 0))), (q_2, .inr (0, [.int 3, .ref x1_3, .int 0])), (x1_3, .inl (cI, 48, .inl (fun _ => 0))), (q_4, .inr (0, [.int 1, .ref x1_5, .int 0])), (x1_5, .inl (cI, 16, .inl (fun _ => 0))), (q_6, .inl (cI, 64, .inl (fun _ => 0)))] H := hP
  have hD : va_D A [(h0, .inr (10, [.null, .null, .null, .ref q_1, .int 0, .int 0, .ref q_2, .ref q_4, .int 0, .null, .null, .null, .int 0, .null])), (sh, .inr (5, [sh_0, .ref tm, sh_2, sh_3, sh_4, sh_5, sh_6, sh_7, sh_8, sh_9, sh_10])), (q_1, .inl (cB, 256, .inl (fun _ => 0))), (q_2, .inr (0, [.int 3, .ref x1_3, .int 0])), (x1_3, .inl (cI, 48, .inl (fun _ => 0))), (q_4, .inr (0, [.int 1, .ref x1_5, .int 0])), (x1_5, .inl (cI, 16, .inl (fun _ => 0))), (q_6, .inl (cI, 64, .inl (fun _ => 0)))] := hD
  refine W.widen (k := 6) (n := 390) (by omega) (by omega) ?_
  refine va_put (D := D) (ci := 10) (v := .ref q_6) (ty := (.array .int)) (C := "ProofDesk$Printer") (T := F_Printer) (N := 14) hx hb hts in_Printer t_Printer t_Printer_ok n_Printer hown hK hP hD hS 0 rfl rfl 9 (by decide) (hts _ kw_389) (fun _ h9 => h9) rfl (by decide +kernel) rfl rfl (Nat.le_of_ble_eq_true rfl) d_Printer_init_42 (fun H locs hP hD hS => ?_)
  have hP : va_P D zcl [(h0, .inr (10, [.null, .null, .null, .ref q_1, .int 0, .int 0, .ref q_2, .ref q_4, .int 0, .ref q_6, .null, .null, .int 0, .null])), (sh, .inr (5, [sh_0, .ref tm, sh_2, sh_3, sh_4, sh_5, sh_6, sh_7, sh_8, sh_9, sh_10])), (q_1, .inl (cB, 256, .inl (fun _ => 0))), (q_2, .inr (0, [.int 3, .ref x1_3, .int 0])), (x1_3, .inl (cI, 48, .inl (fun _ => 0))), (q_4, .inr (0, [.int 1, .ref x1_5, .int 0])), (x1_5, .inl (cI, 16, .inl (fun _ => 0))), (q_6, .inl (cI, 64, .inl (fun _ => 0)))] H := hP
  have hD : va_D A [(h0, .inr (10, [.null, .null, .null, .ref q_1, .int 0, .int 0, .ref q_2, .ref q_4, .int 0, .ref q_6, .null, .null, .int 0, .null])), (sh, .inr (5, [sh_0, .ref tm, sh_2, sh_3, sh_4, sh_5, sh_6, sh_7, sh_8, sh_9, sh_10])), (q_1, .inl (cB, 256, .inl (fun _ => 0))), (q_2, .inr (0, [.int 3, .ref x1_3, .int 0])), (x1_3, .inl (cI, 48, .inl (fun _ => 0))), (q_4, .inr (0, [.int 1, .ref x1_5, .int 0])), (x1_5, .inl (cI, 16, .inl (fun _ => 0))), (q_6, .inl (cI, 64, .inl (fun _ => 0)))] := hD
  refine lv_aload_n hx hb d_Printer_init_45 rfl (lv_at hl 0 rfl) ?_
  refine lv_bipush (v := 50) hx hb d_Printer_init_46 (by decide) ?_
  have hkc : 6 + 1 ≤ 10 := by omega
  have hks : 390 + 50 ≤ 4555 := by omega
  refine zz_newa (atype := .byte) (ty := .byte) (cA := cB) (a0 := (50, .inl (fun _ => 0))) (N' := 50) hx hb (hts _ kw_163) rfl hK hP hD hS hA 1 rfl (fun _ => rfl) (by decide +kernel) (by decide +kernel) (by decide) hkc hks d_Printer_init_48 (fun q_7 H hP hD hS => ?_)
  have hP : va_P D zcl [(h0, .inr (10, [.null, .null, .null, .ref q_1, .int 0, .int 0, .ref q_2, .ref q_4, .int 0, .ref q_6, .null, .null, .int 0, .null])), (sh, .inr (5, [sh_0, .ref tm, sh_2, sh_3, sh_4, sh_5, sh_6, sh_7, sh_8, sh_9, sh_10])), (q_1, .inl (cB, 256, .inl (fun _ => 0))), (q_2, .inr (0, [.int 3, .ref x1_3, .int 0])), (x1_3, .inl (cI, 48, .inl (fun _ => 0))), (q_4, .inr (0, [.int 1, .ref x1_5, .int 0])), (x1_5, .inl (cI, 16, .inl (fun _ => 0))), (q_6, .inl (cI, 64, .inl (fun _ => 0))), (q_7, .inl (cB, 50, .inl (fun _ => 0)))] H := hP
  have hD : va_D A [(h0, .inr (10, [.null, .null, .null, .ref q_1, .int 0, .int 0, .ref q_2, .ref q_4, .int 0, .ref q_6, .null, .null, .int 0, .null])), (sh, .inr (5, [sh_0, .ref tm, sh_2, sh_3, sh_4, sh_5, sh_6, sh_7, sh_8, sh_9, sh_10])), (q_1, .inl (cB, 256, .inl (fun _ => 0))), (q_2, .inr (0, [.int 3, .ref x1_3, .int 0])), (x1_3, .inl (cI, 48, .inl (fun _ => 0))), (q_4, .inr (0, [.int 1, .ref x1_5, .int 0])), (x1_5, .inl (cI, 16, .inl (fun _ => 0))), (q_6, .inl (cI, 64, .inl (fun _ => 0))), (q_7, .inl (cB, 50, .inl (fun _ => 0)))] := hD
  refine W.widen (k := 7) (n := 440) (by omega) (by omega) ?_
  refine va_putF (D := D) (ci := 10) (v := .ref q_7) (ty := (.array .byte)) (C := "ProofDesk$Printer") (T := F_Printer) (N := 14) hx hb hts in_Printer t_Printer t_Printer_ok n_Printer hown hK hP hD hS 0 rfl rfl 10 (by decide) (hts _ kw_390) (fun _ h9 => h9) rfl hin rfl (by decide +kernel) rfl rfl (Nat.le_of_ble_eq_true rfl) d_Printer_init_50 (fun H locs hP hD hS => ?_)
  have hP : va_P D zcl [(h0, .inr (10, [.null, .null, .null, .ref q_1, .int 0, .int 0, .ref q_2, .ref q_4, .int 0, .ref q_6, .ref q_7, .null, .int 0, .null])), (sh, .inr (5, [sh_0, .ref tm, sh_2, sh_3, sh_4, sh_5, sh_6, sh_7, sh_8, sh_9, sh_10])), (q_1, .inl (cB, 256, .inl (fun _ => 0))), (q_2, .inr (0, [.int 3, .ref x1_3, .int 0])), (x1_3, .inl (cI, 48, .inl (fun _ => 0))), (q_4, .inr (0, [.int 1, .ref x1_5, .int 0])), (x1_5, .inl (cI, 16, .inl (fun _ => 0))), (q_6, .inl (cI, 64, .inl (fun _ => 0))), (q_7, .inl (cB, 50, .inl (fun _ => 0)))] H := hP
  have hD : va_D A [(h0, .inr (10, [.null, .null, .null, .ref q_1, .int 0, .int 0, .ref q_2, .ref q_4, .int 0, .ref q_6, .ref q_7, .null, .int 0, .null])), (sh, .inr (5, [sh_0, .ref tm, sh_2, sh_3, sh_4, sh_5, sh_6, sh_7, sh_8, sh_9, sh_10])), (q_1, .inl (cB, 256, .inl (fun _ => 0))), (q_2, .inr (0, [.int 3, .ref x1_3, .int 0])), (x1_3, .inl (cI, 48, .inl (fun _ => 0))), (q_4, .inr (0, [.int 1, .ref x1_5, .int 0])), (x1_5, .inl (cI, 16, .inl (fun _ => 0))), (q_6, .inl (cI, 64, .inl (fun _ => 0))), (q_7, .inl (cB, 50, .inl (fun _ => 0)))] := hD
  refine lv_aload_n hx hb d_Printer_init_53 rfl (lv_at hl 0 rfl) ?_
  refine lv_sipush (v := 4096) hx hb d_Printer_init_54 (by decide) ?_
  have hkc : 7 + 1 ≤ 10 := by omega
  have hks : 440 + 4096 ≤ 4555 := by omega
  refine zz_newa (atype := .int) (ty := .int) (cA := cI) (a0 := (4096, .inl (fun _ => 0))) (N' := 4096) hx hb (hts _ kw_64) rfl hK hP hD hS hA 0 rfl (fun _ => rfl) (by decide +kernel) (by decide +kernel) (by decide) hkc hks d_Printer_init_57 (fun q_8 H hP hD hS => ?_)
  have hP : va_P D zcl [(h0, .inr (10, [.null, .null, .null, .ref q_1, .int 0, .int 0, .ref q_2, .ref q_4, .int 0, .ref q_6, .ref q_7, .null, .int 0, .null])), (sh, .inr (5, [sh_0, .ref tm, sh_2, sh_3, sh_4, sh_5, sh_6, sh_7, sh_8, sh_9, sh_10])), (q_1, .inl (cB, 256, .inl (fun _ => 0))), (q_2, .inr (0, [.int 3, .ref x1_3, .int 0])), (x1_3, .inl (cI, 48, .inl (fun _ => 0))), (q_4, .inr (0, [.int 1, .ref x1_5, .int 0])), (x1_5, .inl (cI, 16, .inl (fun _ => 0))), (q_6, .inl (cI, 64, .inl (fun _ => 0))), (q_7, .inl (cB, 50, .inl (fun _ => 0))), (q_8, .inl (cI, 4096, .inl (fun _ => 0)))] H := hP
  have hD : va_D A [(h0, .inr (10, [.null, .null, .null, .ref q_1, .int 0, .int 0, .ref q_2, .ref q_4, .int 0, .ref q_6, .ref q_7, .null, .int 0, .null])), (sh, .inr (5, [sh_0, .ref tm, sh_2, sh_3, sh_4, sh_5, sh_6, sh_7, sh_8, sh_9, sh_10])), (q_1, .inl (cB, 256, .inl (fun _ => 0))), (q_2, .inr (0, [.int 3, .ref x1_3, .int 0])), (x1_3, .inl (cI, 48, .inl (fun _ => 0))), (q_4, .inr (0, [.int 1, .ref x1_5, .int 0])), (x1_5, .inl (cI, 16, .inl (fun _ => 0))), (q_6, .inl (cI, 64, .inl (fun _ => 0))), (q_7, .inl (cB, 50, .inl (fun _ => 0))), (q_8, .inl (cI, 4096, .inl (fun _ => 0)))] := hD
  refine W.widen (k := 8) (n := 4536) (by omega) (by omega) ?_
  refine va_putF (D := D) (ci := 10) (v := .ref q_8) (ty := (.array .int)) (C := "ProofDesk$Printer") (T := F_Printer) (N := 14) hx hb hts in_Printer t_Printer t_Printer_ok n_Printer hown hK hP hD hS 0 rfl rfl 11 (by decide) (hts _ kw_391) (fun _ h9 => h9) rfl hin rfl (by decide +kernel) rfl rfl (Nat.le_of_ble_eq_true rfl) d_Printer_init_59 (fun H locs hP hD hS => ?_)
  have hP : va_P D zcl [(h0, .inr (10, [.null, .null, .null, .ref q_1, .int 0, .int 0, .ref q_2, .ref q_4, .int 0, .ref q_6, .ref q_7, .ref q_8, .int 0, .null])), (sh, .inr (5, [sh_0, .ref tm, sh_2, sh_3, sh_4, sh_5, sh_6, sh_7, sh_8, sh_9, sh_10])), (q_1, .inl (cB, 256, .inl (fun _ => 0))), (q_2, .inr (0, [.int 3, .ref x1_3, .int 0])), (x1_3, .inl (cI, 48, .inl (fun _ => 0))), (q_4, .inr (0, [.int 1, .ref x1_5, .int 0])), (x1_5, .inl (cI, 16, .inl (fun _ => 0))), (q_6, .inl (cI, 64, .inl (fun _ => 0))), (q_7, .inl (cB, 50, .inl (fun _ => 0))), (q_8, .inl (cI, 4096, .inl (fun _ => 0)))] H := hP
  have hD : va_D A [(h0, .inr (10, [.null, .null, .null, .ref q_1, .int 0, .int 0, .ref q_2, .ref q_4, .int 0, .ref q_6, .ref q_7, .ref q_8, .int 0, .null])), (sh, .inr (5, [sh_0, .ref tm, sh_2, sh_3, sh_4, sh_5, sh_6, sh_7, sh_8, sh_9, sh_10])), (q_1, .inl (cB, 256, .inl (fun _ => 0))), (q_2, .inr (0, [.int 3, .ref x1_3, .int 0])), (x1_3, .inl (cI, 48, .inl (fun _ => 0))), (q_4, .inr (0, [.int 1, .ref x1_5, .int 0])), (x1_5, .inl (cI, 16, .inl (fun _ => 0))), (q_6, .inl (cI, 64, .inl (fun _ => 0))), (q_7, .inl (cB, 50, .inl (fun _ => 0))), (q_8, .inl (cI, 4096, .inl (fun _ => 0)))] := hD
  refine lv_aload_n hx hb d_Printer_init_62 rfl (lv_at hl 0 rfl) ?_
  have hkc : 8 + 1 ≤ 10 := by omega
  have hks : 4536 + 3 ≤ 4555 := by omega
  refine va_new (ci := 0) (fs := z0f_Pile) (C := "ProofDesk$Pile") (T := F_Pile) (N := 3) hx hb hts in_Pile t_Pile t_Pile_ok hown (hts _ kw_376) (hts _ kw_40) (hts _ kw_3) hK hP hD hS hA rfl z0_Pile hkc hks d_Printer_init_63 (fun q_9 H hP hD hS => ?_)
  have hP : va_P D zcl [(h0, .inr (10, [.null, .null, .null, .ref q_1, .int 0, .int 0, .ref q_2, .ref q_4, .int 0, .ref q_6, .ref q_7, .ref q_8, .int 0, .null])), (sh, .inr (5, [sh_0, .ref tm, sh_2, sh_3, sh_4, sh_5, sh_6, sh_7, sh_8, sh_9, sh_10])), (q_1, .inl (cB, 256, .inl (fun _ => 0))), (q_2, .inr (0, [.int 3, .ref x1_3, .int 0])), (x1_3, .inl (cI, 48, .inl (fun _ => 0))), (q_4, .inr (0, [.int 1, .ref x1_5, .int 0])), (x1_5, .inl (cI, 16, .inl (fun _ => 0))), (q_6, .inl (cI, 64, .inl (fun _ => 0))), (q_7, .inl (cB, 50, .inl (fun _ => 0))), (q_8, .inl (cI, 4096, .inl (fun _ => 0))), (q_9, .inr (0, [.int 0, .null, .int 0]))] H := hP
  have hD : va_D A [(h0, .inr (10, [.null, .null, .null, .ref q_1, .int 0, .int 0, .ref q_2, .ref q_4, .int 0, .ref q_6, .ref q_7, .ref q_8, .int 0, .null])), (sh, .inr (5, [sh_0, .ref tm, sh_2, sh_3, sh_4, sh_5, sh_6, sh_7, sh_8, sh_9, sh_10])), (q_1, .inl (cB, 256, .inl (fun _ => 0))), (q_2, .inr (0, [.int 3, .ref x1_3, .int 0])), (x1_3, .inl (cI, 48, .inl (fun _ => 0))), (q_4, .inr (0, [.int 1, .ref x1_5, .int 0])), (x1_5, .inl (cI, 16, .inl (fun _ => 0))), (q_6, .inl (cI, 64, .inl (fun _ => 0))), (q_7, .inl (cB, 50, .inl (fun _ => 0))), (q_8, .inl (cI, 4096, .inl (fun _ => 0))), (q_9, .inr (0, [.int 0, .null, .int 0]))] := hD
  refine W.widen (k := 9) (n := 4539) (by omega) (by omega) ?_
  refine lv_dup hx hb d_Printer_init_66 rfl ?_
  refine lv_iconst (v := 1) hx hb d_Printer_init_67 (by decide) ?_
  have hPc := hP.sub (ws' := [(q_9, .inr (0, [.int 0, .null, .int 0]))]) [10] rfl
  have hDc := hD.sub (ws' := [(q_9, .inr (0, [.int 0, .null, .int 0]))]) [10] (by decide +kernel) rfl
  have hFc := va_free (wc := [(q_9, .inr (0, [.int 0, .null, .int 0]))]) hD hS hA [10] rfl
  have hkc : 9 + 1 ≤ 10 := by omega
  have hks : 4539 + 16 ≤ 4555 := by omega
  refine va_callv (va_runI (As := [.int 1]) (rest := [.ref q_9, .ref h0]) ⟨hx, hb, hml, hown, hts⟩ (c_Pile_init1 l D cI cB cZ cS H.size q_9) (⟨callB_of 1 hts (zgood kw_43) rfl rfl rfl (hts _ kw_3) (hts _ kw_377) (by decide +kernel) ⟨Nat.le_of_ble_eq_true rfl, Nat.le_of_ble_eq_true rfl⟩, rfl, hts _ kw_42⟩) (zPreS hPc hK hN hDc) rfl rfl hl.1 rfl (lv_room (Nat.le_of_ble_eq_true rfl)) d_Printer_init_68 ⟨hkc, hks⟩) hS (fun q _ h => hFc q h) hFc (fun u t H1 locs ht hvm hw hB hz1 hk1 hS => ?_)
  obtain ⟨x1_10, hP1, hD1⟩ := hB
  rw [ht] at hP1
  obtain ⟨hP, hD⟩ := va_join (wr := [(h0, .inr (10, [.null, .null, .null, .ref q_1, .int 0, .int 0, .ref q_2, .ref q_4, .int 0, .ref q_6, .ref q_7, .ref q_8, .int 0, .null])), (sh, .inr (5, [sh_0, .ref tm, sh_2, sh_3, sh_4, sh_5, sh_6, sh_7, sh_8, sh_9, sh_10])), (q_1, .inl (cB, 256, .inl (fun _ => 0))), (q_2, .inr (0, [.int 3, .ref x1_3, .int 0])), (x1_3, .inl (cI, 48, .inl (fun _ => 0))), (q_4, .inr (0, [.int 1, .ref x1_5, .int 0])), (x1_5, .inl (cI, 16, .inl (fun _ => 0))), (q_6, .inl (cI, 64, .inl (fun _ => 0))), (q_7, .inl (cB, 50, .inl (fun _ => 0))), (q_8, .inl (cI, 4096, .inl (fun _ => 0)))]) (w1 := [(q_9, .inr (0, [.int 1, .ref x1_10, .int 0])), (x1_10, .inl (cI, 16, .inl (fun _ => 0)))]) hP hD [10] [0, 1, 2, 3, 4, 5, 6, 7, 8, 9] rfl rfl (by decide +kernel) (by decide +kernel) hk1 hFc hP1 hD1
  generalize H1 = H at hP hS ⊢
  have hP : va_P D zcl [(h0, .inr (10, [.null, .null, .null, .ref q_1, .int 0, .int 0, .ref q_2, .ref q_4, .int 0, .ref q_6, .ref q_7, .ref q_8, .int 0, .null])), (sh, .inr (5, [sh_0, .ref tm, sh_2, sh_3, sh_4, sh_5, sh_6, sh_7, sh_8, sh_9, sh_10])), (q_1, .inl (cB, 256, .inl (fun _ => 0))), (q_2, .inr (0, [.int 3, .ref x1_3, .int 0])), (x1_3, .inl (cI, 48, .inl (fun _ => 0))), (q_4, .inr (0, [.int 1, .ref x1_5, .int 0])), (x1_5, .inl (cI, 16, .inl (fun _ => 0))), (q_6, .inl (cI, 64, .inl (fun _ => 0))), (q_7, .inl (cB, 50, .inl (fun _ => 0))), (q_8, .inl (cI, 4096, .inl (fun _ => 0))), (q_9, .inr (0, [.int 1, .ref x1_10, .int 0])), (x1_10, .inl (cI, 16, .inl (fun _ => 0)))] H := hP
  have hD : va_D A [(h0, .inr (10, [.null, .null, .null, .ref q_1, .int 0, .int 0, .ref q_2, .ref q_4, .int 0, .ref q_6, .ref q_7, .ref q_8, .int 0, .null])), (sh, .inr (5, [sh_0, .ref tm, sh_2, sh_3, sh_4, sh_5, sh_6, sh_7, sh_8, sh_9, sh_10])), (q_1, .inl (cB, 256, .inl (fun _ => 0))), (q_2, .inr (0, [.int 3, .ref x1_3, .int 0])), (x1_3, .inl (cI, 48, .inl (fun _ => 0))), (q_4, .inr (0, [.int 1, .ref x1_5, .int 0])), (x1_5, .inl (cI, 16, .inl (fun _ => 0))), (q_6, .inl (cI, 64, .inl (fun _ => 0))), (q_7, .inl (cB, 50, .inl (fun _ => 0))), (q_8, .inl (cI, 4096, .inl (fun _ => 0))), (q_9, .inr (0, [.int 1, .ref x1_10, .int 0])), (x1_10, .inl (cI, 16, .inl (fun _ => 0)))] := hD
  refine W.widen (k := 10) (n := 4555) (by omega) (by omega) ?_
  refine va_putF (D := D) (ci := 10) (v := .ref q_9) (ty := (.object "ProofDesk$Pile")) (C := "ProofDesk$Printer") (T := F_Printer) (N := 14) hx hb hts in_Printer t_Printer t_Printer_ok n_Printer hown hK hP hD hS 0 rfl rfl 13 (by decide) (hts _ kw_393) (fun _ h9 => h9) rfl hin rfl (by decide +kernel) rfl rfl (Nat.le_of_ble_eq_true rfl) d_Printer_init_71 (fun H locs hP hD hS => ?_)
  have hP : va_P D zcl [(h0, .inr (10, [.null, .null, .null, .ref q_1, .int 0, .int 0, .ref q_2, .ref q_4, .int 0, .ref q_6, .ref q_7, .ref q_8, .int 0, .ref q_9])), (sh, .inr (5, [sh_0, .ref tm, sh_2, sh_3, sh_4, sh_5, sh_6, sh_7, sh_8, sh_9, sh_10])), (q_1, .inl (cB, 256, .inl (fun _ => 0))), (q_2, .inr (0, [.int 3, .ref x1_3, .int 0])), (x1_3, .inl (cI, 48, .inl (fun _ => 0))), (q_4, .inr (0, [.int 1, .ref x1_5, .int 0])), (x1_5, .inl (cI, 16, .inl (fun _ => 0))), (q_6, .inl (cI, 64, .inl (fun _ => 0))), (q_7, .inl (cB, 50, .inl (fun _ => 0))), (q_8, .inl (cI, 4096, .inl (fun _ => 0))), (q_9, .inr (0, [.int 1, .ref x1_10, .int 0])), (x1_10, .inl (cI, 16, .inl (fun _ => 0)))] H := hP
  have hD : va_D A [(h0, .inr (10, [.null, .null, .null, .ref q_1, .int 0, .int 0, .ref q_2, .ref q_4, .int 0, .ref q_6, .ref q_7, .ref q_8, .int 0, .ref q_9])), (sh, .inr (5, [sh_0, .ref tm, sh_2, sh_3, sh_4, sh_5, sh_6, sh_7, sh_8, sh_9, sh_10])), (q_1, .inl (cB, 256, .inl (fun _ => 0))), (q_2, .inr (0, [.int 3, .ref x1_3, .int 0])), (x1_3, .inl (cI, 48, .inl (fun _ => 0))), (q_4, .inr (0, [.int 1, .ref x1_5, .int 0])), (x1_5, .inl (cI, 16, .inl (fun _ => 0))), (q_6, .inl (cI, 64, .inl (fun _ => 0))), (q_7, .inl (cB, 50, .inl (fun _ => 0))), (q_8, .inl (cI, 4096, .inl (fun _ => 0))), (q_9, .inr (0, [.int 1, .ref x1_10, .int 0])), (x1_10, .inl (cI, 16, .inl (fun _ => 0)))] := hD
  refine lv_aload_n hx hb d_Printer_init_74 rfl (lv_at hl 0 rfl) ?_
  refine lv_aload_n hx hb d_Printer_init_75 rfl (lv_at hl 1 rfl) ?_
  refine va_putF (D := D) (ci := 10) (v := .ref nm) (ty := (.object "ProofDesk$Names")) (C := "ProofDesk$Printer") (T := F_Printer) (N := 14) hx hb hts in_Printer t_Printer t_Printer_ok n_Printer hown hK hP hD hS 0 rfl rfl 0 (by decide) (hts _ kw_378) (fun _ h9 => h9) rfl hin rfl (by decide +kernel) rfl rfl (Nat.le_of_ble_eq_true rfl) d_Printer_init_76 (fun H locs hP hD hS => ?_)
  have hP : va_P D zcl [(h0, .inr (10, [.ref nm, .null, .null, .ref q_1, .int 0, .int 0, .ref q_2, .ref q_4, .int 0, .ref q_6, .ref q_7, .ref q_8, .int 0, .ref q_9])), (sh, .inr (5, [sh_0, .ref tm, sh_2, sh_3, sh_4, sh_5, sh_6, sh_7, sh_8, sh_9, sh_10])), (q_1, .inl (cB, 256, .inl (fun _ => 0))), (q_2, .inr (0, [.int 3, .ref x1_3, .int 0])), (x1_3, .inl (cI, 48, .inl (fun _ => 0))), (q_4, .inr (0, [.int 1, .ref x1_5, .int 0])), (x1_5, .inl (cI, 16, .inl (fun _ => 0))), (q_6, .inl (cI, 64, .inl (fun _ => 0))), (q_7, .inl (cB, 50, .inl (fun _ => 0))), (q_8, .inl (cI, 4096, .inl (fun _ => 0))), (q_9, .inr (0, [.int 1, .ref x1_10, .int 0])), (x1_10, .inl (cI, 16, .inl (fun _ => 0)))] H := hP
  have hD : va_D A [(h0, .inr (10, [.ref nm, .null, .null, .ref q_1, .int 0, .int 0, .ref q_2, .ref q_4, .int 0, .ref q_6, .ref q_7, .ref q_8, .int 0, .ref q_9])), (sh, .inr (5, [sh_0, .ref tm, sh_2, sh_3, sh_4, sh_5, sh_6, sh_7, sh_8, sh_9, sh_10])), (q_1, .inl (cB, 256, .inl (fun _ => 0))), (q_2, .inr (0, [.int 3, .ref x1_3, .int 0])), (x1_3, .inl (cI, 48, .inl (fun _ => 0))), (q_4, .inr (0, [.int 1, .ref x1_5, .int 0])), (x1_5, .inl (cI, 16, .inl (fun _ => 0))), (q_6, .inl (cI, 64, .inl (fun _ => 0))), (q_7, .inl (cB, 50, .inl (fun _ => 0))), (q_8, .inl (cI, 4096, .inl (fun _ => 0))), (q_9, .inr (0, [.int 1, .ref x1_10, .int 0])), (x1_10, .inl (cI, 16, .inl (fun _ => 0)))] := hD
  refine lv_aload_n hx hb d_Printer_init_79 rfl (lv_at hl 0 rfl) ?_
  refine lv_aload_n hx hb d_Printer_init_80 rfl (lv_at hl 2 rfl) ?_
  refine va_getN (D := D) (ci := 5) (v := .ref tm) (C := "ProofDesk$Shelf") (T := F_Shelf) (N := 11) hx hb hts in_Shelf hown hK hP 1 rfl rfl 1 (by decide) (va_Nw.use rfl (hN _ kw_218)) (fun _ h9 => h9) rfl d_Printer_init_81 ?_
  refine va_putF (D := D) (ci := 10) (v := .ref tm) (ty := (.object "ProofDesk$Terms")) (C := "ProofDesk$Printer") (T := F_Printer) (N := 14) hx hb hts in_Printer t_Printer t_Printer_ok n_Printer hown hK hP hD hS 0 rfl rfl 1 (by decide) (hts _ kw_379) (fun _ h9 => h9) rfl hin rfl (by decide +kernel) rfl rfl (Nat.le_of_ble_eq_true rfl) d_Printer_init_84 (fun H locs hP hD hS => ?_)
  have hP : va_P D zcl [(h0, .inr (10, [.ref nm, .ref tm, .null, .ref q_1, .int 0, .int 0, .ref q_2, .ref q_4, .int 0, .ref q_6, .ref q_7, .ref q_8, .int 0, .ref q_9])), (sh, .inr (5, [sh_0, .ref tm, sh_2, sh_3, sh_4, sh_5, sh_6, sh_7, sh_8, sh_9, sh_10])), (q_1, .inl (cB, 256, .inl (fun _ => 0))), (q_2, .inr (0, [.int 3, .ref x1_3, .int 0])), (x1_3, .inl (cI, 48, .inl (fun _ => 0))), (q_4, .inr (0, [.int 1, .ref x1_5, .int 0])), (x1_5, .inl (cI, 16, .inl (fun _ => 0))), (q_6, .inl (cI, 64, .inl (fun _ => 0))), (q_7, .inl (cB, 50, .inl (fun _ => 0))), (q_8, .inl (cI, 4096, .inl (fun _ => 0))), (q_9, .inr (0, [.int 1, .ref x1_10, .int 0])), (x1_10, .inl (cI, 16, .inl (fun _ => 0)))] H := hP
  have hD : va_D A [(h0, .inr (10, [.ref nm, .ref tm, .null, .ref q_1, .int 0, .int 0, .ref q_2, .ref q_4, .int 0, .ref q_6, .ref q_7, .ref q_8, .int 0, .ref q_9])), (sh, .inr (5, [sh_0, .ref tm, sh_2, sh_3, sh_4, sh_5, sh_6, sh_7, sh_8, sh_9, sh_10])), (q_1, .inl (cB, 256, .inl (fun _ => 0))), (q_2, .inr (0, [.int 3, .ref x1_3, .int 0])), (x1_3, .inl (cI, 48, .inl (fun _ => 0))), (q_4, .inr (0, [.int 1, .ref x1_5, .int 0])), (x1_5, .inl (cI, 16, .inl (fun _ => 0))), (q_6, .inl (cI, 64, .inl (fun _ => 0))), (q_7, .inl (cB, 50, .inl (fun _ => 0))), (q_8, .inl (cI, 4096, .inl (fun _ => 0))), (q_9, .inr (0, [.int 1, .ref x1_10, .int 0])), (x1_10, .inl (cI, 16, .inl (fun _ => 0)))] := hD
  refine lv_aload_n hx hb d_Printer_init_87 rfl (lv_at hl 0 rfl) ?_
  refine lv_aload_n hx hb d_Printer_init_88 rfl (lv_at hl 2 rfl) ?_
  refine va_putF (D := D) (ci := 10) (v := .ref sh) (ty := (.object "ProofDesk$Shelf")) (C := "ProofDesk$Printer") (T := F_Printer) (N := 14) hx hb hts in_Printer t_Printer t_Printer_ok n_Printer hown hK hP hD hS 0 rfl rfl 2 (by decide) (hts _ kw_380) (fun _ h9 => h9) rfl hin rfl (by decide +kernel) rfl rfl (Nat.le_of_ble_eq_true rfl) d_Printer_init_89 (fun H locs hP hD hS => ?_)
  have hP : va_P D zcl [(h0, .inr (10, [.ref nm, .ref tm, .ref sh, .ref q_1, .int 0, .int 0, .ref q_2, .ref q_4, .int 0, .ref q_6, .ref q_7, .ref q_8, .int 0, .ref q_9])), (sh, .inr (5, [sh_0, .ref tm, sh_2, sh_3, sh_4, sh_5, sh_6, sh_7, sh_8, sh_9, sh_10])), (q_1, .inl (cB, 256, .inl (fun _ => 0))), (q_2, .inr (0, [.int 3, .ref x1_3, .int 0])), (x1_3, .inl (cI, 48, .inl (fun _ => 0))), (q_4, .inr (0, [.int 1, .ref x1_5, .int 0])), (x1_5, .inl (cI, 16, .inl (fun _ => 0))), (q_6, .inl (cI, 64, .inl (fun _ => 0))), (q_7, .inl (cB, 50, .inl (fun _ => 0))), (q_8, .inl (cI, 4096, .inl (fun _ => 0))), (q_9, .inr (0, [.int 1, .ref x1_10, .int 0])), (x1_10, .inl (cI, 16, .inl (fun _ => 0)))] H := hP
  have hD : va_D A [(h0, .inr (10, [.ref nm, .ref tm, .ref sh, .ref q_1, .int 0, .int 0, .ref q_2, .ref q_4, .int 0, .ref q_6, .ref q_7, .ref q_8, .int 0, .ref q_9])), (sh, .inr (5, [sh_0, .ref tm, sh_2, sh_3, sh_4, sh_5, sh_6, sh_7, sh_8, sh_9, sh_10])), (q_1, .inl (cB, 256, .inl (fun _ => 0))), (q_2, .inr (0, [.int 3, .ref x1_3, .int 0])), (x1_3, .inl (cI, 48, .inl (fun _ => 0))), (q_4, .inr (0, [.int 1, .ref x1_5, .int 0])), (x1_5, .inl (cI, 16, .inl (fun _ => 0))), (q_6, .inl (cI, 64, .inl (fun _ => 0))), (q_7, .inl (cB, 50, .inl (fun _ => 0))), (q_8, .inl (cI, 4096, .inl (fun _ => 0))), (q_9, .inr (0, [.int 1, .ref x1_10, .int 0])), (x1_10, .inl (cI, 16, .inl (fun _ => 0)))] := hD
  have hP9 := hP.sub (ws' := [(h0, .inr (10, [.ref nm, .ref tm, .ref sh, .ref q_1, .int 0, .int 0, .ref q_2, .ref q_4, .int 0, .ref q_6, .ref q_7, .ref q_8, .int 0, .ref q_9])), (sh, .inr (5, [sh_0, .ref tm, sh_2, sh_3, sh_4, sh_5, sh_6, sh_7, sh_8, sh_9, sh_10])), (q_1, .inl (cB, 256, .inl (fun _ => 0))), (q_2, .inr (0, [.int 3, .ref x1_3, .int 0])), (x1_3, .inl (cI, 48, .inl (fun _ => 0))), (q_4, .inr (0, [.int 1, .ref x1_5, .int 0])), (x1_5, .inl (cI, 16, .inl (fun _ => 0))), (q_6, .inl (cI, 64, .inl (fun _ => 0))), (q_7, .inl (cB, 50, .inl (fun _ => 0))), (q_8, .inl (cI, 4096, .inl (fun _ => 0))), (q_9, .inr (0, [.int 1, .ref x1_10, .int 0])), (x1_10, .inl (cI, 16, .inl (fun _ => 0)))]) [0, 1, 2, 3, 4, 5, 6, 7, 8, 9, 10, 11] rfl
  have hD9 := hD.sub (ws' := [(h0, .inr (10, [.ref nm, .ref tm, .ref sh, .ref q_1, .int 0, .int 0, .ref q_2, .ref q_4, .int 0, .ref q_6, .ref q_7, .ref q_8, .int 0, .ref q_9])), (sh, .inr (5, [sh_0, .ref tm, sh_2, sh_3, sh_4, sh_5, sh_6, sh_7, sh_8, sh_9, sh_10])), (q_1, .inl (cB, 256, .inl (fun _ => 0))), (q_2, .inr (0, [.int 3, .ref x1_3, .int 0])), (x1_3, .inl (cI, 48, .inl (fun _ => 0))), (q_4, .inr (0, [.int 1, .ref x1_5, .int 0])), (x1_5, .inl (cI, 16, .inl (fun _ => 0))), (q_6, .inl (cI, 64, .inl (fun _ => 0))), (q_7, .inl (cB, 50, .inl (fun _ => 0))), (q_8, .inl (cI, 4096, .inl (fun _ => 0))), (q_9, .inr (0, [.int 1, .ref x1_10, .int 0])), (x1_10, .inl (cI, 16, .inl (fun _ => 0)))]) [0, 1, 2, 3, 4, 5, 6, 7, 8, 9, 10, 11] (by decide +kernel) rfl
  refine W.widen (k := 10) (n := 4555) (by omega) (by omega) ?_
  exact W.vret hx hb hr (fun t ht hW => ⟨⟨(), rfl, trivial, q_1, q_2, x1_3, q_4, x1_5, q_6, q_7, q_8, q_9, x1_10, by rw [ht]; exact hP9, hD9⟩, hS.F ht⟩) hS.2.2 d_Printer_init_92
abbrev b_Typer_init : ByteArray := prog_12_method_1_code
abbrev y_Typer_init : MethodName := ⟨"ProofDesk$Typer", "<init>", "(LProofDesk$Shelf;LProofDesk$Ledger;)V"⟩
theorem d_Typer_init_0 : decode b_Typer_init 0 = .ok (.aload_n 0, 1) := by decide +kernel
theorem d_Typer_init_1 : decode b_Typer_init 1 = .ok (.invokespecial 3, 3) := by decide +kernel
theorem kw_430 : (Jvm.Cond.methodLink "ProofDesk$Typer" (3 : Nat) ({ cls := "java/lang/Object", name := "<init>", desc := "()V" } : Jvm.MethodName)) ∈ zw := List.mem_filter.mpr ⟨List.mem_append_right _ (List.mem_of_getElem? (i := 430) (by decide +kernel)), by decide +kernel⟩
theorem d_Typer_init_4 : decode b_Typer_init 4 = .ok (.aload_n 0, 1) := by decide +kernel
theorem d_Typer_init_5 : decode b_Typer_init 5 = .ok (.new 9, 3) := by decide +kernel
theorem kw_431 : (Jvm.Cond.classLink "ProofDesk$Typer" (9 : Nat) "ProofDesk$Pile") ∈ zw := List.mem_filter.mpr ⟨List.mem_append_right _ (List.mem_of_getElem? (i := 431) (by decide +kernel)), by decide +kernel⟩
theorem d_Typer_init_8 : decode b_Typer_init 8 = .ok (.dup, 1) := by decide +kernel
theorem d_Typer_init_9 : decode b_Typer_init 9 = .ok (.iconst 3, 1) := by decide +kernel
theorem d_Typer_init_10 : decode b_Typer_init 10 = .ok (.invokespecial 11, 3) := by decide +kernel
theorem kw_432 : (Jvm.Cond.methodLink "ProofDesk$Typer" (11 : Nat) ({ cls := "ProofDesk$Pile", name := "<init>", desc := "(I)V" } : Jvm.MethodName)) ∈ zw := List.mem_filter.mpr ⟨List.mem_append_right _ (List.mem_of_getElem? (i := 432) (by decide +kernel)), by decide +kernel⟩
theorem d_Typer_init_13 : decode b_Typer_init 13 = .ok (.putfield 14, 3) := by decide +kernel
theorem kw_436 : (Jvm.Cond.fieldLink "ProofDesk$Typer" (14 : Nat) "ProofDesk$Typer" "tasks" "LProofDesk$Pile;") ∈ zw := List.mem_filter.mpr ⟨List.mem_append_right _ (List.mem_of_getElem? (i := 436) (by decide +kernel)), by decide +kernel⟩
theorem d_Typer_init_16 : decode b_Typer_init 16 = .ok (.aload_n 0, 1) := by decide +kernel
theorem d_Typer_init_17 : decode b_Typer_init 17 = .ok (.new 9, 3) := by decide +kernel
theorem d_Typer_init_20 : decode b_Typer_init 20 = .ok (.dup, 1) := by decide +kernel
theorem d_Typer_init_21 : decode b_Typer_init 21 = .ok (.iconst 1, 1) := by decide +kernel
theorem d_Typer_init_22 : decode b_Typer_init 22 = .ok (.invokespecial 11, 3) := by decide +kernel
theorem d_Typer_init_25 : decode b_Typer_init 25 = .ok (.putfield 20, 3) := by decide +kernel
theorem kw_443 : (Jvm.Cond.fieldLink "ProofDesk$Typer" (20 : Nat) "ProofDesk$Typer" "results" "LProofDesk$Pile;") ∈ zw := List.mem_filter.mpr ⟨List.mem_append_right _ (List.mem_of_getElem? (i := 443) (by decide +kernel)), by decide +kernel⟩
theorem d_Typer_init_28 : decode b_Typer_init 28 = .ok (.aload_n 0, 1) := by decide +kernel
theorem d_Typer_init_29 : decode b_Typer_init 29 = .ok (.new 9, 3) := by decide +kernel
theorem d_Typer_init_32 : decode b_Typer_init 32 = .ok (.dup, 1) := by decide +kernel
theorem d_Typer_init_33 : decode b_Typer_init 33 = .ok (.iconst 3, 1) := by decide +kernel
theorem d_Typer_init_34 : decode b_Typer_init 34 = .ok (.invokespecial 11, 3) := by decide +kernel
theorem d_Typer_init_37 : decode b_Typer_init 37 = .ok (.putfield 23, 3) := by decide +kernel
theorem kw_444 : (Jvm.Cond.fieldLink "ProofDesk$Typer" (23 : Nat) "ProofDesk$Typer" "pairs" "LProofDesk$Pile;") ∈ zw := List.mem_filter.mpr ⟨List.mem_append_right _ (List.mem_of_getElem? (i := 444) (by decide +kernel)), by decide +kernel⟩
theorem d_Typer_init_40 : decode b_Typer_init 40 = .ok (.aload_n 0, 1) := by decide +kernel
theorem d_Typer_init_41 : decode b_Typer_init 41 = .ok (.sipush 128, 3) := by decide +kernel
theorem d_Typer_init_44 : decode b_Typer_init 44 = .ok (.newarray .int, 2) := by decide +kernel
theorem d_Typer_init_46 : decode b_Typer_init 46 = .ok (.putfield 26, 3) := by decide +kernel
theorem kw_445 : (Jvm.Cond.fieldLink "ProofDesk$Typer" (26 : Nat) "ProofDesk$Typer" "leftLinks" "[I") ∈ zw := List.mem_filter.mpr ⟨List.mem_append_right _ (List.mem_of_getElem? (i := 445) (by decide +kernel)), by decide +kernel⟩
theorem d_Typer_init_49 : decode b_Typer_init 49 = .ok (.aload_n 0, 1) := by decide +kernel
theorem d_Typer_init_50 : decode b_Typer_init 50 = .ok (.sipush 128, 3) := by decide +kernel
theorem d_Typer_init_53 : decode b_Typer_init 53 = .ok (.newarray .int, 2) := by decide +kernel
theorem d_Typer_init_55 : decode b_Typer_init 55 = .ok (.putfield 30, 3) := by decide +kernel
theorem kw_446 : (Jvm.Cond.fieldLink "ProofDesk$Typer" (30 : Nat) "ProofDesk$Typer" "rightLinks" "[I") ∈ zw := List.mem_filter.mpr ⟨List.mem_append_right _ (List.mem_of_getElem? (i := 446) (by decide +kernel)), by decide +kernel⟩
theorem d_Typer_init_58 : decode b_Typer_init 58 = .ok (.aload_n 0, 1) := by decide +kernel
theorem d_Typer_init_59 : decode b_Typer_init 59 = .ok (.aload_n 1, 1) := by decide +kernel
theorem d_Typer_init_60 : decode b_Typer_init 60 = .ok (.getfield 33, 3) := by decide +kernel
theorem kw_214 : (Jvm.Cond.fieldLinkNest "ProofDesk$Typer" (33 : Nat) "ProofDesk$Shelf" "terms" "LProofDesk$Terms;" "ProofDesk") ∈ zn := List.mem_filter.mpr ⟨List.mem_append_right _ (List.mem_of_getElem? (i := 214) (by decide +kernel)), by decide +kernel⟩
theorem d_Typer_init_63 : decode b_Typer_init 63 = .ok (.putfield 39, 3) := by decide +kernel
theorem kw_433 : (Jvm.Cond.fieldLink "ProofDesk$Typer" (39 : Nat) "ProofDesk$Typer" "terms" "LProofDesk$Terms;") ∈ zw := List.mem_filter.mpr ⟨List.mem_append_right _ (List.mem_of_getElem? (i := 433) (by decide +kernel)), by decide +kernel⟩
theorem d_Typer_init_66 : decode b_Typer_init 66 = .ok (.aload_n 0, 1) := by decide +kernel
theorem d_Typer_init_67 : decode b_Typer_init 67 = .ok (.aload_n 1, 1) := by decide +kernel
theorem d_Typer_init_68 : decode b_Typer_init 68 = .ok (.putfield 40, 3) := by decide +kernel
theorem kw_434 : (Jvm.Cond.fieldLink "ProofDesk$Typer" (40 : Nat) "ProofDesk$Typer" "shelf" "LProofDesk$Shelf;") ∈ zw := List.mem_filter.mpr ⟨List.mem_append_right _ (List.mem_of_getElem? (i := 434) (by decide +kernel)), by decide +kernel⟩
theorem d_Typer_init_71 : decode b_Typer_init 71 = .ok (.aload_n 0, 1) := by decide +kernel
theorem d_Typer_init_72 : decode b_Typer_init 72 = .ok (.aload_n 2, 1) := by decide +kernel
theorem d_Typer_init_73 : decode b_Typer_init 73 = .ok (.putfield 44, 3) := by decide +kernel
theorem kw_435 : (Jvm.Cond.fieldLink "ProofDesk$Typer" (44 : Nat) "ProofDesk$Typer" "ledger" "LProofDesk$Ledger;") ∈ zw := List.mem_filter.mpr ⟨List.mem_append_right _ (List.mem_of_getElem? (i := 435) (by decide +kernel)), by decide +kernel⟩
theorem d_Typer_init_76 : decode b_Typer_init 76 = .ok (.return_, 1) := by decide +kernel
set_option maxHeartbeats 4000000 in
set_option maxRecDepth 100000 in
theorem c_Typer_init (l : Launch) (D : va_G) (cI cB cZ cS : ClassId) (sz : Nat) (h0 : Nat) (sh : Nat) (le : Nat) (tm : Nat) (sh_0 : Value) (sh_2 : Value) (sh_3 : Value) (sh_4 : Value) (sh_5 : Value) (sh_6 : Value) (sh_7 : Value) (sh_8 : Value) (sh_9 : Value) (sh_10 : Value) : Met l y_Typer_init (zc y_Typer_init b_Typer_init 3 none) ({ frames := 2, cells := 8, slots := 377, locals := 33 }) (zPc D (zty cI cB cZ cS) [(h0, .inr (8, [.null, .null, .null, .null, .int 0, .int 0, .int 0, .null, .null, .null, .null])), (sh, .inr (5, [sh_0, .ref tm, sh_2, sh_3, sh_4, sh_5, sh_6, sh_7, sh_8, sh_9, sh_10]))] sz [.ref h0, .ref sh, .ref le]) (va_Qv (fun _ : Unit => True) (fun _ t => ∃ x1 x2 x3 x4 x5 x6 x7 x8 : Nat, va_P D zcl [(h0, .inr (8, [.ref tm, .ref sh, .ref le, .ref x1, .int 0, .int 0, .int 0, .ref x3, .ref x5, .ref x7, .ref x8])), (sh, .inr (5, [sh_0, .ref tm, sh_2, sh_3, sh_4, sh_5, sh_6, sh_7, sh_8, sh_9, sh_10])), (x1, .inr (0, [.int 3, .ref x2, .int 0])), (x2, .inl (cI, 48, .inl (fun _ => 0))), (x3, .inr (0, [.int 1, .ref x4, .int 0])), (x4, .inl (cI, 16, .inl (fun _ => 0))), (x5, .inr (0, [.int 3, .ref x6, .int 0])), (x6, .inl (cI, 48, .inl (fun _ => 0))), (x7, .inl (cI, 128, .inl (fun _ => 0))), (x8, .inl (cI, 128, .inl (fun _ => 0)))] t.heap ∧ va_D (va_A [(h0, .inr (8, [.null, .null, .null, .null, .int 0, .int 0, .int 0, .null, .null, .null, .null])), (sh, .inr (5, [sh_0, .ref tm, sh_2, sh_3, sh_4, sh_5, sh_6, sh_7, sh_8, sh_9, sh_10]))] sz) [(h0, .inr (8, [.ref tm, .ref sh, .ref le, .ref x1, .int 0, .int 0, .int 0, .ref x3, .ref x5, .ref x7, .ref x8])), (sh, .inr (5, [sh_0, .ref tm, sh_2, sh_3, sh_4, sh_5, sh_6, sh_7, sh_8, sh_9, sh_10])), (x1, .inr (0, [.int 3, .ref x2, .int 0])), (x2, .inl (cI, 48, .inl (fun _ => 0))), (x3, .inr (0, [.int 1, .ref x4, .int 0])), (x4, .inl (cI, 16, .inl (fun _ => 0))), (x5, .inr (0, [.int 3, .ref x6, .int 0])), (x6, .inl (cI, 48, .inl (fun _ => 0))), (x7, .inl (cI, 128, .inl (fun _ => 0))), (x8, .inl (cI, 128, .inl (fun _ => 0)))]) (va_A [(h0, .inr (8, [.null, .null, .null, .null, .int 0, .int 0, .int 0, .null, .null, .null, .null])), (sh, .inr (5, [sh_0, .ref tm, sh_2, sh_3, sh_4, sh_5, sh_6, sh_7, sh_8, sh_9, sh_10]))] sz)) 8 377 (va_A [(h0, .inr (8, [.null, .null, .null, .null, .int 0, .int 0, .int 0, .null, .null, .null, .null])), (sh, .inr (5, [sh_0, .ref tm, sh_2, sh_3, sh_4, sh_5, sh_6, sh_7, sh_8, sh_9, sh_10]))] sz) := by
  refine Met.ofW (cc := b_Typer_init) (maxL := 3) (ret := none) (by decide) rfl ?_
  intro p e s m args below meth c s₁ B hml hv
  obtain ⟨rfl, hsz, hP, ⟨hK, hN⟩, hD0⟩ := hv
  have hx := B.exec
  have hb := B.bytes
  have hr := B.returns
  have hts0 := atoms_spec (ws := zc y_Typer_init b_Typer_init 3 none) B.pre
  have hts : ∀ w ∈ zw, w.before _ s = true := fun w hw => hts0 w (List.mem_cons_of_mem _ hw)
  have hown : s.vm.findClass "ProofDesk$Typer" = some m.cls := findClass_of_methodNamed B.named
  have hlocks := B.notSynchronized
  have hin : meth.name = "<init>" := (name_of_methodNamed B.named B.method).1
  subst hsz
  have hD := hD0.self (sz := s.heap.size)
  generalize hAe : va_A [(h0, .inr (8, [.null, .null, .null, .null, .int 0, .int 0, .int 0, .null, .null, .null, .null])), (sh, .inr (5, [sh_0, .ref tm, sh_2, sh_3, sh_4, sh_5, sh_6, sh_7, sh_8, sh_9, sh_10]))] s.heap.size = A at hD ⊢
  have hA : ∀ q : Nat, s.heap.size ≤ q → A q := fun q h => by rw [← hAe]; exact Or.inr h
  have hS : va_S A s.heap s.heap [] := va_S.rf
  have hP : va_P D zcl [(h0, .inr (8, [.null, .null, .null, .null, .int 0, .int 0, .int 0, .null, .null, .null, .null])), (sh, .inr (5, [sh_0, .ref tm, sh_2, sh_3, sh_4, sh_5, sh_6, sh_7, sh_8, sh_9, sh_10]))] s.heap := hP
  have hl := lv_entry ([.ref h0, .ref sh, .ref le]) (n := 3) (Nat.le_of_ble_eq_true rfl)
  rw [lg_entry_eq]
  generalize (lg_sl ([.ref h0, .ref sh, .ref le]) ++ List.replicate (3 - (lg_sl ([.ref h0, .ref sh, .ref le])).length) Slot.unset).toArray = ls at hl ⊢
  have hl : lv_has ls 3 [(0, .ref h0), (1, .ref sh), (2, .ref le)] := hl
  refine lv_aload_n hx hb d_Typer_init_0 rfl (lv_at hl 0 rfl) ?_
  refine W.objInit hx hb hown (hts _ kw_430) (hts _ kw_31) (hts _ kw_32) rfl (by rw [hml]; exact hl.1) rfl d_Typer_init_1 (Nat.le_of_ble_eq_true rfl) (Nat.le_of_ble_eq_true rfl) ?_
  refine W.eq (g2 := F0 m 4 ls []) rfl ?_
  refine lv_aload_n hx hb d_Typer_init_4 rfl (lv_at hl 0 rfl) ?_
  have hkc : 0 + 1 ≤ 8 := by omega
  have hks : 0 + 3 ≤ 377 := by omega
  refine va_new (ci := 0) (fs := z0f_Pile) (C := "ProofDesk$Pile") (T := F_Pile) (N := 3) hx hb hts in_Pile t_Pile t_Pile_ok hown (hts _ kw_431) (hts _ kw_40) (hts _ kw_3) hK hP hD hS hA rfl z0_Pile hkc hks d_Typer_init_5 (fun q_1 H hP hD hS => ?_)
  have hP : va_P D zcl [(h0, .inr (8, [.null, .null, .null, .null, .int 0, .int 0, .int 0, .null, .null, .null, .null])), (sh, .inr (5, [sh_0, .ref tm, sh_2, sh_3, sh_4, sh_5, sh_6, sh_7, sh_8, sh_9, sh_10])), (q_1, .inr (0, [.int 0, .null, .int 0]))] H := hP
  have hD : va_D A [(h0, .inr (8, [.null, .null, .null, .null, .int 0, .int 0, .int 0, .null, .null, .null, .null])), (sh, .inr (5, [sh_0, .ref tm, sh_2, sh_3, sh_4, sh_5, sh_6, sh_7, sh_8, sh_9, sh_10])), (q_1, .inr (0, [.int 0, .null, .int 0]))] := hD
  refine W.widen (k := 1) (n := 3) (by omega) (by omega) ?_
  refine lv_dup hx hb d_Typer_init_8 rfl ?_
  refine lv_iconst (v := 3) hx hb d_Typer_init_9 (by decide) ?_
  have hPc := hP.sub (ws' := [(q_1, .inr (0, [.int 0, .null, .int 0]))]) [2] rfl
  have hDc := hD.sub (ws' := [(q_1, .inr (0, [.int 0, .null, .int 0]))]) [2] (by decide +kernel) rfl
  have hFc := va_free (wc := [(q_1, .inr (0, [.int 0, .null, .int 0]))]) hD hS hA [2] rfl
  have hkc : 1 + 1 ≤ 8 := by omega
  have hks : 3 + 48 ≤ 377 := by omega
  refine va_callv (va_runI (As := [.int 3]) (rest := [.ref q_1, .ref h0]) ⟨hx, hb, hml, hown, hts⟩ (c_Pile_init3 l D cI cB cZ cS H.size q_1) (⟨callB_of 1 hts (zgood kw_43) rfl rfl rfl (hts _ kw_3) (hts _ kw_432) (by decide +kernel) ⟨Nat.le_of_ble_eq_true rfl, Nat.le_of_ble_eq_true rfl⟩, rfl, hts _ kw_42⟩) (zPreS hPc hK hN hDc) rfl rfl hl.1 rfl (lv_room (Nat.le_of_ble_eq_true rfl)) d_Typer_init_10 ⟨hkc, hks⟩) hS (fun q _ h => hFc q h) hFc (fun u t H1 locs ht hvm hw hB hz1 hk1 hS => ?_)
  obtain ⟨x1_2, hP1, hD1⟩ := hB
  rw [ht] at hP1
  obtain ⟨hP, hD⟩ := va_join (wr := [(h0, .inr (8, [.null, .null, .null, .null, .int 0, .int 0, .int 0, .null, .null, .null, .null])), (sh, .inr (5, [sh_0, .ref tm, sh_2, sh_3, sh_4, sh_5, sh_6, sh_7, sh_8, sh_9, sh_10]))]) (w1 := [(q_1, .inr (0, [.int 3, .ref x1_2, .int 0])), (x1_2, .inl (cI, 48, .inl (fun _ => 0)))]) hP hD [2] [0, 1] rfl rfl (by decide +kernel) (by decide +kernel) hk1 hFc hP1 hD1
  generalize H1 = H at hP hS ⊢
  have hP : va_P D zcl [(h0, .inr (8, [.null, .null, .null, .null, .int 0, .int 0, .int 0, .null, .null, .null, .null])), (sh, .inr (5, [sh_0, .ref tm, sh_2, sh_3, sh_4, sh_5, sh_6, sh_7, sh_8, sh_9, sh_10])), (q_1, .inr (0, [.int 3, .ref x1_2, .int 0])), (x1_2, .inl (cI, 48, .inl (fun _ => 0)))] H := hP
  have hD : va_D A [(h0, .inr (8, [.null, .null, .null, .null, .int 0, .int 0, .int 0, .null, .null, .null, .null])), (sh, .inr (5, [sh_0, .ref tm, sh_2, sh_3, sh_4, sh_5, sh_6, sh_7, sh_8, sh_9, sh_10])), (q_1, .inr (0, [.int 3, .ref x1_2, .int 0])), (x1_2, .inl (cI, 48, .inl (fun _ => 0)))] := hD
  refine W.widen (k := 2) (n := 51) (by omega) (by omega) ?_
  refine va_putF (D := D) (ci := 8) (v := .ref q_1) (ty := (.object "ProofDesk$Pile")) (C := "ProofDesk$Typer") (T := F_Typer) (N := 11) hx hb hts in_Typer t_Typer t_Typer_ok n_Typer hown hK hP hD hS 0 rfl rfl 3 (by decide) (hts _ kw_436) (fun _ h9 => h9) rfl hin rfl (by decide +kernel) rfl rfl (Nat.le_of_ble_eq_true rfl) d_Typer_init_13 (fun H locs hP hD hS => ?_)
  have hP : va_P D zcl [(h0, .inr (8, [.null, .null, .null, .ref q_1, .int 0, .int 0, .int 0, .null, .null, .null, .null])), (sh, .inr (5, [sh_0, .ref tm, sh_2, sh_3, sh_4, sh_5, sh_6, sh_7, sh_8, sh_9, sh_10])), (q_1, .inr (0, [.int 3, .ref x1_2, .int 0])), (x1_2, .inl (cI, 48, .inl (fun _ => 0)))] H := hP
  have hD : va_D A [(h0, .inr (8, [.null, .null, .null, .ref q_1, .int 0, .int 0, .int 0, .null, .null, .null, .null])), (sh, .inr (5, [sh_0, .ref tm, sh_2, sh_3, sh_4, sh_5, sh_6, sh_7, sh_8, sh_9, sh_10])), (q_1, .inr (0, [.int 3, .ref x1_2, .int 0])), (x1_2, .inl (cI, 48, .inl (fun _ => 0)))] := hD
  refine lv_aload_n hx hb d_Typer_init_16 rfl (lv_at hl 0 rfl) ?_
  have hkc : 2 + 1 ≤ 8 := by omega
  have hks : 51 + 3 ≤ 377 := by omega
  refine va_new (ci := 0) (fs := z0f_Pile) (C := "ProofDesk$Pile") (T := F_Pile) (N := 3) hx hb hts in_Pile t_Pile t_Pile_ok hown (hts _ kw_431) (hts _ kw_40) (hts _ kw_3) hK hP hD hS hA rfl z0_Pile hkc hks d_Typer_init_17 (fun q_3 H hP hD hS => ?_)
  have hP : va_P D zcl [(h0, .inr (8, [.null, .null, .null, .ref q_1, .int 0, .int 0, .int 0, .null, .null, .null, .null])), (sh, .inr (5, [sh_0, .ref tm, sh_2, sh_3, sh_4, sh_5, sh_6, sh_7, sh_8, sh_9, sh_10])), (q_1, .inr (0, [.int 3, .ref x1_2, .int 0])), (x1_2, .inl (cI, 48, .inl (fun _ => 0))), (q_3, .inr (0, [.int 0, .null, .int 0]))] H := hP
  have hD : va_D A [(h0, .inr (8, [.null, .null, .null, .ref q_1, .int 0, .int 0, .int 0, .null, .null, .null, .null])), (sh, .inr (5, [sh_0, .ref tm, sh_2, sh_3, sh_4, sh_5, sh_6, sh_7, sh_8, sh_9, sh_10])), (q_1, .inr (0, [.int 3, .ref x1_2, .int 0])), (x1_2, .inl (cI, 48, .inl (fun _ => 0))), (q_3, .inr (0, [.int 0, .null, .int 0]))] := hD
  refine W.widen (k := 3) (n := 54) (by omega) (by omega) ?_
  refine lv_dup hx hb d_Typer_init_20 rfl ?_
  refine lv_iconst (v := 1) hx hb d_Typer_init_21 (by decide) ?_
  have hPc := hP.sub (ws' := [(q_3, .inr (0, [.int 0, .null, .int 0]))]) [4] rfl
  have hDc := hD.sub (ws' := [(q_3, .inr (0, [.int 0, .null, .int 0]))]) [4] (by decide +kernel) rfl
  have hFc := va_free (wc := [(q_3, .inr (0, [.int 0, .null, .int 0]))]) hD hS hA [4] rfl
  have hkc : 3 + 1 ≤ 8 := by omega
  have hks : 54 + 16 ≤ 377 := by omega
  refine va_callv (va_runI (As := [.int 1]) (rest := [.ref q_3, .ref h0]) ⟨hx, hb, hml, hown, hts⟩ (c_Pile_init1 l D cI cB cZ cS H.size q_3) (⟨callB_of 1 hts (zgood kw_43) rfl rfl rfl (hts _ kw_3) (hts _ kw_432) (by decide +kernel) ⟨Nat.le_of_ble_eq_true rfl, Nat.le_of_ble_eq_true rfl⟩, rfl, hts _ kw_42⟩) (zPreS hPc hK hN hDc) rfl rfl hl.1 rfl (lv_room (Nat.le_of_ble_eq_true rfl)) d_Typer_init_22 ⟨hkc, hks⟩) hS (fun q _ h => hFc q h) hFc (fun u t H1 locs ht hvm hw hB hz1 hk1 hS => ?_)
  obtain ⟨x1_4, hP1, hD1⟩ := hB
  rw [ht] at hP1
  obtain ⟨hP, hD⟩ := va_join (wr := [(h0, .inr (8, [.null, .null, .null, .ref q_1, .int 0, .int 0, .int 0, .null, .null, .null, .null])), (sh, .inr (5, [sh_0, .ref tm, sh_2, sh_3, sh_4, sh_5, sh_6, sh_7, sh_8, sh_9, sh_10])), (q_1, .inr (0, [.int 3, .ref x1_2, .int 0])), (x1_2, .inl (cI, 48, .inl (fun _ => 0)))]) (w1 := [(q_3, .inr (0, [.int 1, .ref x1_4, .int 0])), (x1_4, .inl (cI, 16, .inl (fun _ => 0)))]) hP hD [4] [0, 1, 2, 3] rfl rfl (by decide +kernel) (by decide +kernel) hk1 hFc hP1 hD1
  generalize H1 = H at hP hS ⊢
  have hP : va_P D zcl [(h0, .inr (8, [.null, .null, .null, .ref q_1, .int 0, .int 0, .int 0, .null, .null, .null, .null])), (sh, .inr (5, [sh_0, .ref tm, sh_2, sh_3, sh_4, sh_5, sh_6, sh_7, sh_8, sh_9, sh_10])), (q_1, .inr (0, [.int 3, .ref x1_2, .int 0])), (x1_2, .inl (cI, 48, .inl (fun _ => 0))), (q_3, .inr (0, [.int 1, .ref x1_4, .int 0])), (x1_4, .inl (cI, 16, .inl (fun _ => 0)))] H := hP
  have hD : va_D A [(h0, .inr (8, [.null, .null, .null, .ref q_1, .int 0, .int 0, .int 0, .null, .null, .null, .null])), (sh, .inr (5, [sh_0, .ref tm, sh_2, sh_3, sh_4, sh_5, sh_6, sh_7, sh_8, sh_9, sh_10])), (q_1, .inr (0, [.int 3, .ref x1_2, .int 0])), (x1_2, .inl (cI, 48, .inl (fun _ => 0))), (q_3, .inr (0, [.int 1, .ref x1_4, .int 0])), (x1_4, .inl (cI, 16, .inl (fun _ => 0)))] := hD
  refine W.widen (k := 4) (n := 70) (by omega) (by omega) ?_
  refine va_putF (D := D) (ci := 8) (v := .ref q_3) (ty := (.object "ProofDesk$Pile")) (C := "ProofDesk$Typer") (T := F_Typer) (N := 11) hx hb hts in_Typer t_Typer t_Typer_ok n_Typer hown hK hP hD hS 0 rfl rfl 7 (by decide) (hts _ kw_443) (fun _ h9 => h9) rfl hin rfl (by decide +kernel) rfl rfl (Nat.le_of_ble_eq_true rfl) d_Typer_init_25 (fun H locs hP hD hS => ?_)
  have hP : va_P D zcl [(h0, .inr (8, [.null, .null, .null, .ref q_1, .int 0, .int 0, .int 0, .ref q_3, .null, .null, .null])), (sh, .inr (5, [sh_0, .ref tm, sh_2, sh_3, sh_4, sh_5, sh_6, sh_7, sh_8, sh_9, sh_10])), (q_1, .inr (0, [.int 3, .ref x1_2, .int 0])), (x1_2, .inl (cI, 48, .inl (fun _ => 0))), (q_3, .inr (0, [.int 1, .ref x1_4, .int 0])), (x1_4, .inl (cI, 16, .inl (fun _ => 0)))] H := hP
  have hD : va_D A [(h0, .inr (8, [.null, .null, .null, .ref q_1, .int 0, .int 0, .int 0, .ref q_3, .null, .null, .null])), (sh, .inr (5, [sh_0, .ref tm, sh_2, sh_3, sh_4, sh_5, sh_6, sh_7, sh_8, sh_9, sh_10])), (q_1, .inr (0, [.int 3, .ref x1_2, .int 0])), (x1_2, .inl (cI, 48, .inl (fun _ => 0))), (q_3, .inr (0, [.int 1, .ref x1_4, .int 0])), (x1_4, .inl (cI, 16, .inl (fun _ => 0)))] := hD
  refine lv_aload_n hx hb d_Typer_init_28 rfl (lv_at hl 0 rfl) ?_
  have hkc : 4 + 1 ≤ 8 := by omega
  have hks : 70 + 3 ≤ 377 := by omega
  refine va_new (ci := 0) (fs := z0f_Pile) (C := "ProofDesk$Pile") (T := F_Pile) (N := 3) hx hb hts in_Pile t_Pile t_Pile_ok hown (hts _ kw_431) (hts _ kw_40) (hts _ kw_3) hK hP hD hS hA rfl z0_Pile hkc hks d_Typer_init_29 (fun q_5 H hP hD hS => ?_)
  have hP : va_P D zcl [(h0, .inr (8, [.null, .null, .null, .ref q_1, .int 0, .int 0, .int 0, .ref q_3, .null, .null, .null])), (sh, .inr (5, [sh_0, .ref tm, sh_2, sh_3, sh_4, sh_5, sh_6, sh_7, sh_8, sh_9, sh_10])), (q_1, .inr (0, [.int 3, .ref x1_2, .int 0])), (x1_2, .inl (cI, 48, .inl (fun _ => 0))), (q_3, .inr (0, [.int 1, .ref x1_4, .int 0])), (x1_4, .inl (cI, 16, .inl (fun _ => 0))), (q_5, .inr (0, [.int 0, .null, .int 0]))] H := hP
  have hD : va_D A [(h0, .inr (8, [.null, .null, .null, .ref q_1, .int 0, .int 0, .int 0, .ref q_3, .null, .null, .null])), (sh, .inr (5, [sh_0, .ref tm, sh_2, sh_3, sh_4, sh_5, sh_6, sh_7, sh_8, sh_9, sh_10])), (q_1, .inr (0, [.int 3, .ref x1_2, .int 0])), (x1_2, .inl (cI, 48, .inl (fun _ => 0))), (q_3, .inr (0, [.int 1, .ref x1_4, .int 0])), (x1_4, .inl (cI, 16, .inl (fun _ => 0))), (q_5, .inr (0, [.int 0, .null, .int 0]))] := hD
  refine W.widen (k := 5) (n := 73) (by omega) (by omega) ?_
  refine lv_dup hx hb d_Typer_init_32 rfl ?_
  refine lv_iconst (v := 3) hx hb d_Typer_init_33 (by decide) ?_
  have hPc := hP.sub (ws' := [(q_5, .inr (0, [.int 0, .null, .int 0]))]) [6] rfl
  have hDc := hD.sub (ws' := [(q_5, .inr (0, [.int 0, .null, .int 0]))]) [6] (by decide +kernel) rfl
  have hFc := va_free (wc := [(q_5, .inr (0, [.int 0, .null, .int 0]))]) hD hS hA [6] rfl
  have hkc : 5 + 1 ≤ 8 := by omega
  have hks : 73 + 48 ≤ 377 := by omega
  refine va_callv (va_runI (As := [.int 3]) (rest := [.ref q_5, .ref h0]) ⟨hx, hb, hml, hown, hts⟩ (c_Pile_init3 l D cI cB cZ cS H.size q_5) (⟨callB_of 1 hts (zgood kw_43) rfl rfl rfl (hts _ kw_3) (hts _ kw_432) (by decide +kernel) ⟨Nat.le_of_ble_eq_true rfl, Nat.le_of_ble_eq_true rfl⟩, rfl, hts _ kw_42⟩) (zPreS hPc hK hN hDc) rfl rfl hl.1 rfl (lv_room (Nat.le_of_ble_eq_true rfl)) d_Typer_init_34 ⟨hkc, hks⟩) hS (fun q _ h => hFc q h) hFc (fun u t H1 locs ht hvm hw hB hz1 hk1 hS => ?_)
  obtain ⟨x1_6, hP1, hD1⟩ := hB
  rw [ht] at hP1
  obtain ⟨hP, hD⟩ := va_join (wr := [(h0, .inr (8, [.null, .null, .null, .ref q_1, .int 0, .int 0, .int 0, .ref q_3, .null, .null, .null])), (sh, .inr (5, [sh_0, .ref tm, sh_2, sh_3, sh_4, sh_5, sh_6, sh_7, sh_8, sh_9, sh_10])), (q_1, .inr (0, [.int 3, .ref x1_2, .int 0])), (x1_2, .inl (cI, 48, .inl (fun _ => 0))), (q_3, .inr (0, [.int 1, .ref x1_4, .int 0])), (x1_4, .inl (cI, 16, .inl (fun _ => 0)))]) (w1 := [(q_5, .inr (0, [.int 3, .ref x1_6, .int 0])), (x1_6, .inl (cI, 48, .inl (fun _ => 0)))]) hP hD [6] [0, 1, 2, 3, 4, 5] rfl rfl (by decide +kernel) (by decide +kernel) hk1 hFc hP1 hD1
  generalize H1 = H at hP hS ⊢
  have hP : va_P D zcl [(h0, .inr (8, [.null, .null, .null, .ref q_1, .int 0, .int 0, .int 0, .ref q_3, .null, .null, .null])), (sh, .inr (5, [sh_0, .ref tm, sh_2, sh_3, sh_4, sh_5, sh_6, sh_7, sh_8, sh_9, sh_10])), (q_1, .inr (0, [.int 3, .ref x1_2, .int 0])), (x1_2, .inl (cI, 48, .inl (fun _ => 0))), (q_3, .inr (0, [.int 1, .ref x1_4, .int 0])), (x1_4, .inl (cI, 16, .inl (fun _ => 0))), (q_5, .inr (0, [.int 3, .ref x1_6, .int 0])), (x1_6, .inl (cI, 48, .inl (fun _ => 0)))] H := hP
  have hD : va_D A [(h0, .inr (8, [.null, .null, .null, .ref q_1, .int 0, .int 0, .int 0, .ref q_3, .null, .null, .null])), (sh, .inr (5, [sh_0, .ref tm, sh_2, sh_3, sh_4, sh_5, sh_6, sh_7, sh_8, sh_9, sh_10])), (q_1, .inr (0, [.int 3, .ref x1_2, .int 0])), (x1_2, .inl (cI, 48, .inl (fun _ => 0))), (q_3, .inr (0, [.int 1, .ref x1_4, .int 0])), (x1_4, .inl (cI, 16, .inl (fun _ => 0))), (q_5, .inr (0, [.int 3, .ref x1_6, .int 0])), (x1_6, .inl (cI, 48, .inl (fun _ => 0)))] := hD
  refine W.widen (k := 6) (n := 121) (by omega) (by omega) ?_
  refine va_putF (D := D) (ci := 8) (v := .ref q_5) (ty := (.object "ProofDesk$Pile")) (C := "ProofDesk$Typer") (T := F_Typer) (N := 11) hx hb hts in_Typer t_Typer t_Typer_ok n_Typer hown hK hP hD hS 0 rfl rfl 8 (by decide) (hts _ kw_444) (fun _ h9 => h9) rfl hin rfl (by decide +kernel) rfl rfl (Nat.le_of_ble_eq_true rfl) d_Typer_init_37 (fun H locs hP hD hS => ?_)
  have hP : va_P D zcl [(h0, .inr (8, [.null, .null, .null, .ref q_1, .int 0, .int 0, .int 0, .ref q_3, .ref q_5, .null, .null])), (sh, .inr (5, [sh_0, .ref tm, sh_2, sh_3, sh_4, sh_5, sh_6, sh_7, sh_8, sh_9, sh_10])), (q_1, .inr (0, [.int 3, .ref x1_2, .int 0])), (x1_2, .inl (cI, 48, .inl (fun _ => 0))), (q_3, .inr (0, [.int 1, .ref x1_4, .int 0])), (x1_4, .inl (cI, 16, .inl (fun _ => 0))), (q_5, .inr (0, [.int 3, .ref x1_6, .int 0])), (x1_6, .inl (cI, 48, .inl (fun _ => 0)))] H := hP
  have hD : va_D A [(h0, .inr (8, [.null, .null, .null, .ref q_1, .int 0, .int 0, .int 0, .ref q_3, .ref q_5, .null, .null])), (sh, .inr (5, [sh_0, .ref tm, sh_2, sh_3, sh_4, sh_5, sh_6, sh_7, sh_8, sh_9, sh_10])), (q_1, .inr (0, [.int 3, .ref x1_2, .int 0])), (x1_2, .inl (cI, 48, .inl (fun _ => 0))), (q_3, .inr (0, [.int 1, .ref x1_4, .int 0])), (x1_4, .inl (cI, 16, .inl (fun _ => 0))), (q_5, .inr (0, [.int 3, .ref x1_6, .int 0])), (x1_6, .inl (cI, 48, .inl (fun _ => 0)))] := hD
  refine lv_aload_n hx hb d_Typer_init_40 rfl (lv_at hl 0 rfl) ?_
  refine lv_sipush (v := 128) hx hb d_Typer_init_41 (by decide) ?_
  have hkc : 6 + 1 ≤ 8 := by omega
  have hks : 121 + 128 ≤ 377 := by omega
  refine zz_newa (atype := .int) (ty := .int) (cA := cI) (a0 := (128, .inl (fun _ => 0))) (N' := 128) hx hb (hts _ kw_64) rfl hK hP hD hS hA 0 rfl (fun _ => rfl) (by decide +kernel) (by decide +kernel) (by decide) hkc hks d_Typer_init_44 (fun q_7 H hP hD hS => ?_)
  have hP : va_P D zcl [(h0, .inr (8, [.null, .null, .null, .ref q_1, .int 0, .int 0, .int 0, .ref q_3, .ref q_5, .null, .null])), (sh, .inr (5, [sh_0, .ref tm, sh_2, sh_3, sh_4, sh_5, sh_6, sh_7, sh_8, sh_9, sh_10])), (q_1, .inr (0, [.int 3, .ref x1_2, .int 0])), (x1_2, .inl (cI, 48, .inl (fun _ => 0))), (q_3, .inr (0, [.int 1, .ref x1_4, .int 0])), (x1_4, .inl (cI, 16, .inl (fun _ => 0))), (q_5, .inr (0, [.int 3, .ref x1_6, .int 0])), (x1_6, .inl (cI, 48, .inl (fun _ => 0))), (q_7, .inl (cI, 128, .inl (fun _ => 0)))] H := hP
  have hD : va_D A [(h0, .inr (8, [.null, .null, .null, .ref q_1, .int 0, .int 0, .int 0, .ref q_3, .ref q_5, .null, .null])), (sh, .inr (5, [sh_0, .ref tm, sh_2, sh_3, sh_4, sh_5, sh_6, sh_7, sh_8, sh_9, sh_10])), (q_1, .inr (0, [.int 3, .ref x1_2, .int 0])), (x1_2, .inl (cI, 48, .inl (fun _ => 0))), (q_3, .inr (0, [.int 1, .ref x1_4, .int 0])), (x1_4, .inl (cI, 16, .inl (fun _ => 0))), (q_5, .inr (0, [.int 3, .ref x1_6, .int 0])), (x1_6, .inl (cI, 48, .inl (fun _ => 0))), (q_7, .inl (cI, 128, .inl (fun _ => 0)))] := hD
  refine W.widen (k := 7) (n := 249) (by omega) (by omega) ?_
  refine va_put (D := D) (ci := 8) (v := .ref q_7) (ty := (.array .int)) (C := "ProofDesk$Typer") (T := F_Typer) (N := 11) hx hb hts in_Typer t_Typer t_Typer_ok n_Typer hown hK hP hD hS 0 rfl rfl 9 (by decide) (hts _ kw_445) (fun _ h9 => h9) rfl (by decide +kernel) rfl rfl (Nat.le_of_ble_eq_true rfl) d_Typer_init_46 (fun H locs hP hD hS => ?_)
  have hP : va_P D zcl [(h0, .inr (8, [.null, .null, .null, .ref q_1, .int 0, .int 0, .int 0, .ref q_3, .ref q_5, .ref q_7, .null])), (sh, .inr (5, [sh_0, .ref tm, sh_2, sh_3, sh_4, sh_5, sh_6, sh_7, sh_8, sh_9, sh_10])), (q_1, .inr (0, [.int 3, .ref x1_2, .int 0])), (x1_2, .inl (cI, 48, .inl (fun _ => 0))), (q_3, .inr (0, [.int 1, .ref x1_4, .int 0])), (x1_4, .inl (cI, 16, .inl (fun _ => 0))), (q_5, .inr (0, [.int 3, .ref x1_6, .int 0])), (x1_6, .inl (cI, 48, .inl (fun _ => 0))), (q_7, .inl (cI, 128, .inl (fun _ => 0)))] H := hP
  have hD : va_D A [(h0, .inr (8, [.null, .null, .null, .ref q_1, .int 0, .int 0, .int 0, .ref q_3, .ref q_5, .ref q_7, .null])), (sh, .inr (5, [sh_0, .ref tm, sh_2, sh_3, sh_4, sh_5, sh_6, sh_7, sh_8, sh_9, sh_10])), (q_1, .inr (0, [.int 3, .ref x1_2, .int 0])), (x1_2, .inl (cI, 48, .inl (fun _ => 0))), (q_3, .inr (0, [.int 1, .ref x1_4, .int 0])), (x1_4, .inl (cI, 16, .inl (fun _ => 0))), (q_5, .inr (0, [.int 3, .ref x1_6, .int 0])), (x1_6, .inl (cI, 48, .inl (fun _ => 0))), (q_7, .inl (cI, 128, .inl (fun _ => 0)))] := hD
  refine lv_aload_n hx hb d_Typer_init_49 rfl (lv_at hl 0 rfl) ?_
  refine lv_sipush (v := 128) hx hb d_Typer_init_50 (by decide) ?_
  have hkc : 7 + 1 ≤ 8 := by omega
  have hks : 249 + 128 ≤ 377 := by omega
  refine zz_newa (atype := .int) (ty := .int) (cA := cI) (a0 := (128, .inl (fun _ => 0))) (N' := 128) hx hb (hts _ kw_64) rfl hK hP hD hS hA 0 rfl (fun _ => rfl) (by decide +kernel) (by decide +kernel) (by decide) hkc hks d_Typer_init_53 (fun q_8 H hP hD hS => ?_)
  have hP : va_P D zcl [(h0, .inr (8, [.null, .null, .null, .ref q_1, .int 0, .int 0, .int 0, .ref q_3, .ref q_5, .ref q_7, .null])), (sh, .inr (5, [sh_0, .ref tm, sh_2, sh_3, sh_4, sh_5, sh_6, sh_7, sh_8, sh_9, sh_10])), (q_1, .inr (0, [.int 3, .ref x1_2, .int 0])), (x1_2, .inl (cI, 48, .inl (fun _ => 0))), (q_3, .inr (0, [.int 1, .ref x1_4, .int 0])), (x1_4, .inl (cI, 16, .inl (fun _ => 0))), (q_5, .inr (0, [.int 3, .ref x1_6, .int 0])), (x1_6, .inl (cI, 48, .inl (fun _ => 0))), (q_7, .inl (cI, 128, .inl (fun _ => 0))), (q_8, .inl (cI, 128, .inl (fun _ => 0)))] H := hP
  have hD : va_D A [(h0, .inr (8, [.null, .null, .null, .ref q_1, .int 0, .int 0, .int 0, .ref q_3, .ref q_5, .ref q_7, .null])), (sh, .inr (5, [sh_0, .ref tm, sh_2, sh_3, sh_4, sh_5, sh_6, sh_7, sh_8, sh_9, sh_10])), (q_1, .inr (0, [.int 3, .ref x1_2, .int 0])), (x1_2, .inl (cI, 48, .inl (fun _ => 0))), (q_3, .inr (0, [.int 1, .ref x1_4, .int 0])), (x1_4, .inl (cI, 16, .inl (fun _ => 0))), (q_5, .inr (0, [.int 3, .ref x1_6, .int 0])), (x1_6, .inl (cI, 48, .inl (fun _ => 0))), (q_7, .inl (cI, 128, .inl (fun _ => 0))), (q_8, .inl (cI, 128, .inl (fun _ => 0)))] := hD
  refine W.widen (k := 8) (n := 377) (by omega) (by omega) ?_
  refine va_put (D := D) (ci := 8) (v := .ref q_8) (ty := (.array .int)) (C := "ProofDesk$Typer") (T := F_Typer) (N := 11) hx hb hts in_Typer t_Typer t_Typer_ok n_Typer hown hK hP hD hS 0 rfl rfl 10 (by decide) (hts _ kw_446) (fun _ h9 => h9) rfl (by decide +kernel) rfl rfl (Nat.le_of_ble_eq_true rfl) d_Typer_init_55 (fun H locs hP hD hS => ?_)
  have hP : va_P D zcl [(h0, .inr (8, [.null, .null, .null, .ref q_1, .int 0, .int 0, .int 0, .ref q_3, .ref q_5, .ref q_7, .ref q_8])), (sh, .inr (5, [sh_0, .ref tm, sh_2, sh_3, sh_4, sh_5, sh_6, sh_7, sh_8, sh_9, sh_10])), (q_1, .inr (0, [.int 3, .ref x1_2, .int 0])), (x1_2, .inl (cI, 48, .inl (fun _ => 0))), (q_3, .inr (0, [.int 1, .ref x1_4, .int 0])), (x1_4, .inl (cI, 16, .inl (fun _ => 0))), (q_5, .inr (0, [.int 3, .ref x1_6, .int 0])), (x1_6, .inl (cI, 48, .inl (fun _ => 0))), (q_7, .inl (cI, 128, .inl (fun _ => 0))), (q_8, .inl (cI, 128, .inl (fun _ => 0)))] H := hP
  have hD : va_D A [(h0, .inr (8, [.null, .null, .null, .ref q_1, .int 0, .int 0, .int 0, .ref q_3, .ref q_5, .ref q_7, .ref q_8])), (sh, .inr (5, [sh_0, .ref tm, sh_2, sh_3, sh_4, sh_5, sh_6, sh_7, sh_8, sh_9, sh_10])), (q_1, .inr (0, [.int 3, .ref x1_2, .int 0])), (x1_2, .inl (cI, 48, .inl (fun _ => 0))), (q_3, .inr (0, [.int 1, .ref x1_4, .int 0])), (x1_4, .inl (cI, 16, .inl (fun _ => 0))), (q_5, .inr (0, [.int 3, .ref x1_6, .int 0])), (x1_6, .inl (cI, 48, .inl (fun _ => 0))), (q_7, .inl (cI, 128, .inl (fun _ => 0))), (q_8, .inl (cI, 128, .inl (fun _ => 0)))] := hD
  refine lv_aload_n hx hb d_Typer_init_58 rfl (lv_at hl 0 rfl) ?_
  refine lv_aload_n hx hb d_Typer_init_59 rfl (lv_at hl 1 rfl) ?_
  refine va_getN (D := D) (ci := 5) (v := .ref tm) (C := "ProofDesk$Shelf") (T := F_Shelf) (N := 11) hx hb hts in_Shelf hown hK hP 1 rfl rfl 1 (by decide) (va_Nw.use rfl (hN _ kw_214)) (fun _ h9 => h9) rfl d_Typer_init_60 ?_
  refine va_putF (D := D) (ci := 8) (v := .ref tm) (ty := (.object "ProofDesk$Terms")) (C := "ProofDesk$Typer") (T := F_Typer) (N := 11) hx hb hts in_Typer t_Typer t_Typer_ok n_Typer hown hK hP hD hS 0 rfl rfl 0 (by decide) (hts _ kw_433) (fun _ h9 => h9) rfl hin rfl (by decide +kernel) rfl rfl (Nat.le_of_ble_eq_true rfl) d_Typer_init_63 (fun H locs hP hD hS => ?_)
  have hP : va_P D zcl [(h0, .inr (8, [.ref tm, .null, .null, .ref q_1, .int 0, .int 0, .int 0, .ref q_3, .ref q_5, .ref q_7, .ref q_8])), (sh, .inr (5, [sh_0, .ref tm, sh_2, sh_3, sh_4, sh_5, sh_6, sh_7, sh_8, sh_9, sh_10])), (q_1, .inr (0, [.int 3, .ref x1_2, .int 0])), (x1_2, .inl (cI, 48, .inl (fun _ => 0))), (q_3, .inr (0, [.int 1, .ref x1_4, .int 0])), (x1_4, .inl (cI, 16, .inl (fun _ => 0))), (q_5, .inr (0, [.int 3, .ref x1_6, .int 0])), (x1_6, .inl (cI, 48, .inl (fun _ => 0))), (q_7, .inl (cI, 128, .inl (fun _ => 0))), (q_8, .inl (cI, 128, .inl (fun _ => 0)))] H := hP
  have hD : va_D A [(h0, .inr (8, [.ref tm, .null, .null, .ref q_1, .int 0, .int 0, .int 0, .ref q_3, .ref q_5, .ref q_7, .ref q_8])), (sh, .inr (5, [sh_0, .ref tm, sh_2, sh_3, sh_4, sh_5, sh_6, sh_7, sh_8, sh_9, sh_10])), (q_1, .inr (0, [.int 3, .ref x1_2, .int 0])), (x1_2, .inl (cI, 48, .inl (fun _ => 0))), (q_3, .inr (0, [.int 1, .ref x1_4, .int 0])), (x1_4, .inl (cI, 16, .inl (fun _ => 0))), (q_5, .inr (0, [.int 3, .ref x1_6, .int 0])), (x1_6, .inl (cI, 48, .inl (fun _ => 0))), (q_7, .inl (cI, 128, .inl (fun _ => 0))), (q_8, .inl (cI, 128, .inl (fun _ => 0)))] := hD
  refine lv_aload_n hx hb d_Typer_init_66 rfl (lv_at hl 0 rfl) ?_
  refine lv_aload_n hx hb d_Typer_init_67 rfl (lv_at hl 1 rfl) ?_
  refine va_putF (D := D) (ci := 8) (v := .ref sh) (ty := (.object "ProofDesk$Shelf")) (C := "ProofDesk$Typer") (T := F_Typer) (N := 11) hx hb hts in_Typer t_Typer t_Typer_ok n_Typer hown hK hP hD hS 0 rfl rfl 1 (by decide) (hts _ kw_434) (fun _ h9 => h9) rfl hin rfl (by decide +kernel) rfl rfl (Nat.le_of_ble_eq_true rfl) d_Typer_init_68 (fun H locs hP hD hS => ?_)
  have hP : va_P D zcl [(h0, .inr (8, [.ref tm, .ref sh, .null, .ref q_1, .int 0, .int 0, .int 0, .ref q_3, .ref q_5, .ref q_7, .ref q_8])), (sh, .inr (5, [sh_0, .ref tm, sh_2, sh_3, sh_4, sh_5, sh_6, sh_7, sh_8, sh_9, sh_10])), (q_1, .inr (0, [.int 3, .ref x1_2, .int 0])), (x1_2, .inl (cI, 48, .inl (fun _ => 0))), (q_3, .inr (0, [.int 1, .ref x1_4, .int 0])), (x1_4, .inl (cI, 16, .inl (fun _ => 0))), (q_5, .inr (0, [.int 3, .ref x1_6, .int 0])), (x1_6, .inl (cI, 48, .inl (fun _ => 0))), (q_7, .inl (cI, 128, .inl (fun _ => 0))), (q_8, .inl (cI, 128, .inl (fun _ => 0)))] H := hP
  have hD : va_D A [(h0, .inr (8, [.ref tm, .ref sh, .null, .ref q_1, .int 0, .int 0, .int 0, .ref q_3, .ref q_5, .ref q_7, .ref q_8])), (sh, .inr (5, [sh_0, .ref tm, sh_2, sh_3, sh_4, sh_5, sh_6, sh_7, sh_8, sh_9, sh_10])), (q_1, .inr (0, [.int 3, .ref x1_2, .int 0])), (x1_2, .inl (cI, 48, .inl (fun _ => 0))), (q_3, .inr (0, [.int 1, .ref x1_4, .int 0])), (x1_4, .inl (cI, 16, .inl (fun _ => 0))), (q_5, .inr (0, [.int 3, .ref x1_6, .int 0])), (x1_6, .inl (cI, 48, .inl (fun _ => 0))), (q_7, .inl (cI, 128, .inl (fun _ => 0))), (q_8, .inl (cI, 128, .inl (fun _ => 0)))] := hD
  refine lv_aload_n hx hb d_Typer_init_71 rfl (lv_at hl 0 rfl) ?_
  refine lv_aload_n hx hb d_Typer_init_72 rfl (lv_at hl 2 rfl) ?_
  refine va_putF (D := D) (ci := 8) (v := .ref le) (ty := (.object "ProofDesk$Ledger")) (C := "ProofDesk$Typer") (T := F_Typer) (N := 11) hx hb hts in_Typer t_Typer t_Typer_ok n_Typer hown hK hP hD hS 0 rfl rfl 2 (by decide) (hts _ kw_435) (fun _ h9 => h9) rfl hin rfl (by decide +kernel) rfl rfl (Nat.le_of_ble_eq_true rfl) d_Typer_init_73 (fun H locs hP hD hS => ?_)
  have hP : va_P D zcl [(h0, .inr (8, [.ref tm, .ref sh, .ref le, .ref q_1, .int 0, .int 0, .int 0, .ref q_3, .ref q_5, .ref q_7, .ref q_8])), (sh, .inr (5, [sh_0, .ref tm, sh_2, sh_3, sh_4, sh_5, sh_6, sh_7, sh_8, sh_9, sh_10])), (q_1, .inr (0, [.int 3, .ref x1_2, .int 0])), (x1_2, .inl (cI, 48, .inl (fun _ => 0))), (q_3, .inr (0, [.int 1, .ref x1_4, .int 0])), (x1_4, .inl (cI, 16, .inl (fun _ => 0))), (q_5, .inr (0, [.int 3, .ref x1_6, .int 0])), (x1_6, .inl (cI, 48, .inl (fun _ => 0))), (q_7, .inl (cI, 128, .inl (fun _ => 0))), (q_8, .inl (cI, 128, .inl (fun _ => 0)))] H := hP
  have hD : va_D A [(h0, .inr (8, [.ref tm, .ref sh, .ref le, .ref q_1, .int 0, .int 0, .int 0, .ref q_3, .ref q_5, .ref q_7, .ref q_8])), (sh, .inr (5, [sh_0, .ref tm, sh_2, sh_3, sh_4, sh_5, sh_6, sh_7, sh_8, sh_9, sh_10])), (q_1, .inr (0, [.int 3, .ref x1_2, .int 0])), (x1_2, .inl (cI, 48, .inl (fun _ => 0))), (q_3, .inr (0, [.int 1, .ref x1_4, .int 0])), (x1_4, .inl (cI, 16, .inl (fun _ => 0))), (q_5, .inr (0, [.int 3, .ref x1_6, .int 0])), (x1_6, .inl (cI, 48, .inl (fun _ => 0))), (q_7, .inl (cI, 128, .inl (fun _ => 0))), (q_8, .inl (cI, 128, .inl (fun _ => 0)))] := hD
  have hP9 := hP.sub (ws' := [(h0, .inr (8, [.ref tm, .ref sh, .ref le, .ref q_1, .int 0, .int 0, .int 0, .ref q_3, .ref q_5, .ref q_7, .ref q_8])), (sh, .inr (5, [sh_0, .ref tm, sh_2, sh_3, sh_4, sh_5, sh_6, sh_7, sh_8, sh_9, sh_10])), (q_1, .inr (0, [.int 3, .ref x1_2, .int 0])), (x1_2, .inl (cI, 48, .inl (fun _ => 0))), (q_3, .inr (0, [.int 1, .ref x1_4, .int 0])), (x1_4, .inl (cI, 16, .inl (fun _ => 0))), (q_5, .inr (0, [.int 3, .ref x1_6, .int 0])), (x1_6, .inl (cI, 48, .inl (fun _ => 0))), (q_7, .inl (cI, 128, .inl (fun _ => 0))), (q_8, .inl (cI, 128, .inl (fun _ => 0)))]) [0, 1, 2, 3, 4, 5, 6, 7, 8, 9] rfl
  have hD9 := hD.sub (ws' := [(h0, .inr (8, [.ref tm, .ref sh, .ref le, .ref q_1, .int 0, .int 0, .int 0, .ref q_3, .ref q_5, .ref q_7, .ref q_8])), (sh, .inr (5, [sh_0, .ref tm, sh_2, sh_3, sh_4, sh_5, sh_6, sh_7, sh_8, sh_9, sh_10])), (q_1, .inr (0, [.int 3, .ref x1_2, .int 0])), (x1_2, .inl (cI, 48, .inl (fun _ => 0))), (q_3, .inr (0, [.int 1, .ref x1_4, .int 0])), (x1_4, .inl (cI, 16, .inl (fun _ => 0))), (q_5, .inr (0, [.int 3, .ref x1_6, .int 0])), (x1_6, .inl (cI, 48, .inl (fun _ => 0))), (q_7, .inl (cI, 128, .inl (fun _ => 0))), (q_8, .inl (cI, 128, .inl (fun _ => 0)))]) [0, 1, 2, 3, 4, 5, 6, 7, 8, 9] (by decide +kernel) rfl
  refine W.widen (k := 8) (n := 377) (by omega) (by omega) ?_
  exact W.vret hx hb hr (fun t ht hW => ⟨⟨(), rfl, trivial, q_1, x1_2, q_3, x1_4, q_5, x1_6, q_7, q_8, by rw [ht]; exact hP9, hD9⟩, hS.F ht⟩) hS.2.2 d_Typer_init_76
abbrev b_Reducer_init : ByteArray := prog_9_method_1_code
abbrev y_Reducer_init : MethodName := ⟨"ProofDesk$Reducer", "<init>", "(LProofDesk$Shelf;LProofDesk$Ledger;)V"⟩
theorem d_Reducer_init_0 : decode b_Reducer_init 0 = .ok (.aload_n 0, 1) := by decide +kernel
theorem d_Reducer_init_1 : decode b_Reducer_init 1 = .ok (.invokespecial 3, 3) := by decide +kernel
theorem kw_475 : (Jvm.Cond.methodLink "ProofDesk$Reducer" (3 : Nat) ({ cls := "java/lang/Object", name := "<init>", desc := "()V" } : Jvm.MethodName)) ∈ zw := List.mem_filter.mpr ⟨List.mem_append_right _ (List.mem_of_getElem? (i := 475) (by decide +kernel)), by decide +kernel⟩
theorem d_Reducer_init_4 : decode b_Reducer_init 4 = .ok (.aload_n 0, 1) := by decide +kernel
theorem d_Reducer_init_5 : decode b_Reducer_init 5 = .ok (.sipush 1024, 3) := by decide +kernel
theorem d_Reducer_init_8 : decode b_Reducer_init 8 = .ok (.newarray .int, 2) := by decide +kernel
theorem d_Reducer_init_10 : decode b_Reducer_init 10 = .ok (.putfield 9, 3) := by decide +kernel
theorem kw_481 : (Jvm.Cond.fieldLink "ProofDesk$Reducer" (9 : Nat) "ProofDesk$Reducer" "heap" "[I") ∈ zw := List.mem_filter.mpr ⟨List.mem_append_right _ (List.mem_of_getElem? (i := 481) (by decide +kernel)), by decide +kernel⟩
theorem d_Reducer_init_13 : decode b_Reducer_init 13 = .ok (.aload_n 0, 1) := by decide +kernel
theorem d_Reducer_init_14 : decode b_Reducer_init 14 = .ok (.new 15, 3) := by decide +kernel
theorem kw_476 : (Jvm.Cond.classLink "ProofDesk$Reducer" (15 : Nat) "ProofDesk$Pile") ∈ zw := List.mem_filter.mpr ⟨List.mem_append_right _ (List.mem_of_getElem? (i := 476) (by decide +kernel)), by decide +kernel⟩
theorem d_Reducer_init_17 : decode b_Reducer_init 17 = .ok (.dup, 1) := by decide +kernel
theorem d_Reducer_init_18 : decode b_Reducer_init 18 = .ok (.iconst 3, 1) := by decide +kernel
theorem d_Reducer_init_19 : decode b_Reducer_init 19 = .ok (.invokespecial 17, 3) := by decide +kernel
theorem kw_477 : (Jvm.Cond.methodLink "ProofDesk$Reducer" (17 : Nat) ({ cls := "ProofDesk$Pile", name := "<init>", desc := "(I)V" } : Jvm.MethodName)) ∈ zw := List.mem_filter.mpr ⟨List.mem_append_right _ (List.mem_of_getElem? (i := 477) (by decide +kernel)), by decide +kernel⟩
theorem d_Reducer_init_22 : decode b_Reducer_init 22 = .ok (.putfield 20, 3) := by decide +kernel
theorem kw_483 : (Jvm.Cond.fieldLink "ProofDesk$Reducer" (20 : Nat) "ProofDesk$Reducer" "tasks" "LProofDesk$Pile;") ∈ zw := List.mem_filter.mpr ⟨List.mem_append_right _ (List.mem_of_getElem? (i := 483) (by decide +kernel)), by decide +kernel⟩
theorem d_Reducer_init_25 : decode b_Reducer_init 25 = .ok (.aload_n 0, 1) := by decide +kernel
theorem d_Reducer_init_26 : decode b_Reducer_init 26 = .ok (.new 15, 3) := by decide +kernel
theorem d_Reducer_init_29 : decode b_Reducer_init 29 = .ok (.dup, 1) := by decide +kernel
theorem d_Reducer_init_30 : decode b_Reducer_init 30 = .ok (.iconst 1, 1) := by decide +kernel
theorem d_Reducer_init_31 : decode b_Reducer_init 31 = .ok (.invokespecial 17, 3) := by decide +kernel
theorem d_Reducer_init_34 : decode b_Reducer_init 34 = .ok (.putfield 24, 3) := by decide +kernel
theorem kw_484 : (Jvm.Cond.fieldLink "ProofDesk$Reducer" (24 : Nat) "ProofDesk$Reducer" "results" "LProofDesk$Pile;") ∈ zw := List.mem_filter.mpr ⟨List.mem_append_right _ (List.mem_of_getElem? (i := 484) (by decide +kernel)), by decide +kernel⟩
theorem d_Reducer_init_37 : decode b_Reducer_init 37 = .ok (.aload_n 0, 1) := by decide +kernel
theorem d_Reducer_init_38 : decode b_Reducer_init 38 = .ok (.new 15, 3) := by decide +kernel
theorem d_Reducer_init_41 : decode b_Reducer_init 41 = .ok (.dup, 1) := by decide +kernel
theorem d_Reducer_init_42 : decode b_Reducer_init 42 = .ok (.iconst 3, 1) := by decide +kernel
theorem d_Reducer_init_43 : decode b_Reducer_init 43 = .ok (.invokespecial 17, 3) := by decide +kernel
theorem d_Reducer_init_46 : decode b_Reducer_init 46 = .ok (.putfield 27, 3) := by decide +kernel
theorem kw_485 : (Jvm.Cond.fieldLink "ProofDesk$Reducer" (27 : Nat) "ProofDesk$Reducer" "frames" "LProofDesk$Pile;") ∈ zw := List.mem_filter.mpr ⟨List.mem_append_right _ (List.mem_of_getElem? (i := 485) (by decide +kernel)), by decide +kernel⟩
theorem d_Reducer_init_49 : decode b_Reducer_init 49 = .ok (.aload_n 0, 1) := by decide +kernel
theorem d_Reducer_init_50 : decode b_Reducer_init 50 = .ok (.new 15, 3) := by decide +kernel
theorem d_Reducer_init_53 : decode b_Reducer_init 53 = .ok (.dup, 1) := by decide +kernel
theorem d_Reducer_init_54 : decode b_Reducer_init 54 = .ok (.iconst 1, 1) := by decide +kernel
theorem d_Reducer_init_55 : decode b_Reducer_init 55 = .ok (.invokespecial 17, 3) := by decide +kernel
theorem d_Reducer_init_58 : decode b_Reducer_init 58 = .ok (.putfield 30, 3) := by decide +kernel
theorem kw_486 : (Jvm.Cond.fieldLink "ProofDesk$Reducer" (30 : Nat) "ProofDesk$Reducer" "parts" "LProofDesk$Pile;") ∈ zw := List.mem_filter.mpr ⟨List.mem_append_right _ (List.mem_of_getElem? (i := 486) (by decide +kernel)), by decide +kernel⟩
theorem d_Reducer_init_61 : decode b_Reducer_init 61 = .ok (.aload_n 0, 1) := by decide +kernel
theorem d_Reducer_init_62 : decode b_Reducer_init 62 = .ok (.aload_n 1, 1) := by decide +kernel
theorem d_Reducer_init_63 : decode b_Reducer_init 63 = .ok (.getfield 33, 3) := by decide +kernel
theorem kw_215 : (Jvm.Cond.fieldLinkNest "ProofDesk$Reducer" (33 : Nat) "ProofDesk$Shelf" "terms" "LProofDesk$Terms;" "ProofDesk") ∈ zn := List.mem_filter.mpr ⟨List.mem_append_right _ (List.mem_of_getElem? (i := 215) (by decide +kernel)), by decide +kernel⟩
theorem d_Reducer_init_66 : decode b_Reducer_init 66 = .ok (.putfield 39, 3) := by decide +kernel
theorem kw_478 : (Jvm.Cond.fieldLink "ProofDesk$Reducer" (39 : Nat) "ProofDesk$Reducer" "terms" "LProofDesk$Terms;") ∈ zw := List.mem_filter.mpr ⟨List.mem_append_right _ (List.mem_of_getElem? (i := 478) (by decide +kernel)), by decide +kernel⟩
theorem d_Reducer_init_69 : decode b_Reducer_init 69 = .ok (.aload_n 0, 1) := by decide +kernel
theorem d_Reducer_init_70 : decode b_Reducer_init 70 = .ok (.aload_n 1, 1) := by decide +kernel
theorem d_Reducer_init_71 : decode b_Reducer_init 71 = .ok (.putfield 40, 3) := by decide +kernel
theorem kw_479 : (Jvm.Cond.fieldLink "ProofDesk$Reducer" (40 : Nat) "ProofDesk$Reducer" "shelf" "LProofDesk$Shelf;") ∈ zw := List.mem_filter.mpr ⟨List.mem_append_right _ (List.mem_of_getElem? (i := 479) (by decide +kernel)), by decide +kernel⟩
theorem d_Reducer_init_74 : decode b_Reducer_init 74 = .ok (.aload_n 0, 1) := by decide +kernel
theorem d_Reducer_init_75 : decode b_Reducer_init 75 = .ok (.aload_n 2, 1) := by decide +kernel
theorem d_Reducer_init_76 : decode b_Reducer_init 76 = .ok (.putfield 44, 3) := by decide +kernel
theorem kw_480 : (Jvm.Cond.fieldLink "ProofDesk$Reducer" (44 : Nat) "ProofDesk$Reducer" "ledger" "LProofDesk$Ledger;") ∈ zw := List.mem_filter.mpr ⟨List.mem_append_right _ (List.mem_of_getElem? (i := 480) (by decide +kernel)), by decide +kernel⟩
theorem d_Reducer_init_79 : decode b_Reducer_init 79 = .ok (.return_, 1) := by decide +kernel
set_option maxHeartbeats 4000000 in
set_option maxRecDepth 100000 in
theorem c_Reducer_init (l : Launch) (D : va_G) (cI cB cZ cS : ClassId) (sz : Nat) (h0 : Nat) (sh : Nat) (le : Nat) (tm : Nat) (sh_0 : Value) (sh_2 : Value) (sh_3 : Value) (sh_4 : Value) (sh_5 : Value) (sh_6 : Value) (sh_7 : Value) (sh_8 : Value) (sh_9 : Value) (sh_10 : Value) : Met l y_Reducer_init (zc y_Reducer_init b_Reducer_init 3 none) ({ frames := 2, cells := 9, slots := 1164, locals := 33 }) (zPc D (zty cI cB cZ cS) [(h0, .inr (7, [.null, .null, .null, .null, .int 0, .null, .null, .null, .null, .int 0, .int 0, .int 0, .int 0])), (sh, .inr (5, [sh_0, .ref tm, sh_2, sh_3, sh_4, sh_5, sh_6, sh_7, sh_8, sh_9, sh_10]))] sz [.ref h0, .ref sh, .ref le]) (va_Qv (fun _ : Unit => True) (fun _ t => ∃ x1 x2 x3 x4 x5 x6 x7 x8 x9 : Nat, va_P D zcl [(h0, .inr (7, [.ref tm, .ref sh, .ref le, .ref x1, .int 0, .ref x2, .ref x4, .ref x6, .ref x8, .int 0, .int 0, .int 0, .int 0])), (sh, .inr (5, [sh_0, .ref tm, sh_2, sh_3, sh_4, sh_5, sh_6, sh_7, sh_8, sh_9, sh_10])), (x1, .inl (cI, 1024, .inl (fun _ => 0))), (x2, .inr (0, [.int 3, .ref x3, .int 0])), (x3, .inl (cI, 48, .inl (fun _ => 0))), (x4, .inr (0, [.int 1, .ref x5, .int 0])), (x5, .inl (cI, 16, .inl (fun _ => 0))), (x6, .inr (0, [.int 3, .ref x7, .int 0])), (x7, .inl (cI, 48, .inl (fun _ => 0))), (x8, .inr (0, [.int 1, .ref x9, .int 0])), (x9, .inl (cI, 16, .inl (fun _ => 0)))] t.heap ∧ va_D (va_A [(h0, .inr (7, [.null, .null, .null, .null, .int 0, .null, .null, .null, .null, .int 0, .int 0, .int 0, .int 0])), (sh, .inr (5, [sh_0, .ref tm, sh_2, sh_3, sh_4, sh_5, sh_6, sh_7, sh_8, sh_9, sh_10]))] sz) [(h0, .inr (7, [.ref tm, .ref sh, .ref le, .ref x1, .int 0, .ref x2, .ref x4, .ref x6, .ref x8, .int 0, .int 0, .int 0, .int 0])), (sh, .inr (5, [sh_0, .ref tm, sh_2, sh_3, sh_4, sh_5, sh_6, sh_7, sh_8, sh_9, sh_10])), (x1, .inl (cI, 1024, .inl (fun _ => 0))), (x2, .inr (0, [.int 3, .ref x3, .int 0])), (x3, .inl (cI, 48, .inl (fun _ => 0))), (x4, .inr (0, [.int 1, .ref x5, .int 0])), (x5, .inl (cI, 16, .inl (fun _ => 0))), (x6, .inr (0, [.int 3, .ref x7, .int 0])), (x7, .inl (cI, 48, .inl (fun _ => 0))), (x8, .inr (0, [.int 1, .ref x9, .int 0])), (x9, .inl (cI, 16, .inl (fun _ => 0)))]) (va_A [(h0, .inr (7, [.null, .null, .null, .null, .int 0, .null, .null, .null, .null, .int 0, .int 0, .int 0, .int 0])), (sh, .inr (5, [sh_0, .ref tm, sh_2, sh_3, sh_4, sh_5, sh_6, sh_7, sh_8, sh_9, sh_10]))] sz)) 9 1164 (va_A [(h0, .inr (7, [.null, .null, .null, .null, .int 0, .null, .null, .null, .null, .int 0, .int 0, .int 0, .int 0])), (sh, .inr (5, [sh_0, .ref tm, sh_2, sh_3, sh_4, sh_5, sh_6, sh_7, sh_8, sh_9, sh_10]))] sz) := by
  refine Met.ofW (cc := b_Reducer_init) (maxL := 3) (ret := none) (by decide) rfl ?_
  intro p e s m args below meth c s₁ B hml hv
  obtain ⟨rfl, hsz, hP, ⟨hK, hN⟩, hD0⟩ := hv
  have hx := B.exec
  have hb := B.bytes
  have hr := B.returns
  have hts0 := atoms_spec (ws := zc y_Reducer_init b_Reducer_init 3 none) B.pre
  have hts : ∀ w ∈ zw, w.before _ s = true := fun w hw => hts0 w (List.mem_cons_of_mem _ hw)
  have hown : s.vm.findClass "ProofDesk$Reducer" = some m.cls := findClass_of_methodNamed B.named
  have hlocks := B.notSynchronized
  have hin : meth.name = "<init>" := (name_of_methodNamed B.named B.method).1
  subst hsz
  have hD := hD0.self (sz := s.heap.size)
  generalize hAe : va_A [(h0, .inr (7, [.null, .null, .null, .null, .int 0, .null, .null, .null, .null, .int 0, .int 0, .int 0, .int 0])), (sh, .inr (5, [sh_0, .ref tm, sh_2, sh_3, sh_4, sh_5, sh_6, sh_7, sh_8, sh_9, sh_10]))] s.heap.size = A at hD ⊢
  have hA : ∀ q : Nat, s.heap.size ≤ q → A q := fun q h => by rw [← hAe]; exact Or.inr h
  have hS : va_S A s.heap s.heap [] := va_S.rf
  have hP : va_P D zcl [(h0, .inr (7, [.null, .null, .null, .null, .int 0, .null, .null, .null, .null, .int 0, .int 0, .int 0, .int 0])), (sh, .inr (5, [sh_0, .ref tm, sh_2, sh_3, sh_4, sh_5, sh_6, sh_7, sh_8, sh_9, sh_10]))] s.heap := hP
  have hl := lv_entry ([.ref h0, .ref sh, .ref le]) (n := 3) (Nat.le_of_ble_eq_true rfl)
  rw [lg_entry_eq]
  generalize (lg_sl ([.ref h0, .ref sh, .ref le]) ++ List.replicate (3 - (lg_sl ([.ref h0, .ref sh, .ref le])).length) Slot.unset).toArray = ls at hl ⊢
  have hl : lv_has ls 3 [(0, .ref h0), (1, .ref sh), (2, .ref le)] := hl
  refine lv_aload_n hx hb d_Reducer_init_0 rfl (lv_at hl 0 rfl) ?_
  refine W.objInit hx hb hown (hts _ kw_475) (hts _ kw_31) (hts _ kw_32) rfl (by rw [hml]; exact hl.1) rfl d_Reducer_init_1 (Nat.le_of_ble_eq_true rfl) (Nat.le_of_ble_eq_true rfl) ?_
  refine W.eq (g2 := F0 m 4 ls []) rfl ?_
  refine lv_aload_n hx hb d_Reducer_init_4 rfl (lv_at hl 0 rfl) ?_
  refine lv_sipush (v := 1024) hx hb d_Reducer_init_5 (by decide) ?_
  have hkc : 0 + 1 ≤ 9 := by omega
  have hks : 0 + 1024 ≤ 1164 := by omega
  refine zz_newa (atype := .int) (ty := .int) (cA := cI) (a0 := (1024, .inl (fun _ => 0))) (N' := 1024) hx hb (hts _ kw_64) rfl hK hP hD hS hA 0 rfl (fun _ => rfl) (by decide +kernel) (by decide +kernel) (by decide) hkc hks d_Reducer_init_8 (fun q_1 H hP hD hS => ?_)
  have hP : va_P D zcl [(h0, .inr (7, [.null, .null, .null, .null, .int 0, .null, .null, .null, .null, .int 0, .int 0, .int 0, .int 0])), (sh, .inr (5, [sh_0, .ref tm, sh_2, sh_3, sh_4, sh_5, sh_6, sh_7, sh_8, sh_9, sh_10])), (q_1, .inl (cI, 1024, .inl (fun _ => 0)))] H := hP
  have hD : va_D A [(h0, .inr (7, [.null, .null, .null, .null, .int 0, .null, .null, .null, .null, .int 0, .int 0, .int 0, .int 0])), (sh, .inr (5, [sh_0, .ref tm, sh_2, sh_3, sh_4, sh_5, sh_6, sh_7, sh_8, sh_9, sh_10])), (q_1, .inl (cI, 1024, .inl (fun _ => 0)))] := hD
  refine W.widen (k := 1) (n := 1024) (by omega) (by omega) ?_
  refine va_put (D := D) (ci := 7) (v := .ref q_1) (ty := (.array .int)) (C := "ProofDesk$Reducer") (T := F_Reducer) (N := 13) hx hb hts in_Reducer t_Reducer t_Reducer_ok n_Reducer hown hK hP hD hS 0 rfl rfl 3 (by decide) (hts _ kw_481) (fun _ h9 => h9) rfl (by decide +kernel) rfl rfl (Nat.le_of_ble_eq_true rfl) d_Reducer_init_10 (fun H locs hP hD hS => ?_)
  have hP : va_P D zcl [(h0, .inr (7, [.null, .null, .null, .ref q_1, .int 0, .null, .null, .null, .null, .int 0, .int 0, .int 0, .int 0])), (sh, .inr (5, [sh_0, .ref tm, sh_2, sh_3, sh_4, sh_5, sh_6, sh_7, sh_8, sh_9, sh_10])), (q_1, .inl (cI, 1024, .inl (fun _ => 0)))] H := hP
  have hD : va_D A [(h0, .inr (7, [.null, .null, .null, .ref q_1, .int 0, .null, .null, .null, .null, .int 0, .int 0, .int 0, .int 0])), (sh, .inr (5, [sh_0, .ref tm, sh_2, sh_3, sh_4, sh_5, sh_6, sh_7, sh_8, sh_9, sh_10])), (q_1, .inl (cI, 1024, .inl (fun _ => 0)))] := hD
  refine lv_aload_n hx hb d_Reducer_init_13 rfl (lv_at hl 0 rfl) ?_
  have hkc : 1 + 1 ≤ 9 := by omega
  have hks : 1024 + 3 ≤ 1164 := by omega
  refine va_new (ci := 0) (fs := z0f_Pile) (C := "ProofDesk$Pile") (T := F_Pile) (N := 3) hx hb hts in_Pile t_Pile t_Pile_ok hown (hts _ kw_476) (hts _ kw_40) (hts _ kw_3) hK hP hD hS hA rfl z0_Pile hkc hks d_Reducer_init_14 (fun q_2 H hP hD hS => ?_)
  have hP : va_P D zcl [(h0, .inr (7, [.null, .null, .null, .ref q_1, .int 0, .null, .null, .null, .null, .int 0, .int 0, .int 0, .int 0])), (sh, .inr (5, [sh_0, .ref tm, sh_2, sh_3, sh_4, sh_5, sh_6, sh_7, sh_8, sh_9, sh_10])), (q_1, .inl (cI, 1024, .inl (fun _ => 0))), (q_2, .inr (0, [.int 0, .null, .int 0]))] H := hP
  have hD : va_D A [(h0, .inr (7, [.null, .null, .null, .ref q_1, .int 0, .null, .null, .null, .null, .int 0, .int 0, .int 0, .int 0])), (sh, .inr (5, [sh_0, .ref tm, sh_2, sh_3, sh_4, sh_5, sh_6, sh_7, sh_8, sh_9, sh_10])), (q_1, .inl (cI, 1024, .inl (fun _ => 0))), (q_2, .inr (0, [.int 0, .null, .int 0]))] := hD
  refine W.widen (k := 2) (n := 1027) (by omega) (by omega) ?_
  refine lv_dup hx hb d_Reducer_init_17 rfl ?_
  refine lv_iconst (v := 3) hx hb d_Reducer_init_18 (by decide) ?_
  have hPc := hP.sub (ws' := [(q_2, .inr (0, [.int 0, .null, .int 0]))]) [3] rfl
  have hDc := hD.sub (ws' := [(q_2, .inr (0, [.int 0, .null, .int 0]))]) [3] (by decide +kernel) rfl
  have hFc := va_free (wc := [(q_2, .inr (0, [.int 0, .null, .int 0]))]) hD hS hA [3] rfl
  have hkc : 2 + 1 ≤ 9 := by omega
  have hks : 1027 + 48 ≤ 1164 := by omega
  refine va_callv (va_runI (As := [.int 3]) (rest := [.ref q_2, .ref h0]) ⟨hx, hb, hml, hown, hts⟩ (c_Pile_init3 l D cI cB cZ cS H.size q_2) (⟨callB_of 1 hts (zgood kw_43) rfl rfl rfl (hts _ kw_3) (hts _ kw_477) (by decide +kernel) ⟨Nat.le_of_ble_eq_true rfl, Nat.le_of_ble_eq_true rfl⟩, rfl, hts _ kw_42⟩) (zPreS hPc hK hN hDc) rfl rfl hl.1 rfl (lv_room (Nat.le_of_ble_eq_true rfl)) d_Reducer_init_19 ⟨hkc, hks⟩) hS (fun q _ h => hFc q h) hFc (fun u t H1 locs ht hvm hw hB hz1 hk1 hS => ?_)
  obtain ⟨x1_3, hP1, hD1⟩ := hB
  rw [ht] at hP1
  obtain ⟨hP, hD⟩ := va_join (wr := [(h0, .inr (7, [.null, .null, .null, .ref q_1, .int 0, .null, .null, .null, .null, .int 0, .int 0, .int 0, .int 0])), (sh, .inr (5, [sh_0, .ref tm, sh_2, sh_3, sh_4, sh_5, sh_6, sh_7, sh_8, sh_9, sh_10])), (q_1, .inl (cI, 1024, .inl (fun _ => 0)))]) (w1 := [(q_2, .inr (0, [.int 3, .ref x1_3, .int 0])), (x1_3, .inl (cI, 48, .inl (fun _ => 0)))]) hP hD [3] [0, 1, 2] rfl rfl (by decide +kernel) (by decide +kernel) hk1 hFc hP1 hD1
  generalize H1 = H at hP hS ⊢
  have hP : va_P D zcl [(h0, .inr (7, [.null, .null, .null, .ref q_1, .int 0, .null, .null, .null, .null, .int 0, .int 0, .int 0, .int 0])), (sh, .inr (5, [sh_0, .ref tm, sh_2, sh_3, sh_4, sh_5, sh_6, sh_7, sh_8, sh_9, sh_10])), (q_1, .inl (cI, 1024, .inl (fun _ => 0))), (q_2, .inr (0, [.int 3, .ref x1_3, .int 0])), (x1_3, .inl (cI, 48, .inl (fun _ => 0)))] H := hP
  have hD : va_D A [(h0, .inr (7, [.null, .null, .null, .ref q_1, .int 0, .null, .null, .null, .null, .int 0, .int 0, .int 0, .int 0])), (sh, .inr (5, [sh_0, .ref tm, sh_2, sh_3, sh_4, sh_5, sh_6, sh_7, sh_8, sh_9, sh_10])), (q_1, .inl (cI, 1024, .inl (fun _ => 0))), (q_2, .inr (0, [.int 3, .ref x1_3, .int 0])), (x1_3, .inl (cI, 48, .inl (fun _ => 0)))] := hD
  refine W.widen (k := 3) (n := 1075) (by omega) (by omega) ?_
  refine va_putF (D := D) (ci := 7) (v := .ref q_2) (ty := (.object "ProofDesk$Pile")) (C := "ProofDesk$Reducer") (T := F_Reducer) (N := 13) hx hb hts in_Reducer t_Reducer t_Reducer_ok n_Reducer hown hK hP hD hS 0 rfl rfl 5 (by decide) (hts _ kw_483) (fun _ h9 => h9) rfl hin rfl (by decide +kernel) rfl rfl (Nat.le_of_ble_eq_true rfl) d_Reducer_init_22 (fun H locs hP hD hS => ?_)
  have hP : va_P D zcl [(h0, .inr (7, [.null, .null, .null, .ref q_1, .int 0, .ref q_2, .null, .null, .null, .int 0, .int 0, .int 0, .int 0])), (sh, .inr (5, [sh_0, .ref tm, sh_2, sh_3, sh_4, sh_5, sh_6, sh_7, sh_8, sh_9, sh_10])), (q_1, .inl (cI, 1024, .inl (fun _ => 0))), (q_2, .inr (0, [.int 3, .ref x1_3, .int 0])), (x1_3, .inl (cI, 48, .inl (fun _ => 0)))] H := hP
  have hD : va_D A [(h0, .inr (7, [.null, .null, .null, .ref q_1, .int 0, .ref q_2, .null, .null, .null, .int 0, .int 0, .int 0, .int 0])), (sh, .inr (5, [sh_0, .ref tm, sh_2, sh_3, sh_4, sh_5, sh_6, sh_7, sh_8, sh_9, sh_10])), (q_1, .inl (cI, 1024, .inl (fun _ => 0))), (q_2, .inr (0, [.int 3, .ref x1_3, .int 0])), (x1_3, .inl (cI, 48, .inl (fun _ => 0)))] := hD
  refine lv_aload_n hx hb d_Reducer_init_25 rfl (lv_at hl 0 rfl) ?_
  have hkc : 3 + 1 ≤ 9 := by omega
  have hks : 1075 + 3 ≤ 1164 := by omega
  refine va_new (ci := 0) (fs := z0f_Pile) (C := "ProofDesk$Pile") (T := F_Pile) (N := 3) hx hb hts in_Pile t_Pile t_Pile_ok hown (hts _ kw_476) (hts _ kw_40) (hts _ kw_3) hK hP hD hS hA rfl z0_Pile hkc hks d_Reducer_init_26 (fun q_4 H hP hD hS => ?_)
  have hP : va_P D zcl [(h0, .inr (7, [.null, .null, .null, .ref q_1, .int 0, .ref q_2, .null, .null, .null, .int 0, .int 0, .int 0, .int 0])), (sh, .inr (5, [sh_0, .ref tm, sh_2, sh_3, sh_4, sh_5, sh_6, sh_7, sh_8, sh_9, sh_10])), (q_1, .inl (cI, 1024, .inl (fun _ => 0))), (q_2, .inr (0, [.int 3, .ref x1_3, .int 0])), (x1_3, .inl (cI, 48, .inl (fun _ => 0))), (q_4, .inr (0, [.int 0, .null, .int 0]))] H := hP
  have hD : va_D A [(h0, .inr (7, [.null, .null, .null, .ref q_1, .int 0, .ref q_2, .null, .null, .null, .int 0, .int 0, .int 0, .int 0])), (sh, .inr (5, [sh_0, .ref tm, sh_2, sh_3, sh_4, sh_5, sh_6, sh_7, sh_8, sh_9, sh_10])), (q_1, .inl (cI, 1024, .inl (fun _ => 0))), (q_2, .inr (0, [.int 3, .ref x1_3, .int 0])), (x1_3, .inl (cI, 48, .inl (fun _ => 0))), (q_4, .inr (0, [.int 0, .null, .int 0]))] := hD
  refine W.widen (k := 4) (n := 1078) (by omega) (by omega) ?_
  refine lv_dup hx hb d_Reducer_init_29 rfl ?_
  refine lv_iconst (v := 1) hx hb d_Reducer_init_30 (by decide) ?_
  have hPc := hP.sub (ws' := [(q_4, .inr (0, [.int 0, .null, .int 0]))]) [5] rfl
  have hDc := hD.sub (ws' := [(q_4, .inr (0, [.int 0, .null, .int 0]))]) [5] (by decide +kernel) rfl
  have hFc := va_free (wc := [(q_4, .inr (0, [.int 0, .null, .int 0]))]) hD hS hA [5] rfl
  have hkc : 4 + 1 ≤ 9 := by omega
  have hks : 1078 + 16 ≤ 1164 := by omega
  refine va_callv (va_runI (As := [.int 1]) (rest := [.ref q_4, .ref h0]) ⟨hx, hb, hml, hown, hts⟩ (c_Pile_init1 l D cI cB cZ cS H.size q_4) (⟨callB_of 1 hts (zgood kw_43) rfl rfl rfl (hts _ kw_3) (hts _ kw_477) (by decide +kernel) ⟨Nat.le_of_ble_eq_true rfl, Nat.le_of_ble_eq_true rfl⟩, rfl, hts _ kw_42⟩) (zPreS hPc hK hN hDc) rfl rfl hl.1 rfl (lv_room (Nat.le_of_ble_eq_true rfl)) d_Reducer_init_31 ⟨hkc, hks⟩) hS (fun q _ h => hFc q h) hFc (fun u t H1 locs ht hvm hw hB hz1 hk1 hS => ?_)
  obtain ⟨x1_5, hP1, hD1⟩ := hB
  rw [ht] at hP1
  obtain ⟨hP, hD⟩ := va_join (wr := [(h0, .inr (7, [.null, .null, .null, .ref q_1, .int 0, .ref q_2, .null, .null, .null, .int 0, .int 0, .int 0, .int 0])), (sh, .inr (5, [sh_0, .ref tm, sh_2, sh_3, sh_4, sh_5, sh_6, sh_7, sh_8, sh_9, sh_10])), (q_1, .inl (cI, 1024, .inl (fun _ => 0))), (q_2, .inr (0, [.int 3, .ref x1_3, .int 0])), (x1_3, .inl (cI, 48, .inl (fun _ => 0)))]) (w1 := [(q_4, .inr (0, [.int 1, .ref x1_5, .int 0])), (x1_5, .inl (cI, 16, .inl (fun _ => 0)))]) hP hD [5] [0, 1, 2, 3, 4] rfl rfl (by decide +kernel) (by decide +kernel) hk1 hFc hP1 hD1
  generalize H1 = H at hP hS ⊢
  have hP : va_P D zcl [(h0, .inr (7, [.null, .null, .null, .ref q_1, .int 0, .ref q_2, .null, .null, .null, .int 0, .int 0, .int 0, .int 0])), (sh, .inr (5, [sh_0, .ref tm, sh_2, sh_3, sh_4, sh_5, sh_6, sh_7, sh_8, sh_9, sh_10])), (q_1, .inl (cI, 1024, .inl (fun _ => 0))), (q_2, .inr (0, [.int 3, .ref x1_3, .int 0])), (x1_3, .inl (cI, 48, .inl (fun _ => 0))), (q_4, .inr (0, [.int 1, .ref x1_5, .int 0])), (x1_5, .inl (cI, 16, .inl (fun _ => 0)))] H := hP
  have hD : va_D A [(h0, .inr (7, [.null, .null, .null, .ref q_1, .int 0, .ref q_2, .null, .null, .null, .int 0, .int 0, .int 0, .int 0])), (sh, .inr (5, [sh_0, .ref tm, sh_2, sh_3, sh_4, sh_5, sh_6, sh_7, sh_8, sh_9, sh_10])), (q_1, .inl (cI, 1024, .inl (fun _ => 0))), (q_2, .inr (0, [.int 3, .ref x1_3, .int 0])), (x1_3, .inl (cI, 48, .inl (fun _ => 0))), (q_4, .inr (0, [.int 1, .ref x1_5, .int 0])), (x1_5, .inl (cI, 16, .inl (fun _ => 0)))] := hD
  refine W.widen (k := 5) (n := 1094) (by omega) (by omega) ?_
  refine va_putF (D := D) (ci := 7) (v := .ref q_4) (ty := (.object "ProofDesk$Pile")) (C := "ProofDesk$Reducer") (T := F_Reducer) (N := 13) hx hb hts in_Reducer t_Reducer t_Reducer_ok n_Reducer hown hK hP hD hS 0 rfl rfl 6 (by decide) (hts _ kw_484) (fun _ h9 => h9) rfl hin rfl (by decide +kernel) rfl rfl (Nat.le_of_ble_eq_true rfl) d_Reducer_init_34 (fun H locs hP hD hS => ?_)
  have hP : va_P D zcl [(h0, .inr (7, [.null, .null, .null, .ref q_1, .int 0, .ref q_2, .ref q_4, .null, .null, .int 0, .int 0, .int 0, .int 0])), (sh, .inr (5, [sh_0, .ref tm, sh_2, sh_3, sh_4, sh_5, sh_6, sh_7, sh_8, sh_9, sh_10])), (q_1, .inl (cI, 1024, .inl (fun _ => 0))), (q_2, .inr (0, [.int 3, .ref x1_3, .int 0])), (x1_3, .inl (cI, 48, .inl (fun _ => 0))), (q_4, .inr (0, [.int 1, .ref x1_5, .int 0])), (x1_5, .inl (cI, 16, .inl (fun _ => 0)))] H := hP
  have hD : va_D A [(h0, .inr (7, [.null, .null, .null, .ref q_1, .int 0, .ref q_2, .ref q_4, .null, .null, .int 0, .int 0, .int 0, .int 0])), (sh, .inr (5, [sh_0, .ref tm, sh_2, sh_3, sh_4, sh_5, sh_6, sh_7, sh_8, sh_9, sh_10])), (q_1, .inl (cI, 1024, .inl (fun _ => 0))), (q_2, .inr (0, [.int 3, .ref x1_3, .int 0])), (x1_3, .inl (cI, 48, .inl (fun _ => 0))), (q_4, .inr (0, [.int 1, .ref x1_5, .int 0])), (x1_5, .inl (cI, 16, .inl (fun _ => 0)))] := hD
  refine lv_aload_n hx hb d_Reducer_init_37 rfl (lv_at hl 0 rfl) ?_
  have hkc : 5 + 1 ≤ 9 := by omega
  have hks : 1094 + 3 ≤ 1164 := by omega
  refine va_new (ci := 0) (fs := z0f_Pile) (C := "ProofDesk$Pile") (T := F_Pile) (N := 3) hx hb hts in_Pile t_Pile t_Pile_ok hown (hts _ kw_476) (hts _ kw_40) (hts _ kw_3) hK hP hD hS hA rfl z0_Pile hkc hks d_Reducer_init_38 (fun q_6 H hP hD hS => ?_)
  have hP : va_P D zcl [(h0, .inr (7, [.null, .null, .null, .ref q_1, .int 0, .ref q_2, .ref q_4, .null, .null, .int 0, .int 0, .int 0, .int 0])), (sh, .inr (5, [sh_0, .ref tm, sh_2, sh_3, sh_4, sh_5, sh_6, sh_7, sh_8, sh_9, sh_10])), (q_1, .inl (cI, 1024, .inl (fun _ => 0))), (q_2, .inr (0, [.int 3, .ref x1_3, .int 0])), (x1_3, .inl (cI, 48, .inl (fun _ => 0))), (q_4, .inr (0, [.int 1, .ref x1_5, .int 0])), (x1_5, .inl (cI, 16, .inl (fun _ => 0))), (q_6, .inr (0, [.int 0, .null, .int 0]))] H := hP
  have hD : va_D A [(h0, .inr (7, [.null, .null, .null, .ref q_1, .int 0, .ref q_2, .ref q_4, .null, .null, .int 0, .int 0, .int 0, .int 0])), (sh, .inr (5, [sh_0, .ref tm, sh_2, sh_3, sh_4, sh_5, sh_6, sh_7, sh_8, sh_9, sh_10])), (q_1, .inl (cI, 1024, .inl (fun _ => 0))), (q_2, .inr (0, [.int 3, .ref x1_3, .int 0])), (x1_3, .inl (cI, 48, .inl (fun _ => 0))), (q_4, .inr (0, [.int 1, .ref x1_5, .int 0])), (x1_5, .inl (cI, 16, .inl (fun _ => 0))), (q_6, .inr (0, [.int 0, .null, .int 0]))] := hD
  refine W.widen (k := 6) (n := 1097) (by omega) (by omega) ?_
  refine lv_dup hx hb d_Reducer_init_41 rfl ?_
  refine lv_iconst (v := 3) hx hb d_Reducer_init_42 (by decide) ?_
  have hPc := hP.sub (ws' := [(q_6, .inr (0, [.int 0, .null, .int 0]))]) [7] rfl
  have hDc := hD.sub (ws' := [(q_6, .inr (0, [.int 0, .null, .int 0]))]) [7] (by decide +kernel) rfl
  have hFc := va_free (wc := [(q_6, .inr (0, [.int 0, .null, .int 0]))]) hD hS hA [7] rfl
  have hkc : 6 + 1 ≤ 9 := by omega
  have hks : 1097 + 48 ≤ 1164 := by omega
  refine va_callv (va_runI (As := [.int 3]) (rest := [.ref q_6, .ref h0]) ⟨hx, hb, hml, hown, hts⟩ (c_Pile_init3 l D cI cB cZ cS H.size q_6) (⟨callB_of 1 hts (zgood kw_43) rfl rfl rfl (hts _ kw_3) (hts _ kw_477) (by decide +kernel) ⟨Nat.le_of_ble_eq_true rfl, Nat.le_of_ble_eq_true rfl⟩, rfl, hts _ kw_42⟩) (zPreS hPc hK hN hDc) rfl rfl hl.1 rfl (lv_room (Nat.le_of_ble_eq_true rfl)) d_Reducer_init_43 ⟨hkc, hks⟩) hS (fun q _ h => hFc q h) hFc (fun u t H1 locs ht hvm hw hB hz1 hk1 hS => ?_)
  obtain ⟨x1_7, hP1, hD1⟩ := hB
  rw [ht] at hP1
  obtain ⟨hP, hD⟩ := va_join (wr := [(h0, .inr (7, [.null, .null, .null, .ref q_1, .int 0, .ref q_2, .ref q_4, .null, .null, .int 0, .int 0, .int 0, .int 0])), (sh, .inr (5, [sh_0, .ref tm, sh_2, sh_3, sh_4, sh_5, sh_6, sh_7, sh_8, sh_9, sh_10])), (q_1, .inl (cI, 1024, .inl (fun _ => 0))), (q_2, .inr (0, [.int 3, .ref x1_3, .int 0])), (x1_3, .inl (cI, 48, .inl (fun _ => 0))), (q_4, .inr (0, [.int 1, .ref x1_5, .int 0])), (x1_5, .inl (cI, 16, .inl (fun _ => 0)))]) (w1 := [(q_6, .inr (0, [.int 3, .ref x1_7, .int 0])), (x1_7, .inl (cI, 48, .inl (fun _ => 0)))]) hP hD [7] [0, 1, 2, 3, 4, 5, 6] rfl rfl (by decide +kernel) (by decide +kernel) hk1 hFc hP1 hD1
  generalize H1 = H at hP hS ⊢
  have hP : va_P D zcl [(h0, .inr (7, [.null, .null, .null, .ref q_1, .int 0, .ref q_2, .ref q_4, .null, .null, .int 0, .int 0, .int 0, .int 0])), (sh, .inr (5, [sh_0, .ref tm, sh_2, sh_3, sh_4, sh_5, sh_6, sh_7, sh_8, sh_9, sh_10])), (q_1, .inl (cI, 1024, .inl (fun _ => 0))), (q_2, .inr (0, [.int 3, .ref x1_3, .int 0])), (x1_3, .inl (cI, 48, .inl (fun _ => 0))), (q_4, .inr (0, [.int 1, .ref x1_5, .int 0])), (x1_5, .inl (cI, 16, .inl (fun _ => 0))), (q_6, .inr (0, [.int 3, .ref x1_7, .int 0])), (x1_7, .inl (cI, 48, .inl (fun _ => 0)))] H := hP
  have hD : va_D A [(h0, .inr (7, [.null, .null, .null, .ref q_1, .int 0, .ref q_2, .ref q_4, .null, .null, .int 0, .int 0, .int 0, .int 0])), (sh, .inr (5, [sh_0, .ref tm, sh_2, sh_3, sh_4, sh_5, sh_6, sh_7, sh_8, sh_9, sh_10])), (q_1, .inl (cI, 1024, .inl (fun _ => 0))), (q_2, .inr (0, [.int 3, .ref x1_3, .int 0])), (x1_3, .inl (cI, 48, .inl (fun _ => 0))), (q_4, .inr (0, [.int 1, .ref x1_5, .int 0])), (x1_5, .inl (cI, 16, .inl (fun _ => 0))), (q_6, .inr (0, [.int 3, .ref x1_7, .int 0])), (x1_7, .inl (cI, 48, .inl (fun _ => 0)))] := hD
  refine W.widen (k := 7) (n := 1145) (by omega) (by omega) ?_
  refine va_putF (D := D) (ci := 7) (v := .ref q_6) (ty := (.object "ProofDesk$Pile")) (C := "ProofDesk$Reducer") (T := F_Reducer) (N := 13) hx hb hts in_Reducer t_Reducer t_Reducer_ok n_Reducer hown hK hP hD hS 0 rfl rfl 7 (by decide) (hts _ kw_485) (fun _ h9 => h9) rfl hin rfl (by decide +kernel) rfl rfl (Nat.le_of_ble_eq_true rfl) d_Reducer_init_46 (fun H locs hP hD hS => ?_)
  have hP : va_P D zcl [(h0, .inr (7, [.null, .null, .null, .ref q_1, .int 0, .ref q_2, .ref q_4, .ref q_6, .null, .int 0, .int 0, .int 0, .int 0])), (sh, .inr (5, [sh_0, .ref tm, sh_2, sh_3, sh_4, sh_5, sh_6, sh_7, sh_8, sh_9, sh_10])), (q_1, .inl (cI, 1024, .inl (fun _ => 0))), (q_2, .inr (0, [.int 3, .ref x1_3, .int 0])), (x1_3, .inl (cI, 48, .inl (fun _ => 0))), (q_4, .inr (0, [.int 1, .ref x1_5, .int 0])), (x1_5, .inl (cI, 16, .inl (fun _ => 0))), (q_6, .inr (0, [.int 3, .ref x1_7, .int 0])), (x1_7, .inl (cI, 48, .inl (fun _ => 0)))] H := hP
  have hD : va_D A [(h0, .inr (7, [.null, .null, .null, .ref q_1, .int 0, .ref q_2, .ref q_4, .ref q_6, .null, .int 0, .int 0, .int 0, .int 0])), (sh, .inr (5, [sh_0, .ref tm, sh_2, sh_3, sh_4, sh_5, sh_6, sh_7, sh_8, sh_9, sh_10])), (q_1, .inl (cI, 1024, .inl (fun _ => 0))), (q_2, .inr (0, [.int 3, .ref x1_3, .int 0])), (x1_3, .inl (cI, 48, .inl (fun _ => 0))), (q_4, .inr (0, [.int 1, .ref x1_5, .int 0])), (x1_5, .inl (cI, 16, .inl (fun _ => 0))), (q_6, .inr (0, [.int 3, .ref x1_7, .int 0])), (x1_7, .inl (cI, 48, .inl (fun _ => 0)))] := hD
  refine lv_aload_n hx hb d_Reducer_init_49 rfl (lv_at hl 0 rfl) ?_
  have hkc : 7 + 1 ≤ 9 := by omega
  have hks : 1145 + 3 ≤ 1164 := by omega
  refine va_new (ci := 0) (fs := z0f_Pile) (C := "ProofDesk$Pile") (T := F_Pile) (N := 3) hx hb hts in_Pile t_Pile t_Pile_ok hown (hts _ kw_476) (hts _ kw_40) (hts _ kw_3) hK hP hD hS hA rfl z0_Pile hkc hks d_Reducer_init_50 (fun q_8 H hP hD hS => ?_)
  have hP : va_P D zcl [(h0, .inr (7, [.null, .null, .null, .ref q_1, .int 0, .ref q_2, .ref q_4, .ref q_6, .null, .int 0, .int 0, .int 0, .int 0])), (sh, .inr (5, [sh_0, .ref tm, sh_2, sh_3, sh_4, sh_5, sh_6, sh_7, sh_8, sh_9, sh_10])), (q_1, .inl (cI, 1024, .inl (fun _ => 0))), (q_2, .inr (0, [.int 3, .ref x1_3, .int 0])), (x1_3, .inl (cI, 48, .inl (fun _ => 0))), (q_4, .inr (0, [.int 1, .ref x1_5, .int 0])), (x1_5, .inl (cI, 16, .inl (fun _ => 0))), (q_6, .inr (0, [.int 3, .ref x1_7, .int 0])), (x1_7, .inl (cI, 48, .inl (fun _ => 0))), (q_8, .inr (0, [.int 0, .null, .int 0]))] H := hP
  have hD : va_D A [(h0, .inr (7, [.null, .null, .null, .ref q_1, .int 0, .ref q_2, .ref q_4, .ref q_6, .null, .int 0, .int 0, .int 0, .int 0])), (sh, .inr (5, [sh_0, .ref tm, sh_2, sh_3, sh_4, sh_5, sh_6, sh_7, sh_8, sh_9, sh_10])), (q_1, .inl (cI, 1024, .inl (fun _ => 0))), (q_2, .inr (0, [.int 3, .ref x1_3, .int 0])), (x1_3, .inl (cI, 48, .inl (fun _ => 0))), (q_4, .inr (0, [.int 1, .ref x1_5, .int 0])), (x1_5, .inl (cI, 16, .inl (fun _ => 0))), (q_6, .inr (0, [.int 3, .ref x1_7, .int 0])), (x1_7, .inl (cI, 48, .inl (fun _ => 0))), (q_8, .inr (0, [.int 0, .null, .int 0]))] := hD
  refine W.widen (k := 8) (n := 1148) (by omega) (by omega) ?_
  refine lv_dup hx hb d_Reducer_init_53 rfl ?_
  refine lv_iconst (v := 1) hx hb d_Reducer_init_54 (by decide) ?_
  have hPc := hP.sub (ws' := [(q_8, .inr (0, [.int 0, .null, .int 0]))]) [9] rfl
  have hDc := hD.sub (ws' := [(q_8, .inr (0, [.int 0, .null, .int 0]))]) [9] (by decide +kernel) rfl
  have hFc := va_free (wc := [(q_8, .inr (0, [.int 0, .null, .int 0]))]) hD hS hA [9] rfl
  have hkc : 8 + 1 ≤ 9 := by omega
  have hks : 1148 + 16 ≤ 1164 := by omega
  refine va_callv (va_runI (As := [.int 1]) (rest := [.ref q_8, .ref h0]) ⟨hx, hb, hml, hown, hts⟩ (c_Pile_init1 l D cI cB cZ cS H.size q_8) (⟨callB_of 1 hts (zgood kw_43) rfl rfl rfl (hts _ kw_3) (hts _ kw_477) (by decide +kernel) ⟨Nat.le_of_ble_eq_true rfl, Nat.le_of_ble_eq_true rfl⟩, rfl, hts _ kw_42⟩) (zPreS hPc hK hN hDc) rfl rfl hl.1 rfl (lv_room (Nat.le_of_ble_eq_true rfl)) d_Reducer_init_55 ⟨hkc, hks⟩) hS (fun q _ h => hFc q h) hFc (fun u t H1 locs ht hvm hw hB hz1 hk1 hS => ?_)
  obtain ⟨x1_9, hP1, hD1⟩ := hB
  rw [ht] at hP1
  obtain ⟨hP, hD⟩ := va_join (wr := [(h0, .inr (7, [.null, .null, .null, .ref q_1, .int 0, .ref q_2, .ref q_4, .ref q_6, .null, .int 0, .int 0, .int 0, .int 0])), (sh, .inr (5, [sh_0, .ref tm, sh_2, sh_3, sh_4, sh_5, sh_6, sh_7, sh_8, sh_9, sh_10])), (q_1, .inl (cI, 1024, .inl (fun _ => 0))), (q_2, .inr (0, [.int 3, .ref x1_3, .int 0])), (x1_3, .inl (cI, 48, .inl (fun _ => 0))), (q_4, .inr (0, [.int 1, .ref x1_5, .int 0])), (x1_5, .inl (cI, 16, .inl (fun _ => 0))), (q_6, .inr (0, [.int 3, .ref x1_7, .int 0])), (x1_7, .inl (cI, 48, .inl (fun _ => 0)))]) (w1 := [(q_8, .inr (0, [.int 1, .ref x1_9, .int 0])), (x1_9, .inl (cI, 16, .inl (fun _ => 0)))]) hP hD [9] [0, 1, 2, 3, 4, 5, 6, 7, 8] rfl rfl (by decide +kernel) (by decide +kernel) hk1 hFc hP1 hD1
  generalize H1 = H at hP hS ⊢
  have hP : va_P D zcl [(h0, .inr (7, [.null, .null, .null, .ref q_1, .int 0, .ref q_2, .ref q_4, .ref q_6, .null, .int 0, .int 0, .int 0, .int 0])), (sh, .inr (5, [sh_0, .ref tm, sh_2, sh_3, sh_4, sh_5, sh_6, sh_7, sh_8, sh_9, sh_10])), (q_1, .inl (cI, 1024, .inl (fun _ => 0))), (q_2, .inr (0, [.int 3, .ref x1_3, .int 0])), (x1_3, .inl (cI, 48, .inl (fun _ => 0))), (q_4, .inr (0, [.int 1, .ref x1_5, .int 0])), (x1_5, .inl (cI, 16, .inl (fun _ => 0))), (q_6, .inr (0, [.int 3, .ref x1_7, .int 0])), (x1_7, .inl (cI, 48, .inl (fun _ => 0))), (q_8, .inr (0, [.int 1, .ref x1_9, .int 0])), (x1_9, .inl (cI, 16, .inl (fun _ => 0)))] H := hP
  have hD : va_D A [(h0, .inr (7, [.null, .null, .null, .ref q_1, .int 0, .ref q_2, .ref q_4, .ref q_6, .null, .int 0, .int 0, .int 0, .int 0])), (sh, .inr (5, [sh_0, .ref tm, sh_2, sh_3, sh_4, sh_5, sh_6, sh_7, sh_8, sh_9, sh_10])), (q_1, .inl (cI, 1024, .inl (fun _ => 0))), (q_2, .inr (0, [.int 3, .ref x1_3, .int 0])), (x1_3, .inl (cI, 48, .inl (fun _ => 0))), (q_4, .inr (0, [.int 1, .ref x1_5, .int 0])), (x1_5, .inl (cI, 16, .inl (fun _ => 0))), (q_6, .inr (0, [.int 3, .ref x1_7, .int 0])), (x1_7, .inl (cI, 48, .inl (fun _ => 0))), (q_8, .inr (0, [.int 1, .ref x1_9, .int 0])), (x1_9, .inl (cI, 16, .inl (fun _ => 0)))] := hD
  refine W.widen (k := 9) (n := 1164) (by omega) (by omega) ?_
  refine va_putF (D := D) (ci := 7) (v := .ref q_8) (ty := (.object "ProofDesk$Pile")) (C := "ProofDesk$Reducer") (T := F_Reducer) (N := 13) hx hb hts in_Reducer t_Reducer t_Reducer_ok n_Reducer hown hK hP hD hS 0 rfl rfl 8 (by decide) (hts _ kw_486) (fun _ h9 => h9) rfl hin rfl (by decide +kernel) rfl rfl (Nat.le_of_ble_eq_true rfl) d_Reducer_init_58 (fun H locs hP hD hS => ?_)
  have hP : va_P D zcl [(h0, .inr (7, [.null, .null, .null, .ref q_1, .int 0, .ref q_2, .ref q_4, .ref q_6, .ref q_8, .int 0, .int 0, .int 0, .int 0])), (sh, .inr (5, [sh_0, .ref tm, sh_2, sh_3, sh_4, sh_5, sh_6, sh_7, sh_8, sh_9, sh_10])), (q_1, .inl (cI, 1024, .inl (fun _ => 0))), (q_2, .inr (0, [.int 3, .ref x1_3, .int 0])), (x1_3, .inl (cI, 48, .inl (fun _ => 0))), (q_4, .inr (0, [.int 1, .ref x1_5, .int 0])), (x1_5, .inl (cI, 16, .inl (fun _ => 0))), (q_6, .inr (0, [.int 3, .ref x1_7, .int 0])), (x1_7, .inl (cI, 48, .inl (fun _ => 0))), (q_8, .inr (0, [.int 1, .ref x1_9, .int 0])), (x1_9, .inl (cI, 16, .inl (fun _ => 0)))] H := hP
  have hD : va_D A [(h0, .inr (7, [.null, .null, .null, .ref q_1, .int 0, .ref q_2, .ref q_4, .ref q_6, .ref q_8, .int 0, .int 0, .int 0, .int 0])), (sh, .inr (5, [sh_0, .ref tm, sh_2, sh_3, sh_4, sh_5, sh_6, sh_7, sh_8, sh_9, sh_10])), (q_1, .inl (cI, 1024, .inl (fun _ => 0))), (q_2, .inr (0, [.int 3, .ref x1_3, .int 0])), (x1_3, .inl (cI, 48, .inl (fun _ => 0))), (q_4, .inr (0, [.int 1, .ref x1_5, .int 0])), (x1_5, .inl (cI, 16, .inl (fun _ => 0))), (q_6, .inr (0, [.int 3, .ref x1_7, .int 0])), (x1_7, .inl (cI, 48, .inl (fun _ => 0))), (q_8, .inr (0, [.int 1, .ref x1_9, .int 0])), (x1_9, .inl (cI, 16, .inl (fun _ => 0)))] := hD
  refine lv_aload_n hx hb d_Reducer_init_61 rfl (lv_at hl 0 rfl) ?_
  refine lv_aload_n hx hb d_Reducer_init_62 rfl (lv_at hl 1 rfl) ?_
  refine va_getN (D := D) (ci := 5) (v := .ref tm) (C := "ProofDesk$Shelf") (T := F_Shelf) (N := 11) hx hb hts in_Shelf hown hK hP 1 rfl rfl 1 (by decide) (va_Nw.use rfl (hN _ kw_215)) (fun _ h9 => h9) rfl d_Reducer_init_63 ?_
  refine va_putF (D := D) (ci := 7) (v := .ref tm) (ty := (.object "ProofDesk$Terms")) (C := "ProofDesk$Reducer") (T := F_Reducer) (N := 13) hx hb hts in_Reducer t_Reducer t_Reducer_ok n_Reducer hown hK hP hD hS 0 rfl rfl 0 (by decide) (hts _ kw_478) (fun _ h9 => h9) rfl hin rfl (by decide +kernel) rfl rfl (Nat.le_of_ble_eq_true rfl) d_Reducer_init_66 (fun H locs hP hD hS => ?_)
  have hP : va_P D zcl [(h0, .inr (7, [.ref tm, .null, .null, .ref q_1, .int 0, .ref q_2, .ref q_4, .ref q_6, .ref q_8, .int 0, .int 0, .int 0, .int 0])), (sh, .inr (5, [sh_0, .ref tm, sh_2, sh_3, sh_4, sh_5, sh_6, sh_7, sh_8, sh_9, sh_10])), (q_1, .inl (cI, 1024, .inl (fun _ => 0))), (q_2, .inr (0, [.int 3, .ref x1_3, .int 0])), (x1_3, .inl (cI, 48, .inl (fun _ => 0))), (q_4, .inr (0, [.int 1, .ref x1_5, .int 0])), (x1_5, .inl (cI, 16, .inl (fun _ => 0))), (q_6, .inr (0, [.int 3, .ref x1_7, .int 0])), (x1_7, .inl (cI, 48, .inl (fun _ => 0))), (q_8, .inr (0, [.int 1, .ref x1_9, .int 0])), (x1_9, .inl (cI, 16, .inl (fun _ => 0)))] H := hP
  have hD : va_D A [(h0, .inr (7, [.ref tm, .null, .null, .ref q_1, .int 0, .ref q_2, .ref q_4, .ref q_6, .ref q_8, .int 0, .int 0, .int 0, .int 0])), (sh, .inr (5, [sh_0, .ref tm, sh_2, sh_3, sh_4, sh_5, sh_6, sh_7, sh_8, sh_9, sh_10])), (q_1, .inl (cI, 1024, .inl (fun _ => 0))), (q_2, .inr (0, [.int 3, .ref x1_3, .int 0])), (x1_3, .inl (cI, 48, .inl (fun _ => 0))), (q_4, .inr (0, [.int 1, .ref x1_5, .int 0])), (x1_5, .inl (cI, 16, .inl (fun _ => 0))), (q_6, .inr (0, [.int 3, .ref x1_7, .int 0])), (x1_7, .inl (cI, 48, .inl (fun _ => 0))), (q_8, .inr (0, [.int 1, .ref x1_9, .int 0])), (x1_9, .inl (cI, 16, .inl (fun _ => 0)))] := hD
  refine lv_aload_n hx hb d_Reducer_init_69 rfl (lv_at hl 0 rfl) ?_
  refine lv_aload_n hx hb d_Reducer_init_70 rfl (lv_at hl 1 rfl) ?_
  refine va_putF (D := D) (ci := 7) (v := .ref sh) (ty := (.object "ProofDesk$Shelf")) (C := "ProofDesk$Reducer") (T := F_Reducer) (N := 13) hx hb hts in_Reducer t_Reducer t_Reducer_ok n_Reducer hown hK hP hD hS 0 rfl rfl 1 (by decide) (hts _ kw_479) (fun _ h9 => h9) rfl hin rfl (by decide +kernel) rfl rfl (Nat.le_of_ble_eq_true rfl) d_Reducer_init_71 (fun H locs hP hD hS => ?_)
  have hP : va_P D zcl [(h0, .inr (7, [.ref tm, .ref sh, .null, .ref q_1, .int 0, .ref q_2, .ref q_4, .ref q_6, .ref q_8, .int 0, .int 0, .int 0, .int 0])), (sh, .inr (5, [sh_0, .ref tm, sh_2, sh_3, sh_4, sh_5, sh_6, sh_7, sh_8, sh_9, sh_10])), (q_1, .inl (cI, 1024, .inl (fun _ => 0))), (q_2, .inr (0, [.int 3, .ref x1_3, .int 0])), (x1_3, .inl (cI, 48, .inl (fun _ => 0))), (q_4, .inr (0, [.int 1, .ref x1_5, .int 0])), (x1_5, .inl (cI, 16, .inl (fun _ => 0))), (q_6, .inr (0, [.int 3, .ref x1_7, .int 0])), (x1_7, .inl (cI, 48, .inl (fun _ => 0))), (q_8, .inr (0, [.int 1, .ref x1_9, .int 0])), (x1_9, .inl (cI, 16, .inl (fun _ => 0)))] H := hP
  have hD : va_D A [(h0, .inr (7, [.ref tm, .ref sh, .null, .ref q_1, .int 0, .ref q_2, .ref q_4, .ref q_6, .ref q_8, .int 0, .int 0, .int 0, .int 0])), (sh, .inr (5, [sh_0, .ref tm, sh_2, sh_3, sh_4, sh_5, sh_6, sh_7, sh_8, sh_9, sh_10])), (q_1, .inl (cI, 1024, .inl (fun _ => 0))), (q_2, .inr (0, [.int 3, .ref x1_3, .int 0])), (x1_3, .inl (cI, 48, .inl (fun _ => 0))), (q_4, .inr (0, [.int 1, .ref x1_5, .int 0])), (x1_5, .inl (cI, 16, .inl (fun _ => 0))), (q_6, .inr (0, [.int 3, .ref x1_7, .int 0])), (x1_7, .inl (cI, 48, .inl (fun _ => 0))), (q_8, .inr (0, [.int 1, .ref x1_9, .int 0])), (x1_9, .inl (cI, 16, .inl (fun _ => 0)))] := hD
  refine lv_aload_n hx hb d_Reducer_init_74 rfl (lv_at hl 0 rfl) ?_
  refine lv_aload_n hx hb d_Reducer_init_75 rfl (lv_at hl 2 rfl) ?_
  refine va_putF (D := D) (ci := 7) (v := .ref le) (ty := (.object "ProofDesk$Ledger")) (C := "ProofDesk$Reducer") (T := F_Reducer) (N := 13) hx hb hts in_Reducer t_Reducer t_Reducer_ok n_Reducer hown hK hP hD hS 0 rfl rfl 2 (by decide) (hts _ kw_480) (fun _ h9 => h9) rfl hin rfl (by decide +kernel) rfl rfl (Nat.le_of_ble_eq_true rfl) d_Reducer_init_76 (fun H locs hP hD hS => ?_)
  have hP : va_P D zcl [(h0, .inr (7, [.ref tm, .ref sh, .ref le, .ref q_1, .int 0, .ref q_2, .ref q_4, .ref q_6, .ref q_8, .int 0, .int 0, .int 0, .int 0])), (sh, .inr (5, [sh_0, .ref tm, sh_2, sh_3, sh_4, sh_5, sh_6, sh_7, sh_8, sh_9, sh_10])), (q_1, .inl (cI, 1024, .inl (fun _ => 0))), (q_2, .inr (0, [.int 3, .ref x1_3, .int 0])), (x1_3, .inl (cI, 48, .inl (fun _ => 0))), (q_4, .inr (0, [.int 1, .ref x1_5, .int 0])), (x1_5, .inl (cI, 16, .inl (fun _ => 0))), (q_6, .inr (0, [.int 3, .ref x1_7, .int 0])), (x1_7, .inl (cI, 48, .inl (fun _ => 0))), (q_8, .inr (0, [.int 1, .ref x1_9, .int 0])), (x1_9, .inl (cI, 16, .inl (fun _ => 0)))] H := hP
  have hD : va_D A [(h0, .inr (7, [.ref tm, .ref sh, .ref le, .ref q_1, .int 0, .ref q_2, .ref q_4, .ref q_6, .ref q_8, .int 0, .int 0, .int 0, .int 0])), (sh, .inr (5, [sh_0, .ref tm, sh_2, sh_3, sh_4, sh_5, sh_6, sh_7, sh_8, sh_9, sh_10])), (q_1, .inl (cI, 1024, .inl (fun _ => 0))), (q_2, .inr (0, [.int 3, .ref x1_3, .int 0])), (x1_3, .inl (cI, 48, .inl (fun _ => 0))), (q_4, .inr (0, [.int 1, .ref x1_5, .int 0])), (x1_5, .inl (cI, 16, .inl (fun _ => 0))), (q_6, .inr (0, [.int 3, .ref x1_7, .int 0])), (x1_7, .inl (cI, 48, .inl (fun _ => 0))), (q_8, .inr (0, [.int 1, .ref x1_9, .int 0])), (x1_9, .inl (cI, 16, .inl (fun _ => 0)))] := hD
  have hP9 := hP.sub (ws' := [(h0, .inr (7, [.ref tm, .ref sh, .ref le, .ref q_1, .int 0, .ref q_2, .ref q_4, .ref q_6, .ref q_8, .int 0, .int 0, .int 0, .int 0])), (sh, .inr (5, [sh_0, .ref tm, sh_2, sh_3, sh_4, sh_5, sh_6, sh_7, sh_8, sh_9, sh_10])), (q_1, .inl (cI, 1024, .inl (fun _ => 0))), (q_2, .inr (0, [.int 3, .ref x1_3, .int 0])), (x1_3, .inl (cI, 48, .inl (fun _ => 0))), (q_4, .inr (0, [.int 1, .ref x1_5, .int 0])), (x1_5, .inl (cI, 16, .inl (fun _ => 0))), (q_6, .inr (0, [.int 3, .ref x1_7, .int 0])), (x1_7, .inl (cI, 48, .inl (fun _ => 0))), (q_8, .inr (0, [.int 1, .ref x1_9, .int 0])), (x1_9, .inl (cI, 16, .inl (fun _ => 0)))]) [0, 1, 2, 3, 4, 5, 6, 7, 8, 9, 10] rfl
  have hD9 := hD.sub (ws' := [(h0, .inr (7, [.ref tm, .ref sh, .ref le, .ref q_1, .int 0, .ref q_2, .ref q_4, .ref q_6, .ref q_8, .int 0, .int 0, .int 0, .int 0])), (sh, .inr (5, [sh_0, .ref tm, sh_2, sh_3, sh_4, sh_5, sh_6, sh_7, sh_8, sh_9, sh_10])), (q_1, .inl (cI, 1024, .inl (fun _ => 0))), (q_2, .inr (0, [.int 3, .ref x1_3, .int 0])), (x1_3, .inl (cI, 48, .inl (fun _ => 0))), (q_4, .inr (0, [.int 1, .ref x1_5, .int 0])), (x1_5, .inl (cI, 16, .inl (fun _ => 0))), (q_6, .inr (0, [.int 3, .ref x1_7, .int 0])), (x1_7, .inl (cI, 48, .inl (fun _ => 0))), (q_8, .inr (0, [.int 1, .ref x1_9, .int 0])), (x1_9, .inl (cI, 16, .inl (fun _ => 0)))]) [0, 1, 2, 3, 4, 5, 6, 7, 8, 9, 10] (by decide +kernel) rfl
  refine W.widen (k := 9) (n := 1164) (by omega) (by omega) ?_
  exact W.vret hx hb hr (fun t ht hW => ⟨⟨(), rfl, trivial, q_1, q_2, x1_3, q_4, x1_5, q_6, x1_7, q_8, x1_9, by rw [ht]; exact hP9, hD9⟩, hS.F ht⟩) hS.2.2 d_Reducer_init_79
abbrev b_Declarer_init : ByteArray := prog_2_method_1_code
abbrev y_Declarer_init : MethodName := ⟨"ProofDesk$Declarer", "<init>", "(LProofDesk$Parser;LProofDesk$Typer;LProofDesk$Reducer;LProofDesk$Printer;)V"⟩
theorem d_Declarer_init_0 : decode b_Declarer_init 0 = .ok (.aload_n 0, 1) := by decide +kernel
theorem d_Declarer_init_1 : decode b_Declarer_init 1 = .ok (.invokespecial 3, 3) := by decide +kernel
theorem kw_521 : (Jvm.Cond.methodLink "ProofDesk$Declarer" (3 : Nat) ({ cls := "java/lang/Object", name := "<init>", desc := "()V" } : Jvm.MethodName)) ∈ zw := List.mem_filter.mpr ⟨List.mem_append_right _ (List.mem_of_getElem? (i := 521) (by decide +kernel)), by decide +kernel⟩
theorem d_Declarer_init_4 : decode b_Declarer_init 4 = .ok (.aload_n 0, 1) := by decide +kernel
theorem d_Declarer_init_5 : decode b_Declarer_init 5 = .ok (.new 9, 3) := by decide +kernel
theorem kw_522 : (Jvm.Cond.classLink "ProofDesk$Declarer" (9 : Nat) "ProofDesk$Pile") ∈ zw := List.mem_filter.mpr ⟨List.mem_append_right _ (List.mem_of_getElem? (i := 522) (by decide +kernel)), by decide +kernel⟩
theorem d_Declarer_init_8 : decode b_Declarer_init 8 = .ok (.dup, 1) := by decide +kernel
theorem d_Declarer_init_9 : decode b_Declarer_init 9 = .ok (.iconst 1, 1) := by decide +kernel
theorem d_Declarer_init_10 : decode b_Declarer_init 10 = .ok (.invokespecial 11, 3) := by decide +kernel
theorem kw_523 : (Jvm.Cond.methodLink "ProofDesk$Declarer" (11 : Nat) ({ cls := "ProofDesk$Pile", name := "<init>", desc := "(I)V" } : Jvm.MethodName)) ∈ zw := List.mem_filter.mpr ⟨List.mem_append_right _ (List.mem_of_getElem? (i := 523) (by decide +kernel)), by decide +kernel⟩
theorem d_Declarer_init_13 : decode b_Declarer_init 13 = .ok (.putfield 14, 3) := by decide +kernel
theorem kw_531 : (Jvm.Cond.fieldLink "ProofDesk$Declarer" (14 : Nat) "ProofDesk$Declarer" "telescope" "LProofDesk$Pile;") ∈ zw := List.mem_filter.mpr ⟨List.mem_append_right _ (List.mem_of_getElem? (i := 531) (by decide +kernel)), by decide +kernel⟩
theorem d_Declarer_init_16 : decode b_Declarer_init 16 = .ok (.aload_n 0, 1) := by decide +kernel
theorem d_Declarer_init_17 : decode b_Declarer_init 17 = .ok (.aload_n 1, 1) := by decide +kernel
theorem d_Declarer_init_18 : decode b_Declarer_init 18 = .ok (.putfield 20, 3) := by decide +kernel
theorem kw_524 : (Jvm.Cond.fieldLink "ProofDesk$Declarer" (20 : Nat) "ProofDesk$Declarer" "declaration" "LProofDesk$Parser;") ∈ zw := List.mem_filter.mpr ⟨List.mem_append_right _ (List.mem_of_getElem? (i := 524) (by decide +kernel)), by decide +kernel⟩
theorem d_Declarer_init_21 : decode b_Declarer_init 21 = .ok (.aload_n 0, 1) := by decide +kernel
theorem d_Declarer_init_22 : decode b_Declarer_init 22 = .ok (.aload_n 2, 1) := by decide +kernel
theorem d_Declarer_init_23 : decode b_Declarer_init 23 = .ok (.putfield 24, 3) := by decide +kernel
theorem kw_525 : (Jvm.Cond.fieldLink "ProofDesk$Declarer" (24 : Nat) "ProofDesk$Declarer" "typer" "LProofDesk$Typer;") ∈ zw := List.mem_filter.mpr ⟨List.mem_append_right _ (List.mem_of_getElem? (i := 525) (by decide +kernel)), by decide +kernel⟩
theorem d_Declarer_init_26 : decode b_Declarer_init 26 = .ok (.aload_n 0, 1) := by decide +kernel
theorem d_Declarer_init_27 : decode b_Declarer_init 27 = .ok (.aload_n 3, 1) := by decide +kernel
theorem d_Declarer_init_28 : decode b_Declarer_init 28 = .ok (.putfield 28, 3) := by decide +kernel
theorem kw_526 : (Jvm.Cond.fieldLink "ProofDesk$Declarer" (28 : Nat) "ProofDesk$Declarer" "reducer" "LProofDesk$Reducer;") ∈ zw := List.mem_filter.mpr ⟨List.mem_append_right _ (List.mem_of_getElem? (i := 526) (by decide +kernel)), by decide +kernel⟩
theorem d_Declarer_init_31 : decode b_Declarer_init 31 = .ok (.aload_n 0, 1) := by decide +kernel
theorem d_Declarer_init_32 : decode b_Declarer_init 32 = .ok (.aload 4, 2) := by decide +kernel
theorem d_Declarer_init_34 : decode b_Declarer_init 34 = .ok (.putfield 32, 3) := by decide +kernel
theorem kw_527 : (Jvm.Cond.fieldLink "ProofDesk$Declarer" (32 : Nat) "ProofDesk$Declarer" "printer" "LProofDesk$Printer;") ∈ zw := List.mem_filter.mpr ⟨List.mem_append_right _ (List.mem_of_getElem? (i := 527) (by decide +kernel)), by decide +kernel⟩
theorem d_Declarer_init_37 : decode b_Declarer_init 37 = .ok (.aload_n 0, 1) := by decide +kernel
theorem d_Declarer_init_38 : decode b_Declarer_init 38 = .ok (.aload_n 1, 1) := by decide +kernel
theorem d_Declarer_init_39 : decode b_Declarer_init 39 = .ok (.getfield 36, 3) := by decide +kernel
theorem kw_301 : (Jvm.Cond.fieldLinkNest "ProofDesk$Declarer" (36 : Nat) "ProofDesk$Parser" "terms" "LProofDesk$Terms;" "ProofDesk") ∈ zn := List.mem_filter.mpr ⟨List.mem_append_right _ (List.mem_of_getElem? (i := 301) (by decide +kernel)), by decide +kernel⟩
theorem d_Declarer_init_42 : decode b_Declarer_init 42 = .ok (.putfield 42, 3) := by decide +kernel
theorem kw_528 : (Jvm.Cond.fieldLink "ProofDesk$Declarer" (42 : Nat) "ProofDesk$Declarer" "terms" "LProofDesk$Terms;") ∈ zw := List.mem_filter.mpr ⟨List.mem_append_right _ (List.mem_of_getElem? (i := 528) (by decide +kernel)), by decide +kernel⟩
theorem d_Declarer_init_45 : decode b_Declarer_init 45 = .ok (.aload_n 0, 1) := by decide +kernel
theorem d_Declarer_init_46 : decode b_Declarer_init 46 = .ok (.aload_n 1, 1) := by decide +kernel
theorem d_Declarer_init_47 : decode b_Declarer_init 47 = .ok (.getfield 43, 3) := by decide +kernel
theorem kw_303 : (Jvm.Cond.fieldLinkNest "ProofDesk$Declarer" (43 : Nat) "ProofDesk$Parser" "shelf" "LProofDesk$Shelf;" "ProofDesk") ∈ zn := List.mem_filter.mpr ⟨List.mem_append_right _ (List.mem_of_getElem? (i := 303) (by decide +kernel)), by decide +kernel⟩
theorem d_Declarer_init_50 : decode b_Declarer_init 50 = .ok (.putfield 47, 3) := by decide +kernel
theorem kw_529 : (Jvm.Cond.fieldLink "ProofDesk$Declarer" (47 : Nat) "ProofDesk$Declarer" "shelf" "LProofDesk$Shelf;") ∈ zw := List.mem_filter.mpr ⟨List.mem_append_right _ (List.mem_of_getElem? (i := 529) (by decide +kernel)), by decide +kernel⟩
theorem d_Declarer_init_53 : decode b_Declarer_init 53 = .ok (.aload_n 0, 1) := by decide +kernel
theorem d_Declarer_init_54 : decode b_Declarer_init 54 = .ok (.aload_n 1, 1) := by decide +kernel
theorem d_Declarer_init_55 : decode b_Declarer_init 55 = .ok (.getfield 48, 3) := by decide +kernel
theorem kw_305 : (Jvm.Cond.fieldLinkNest "ProofDesk$Declarer" (48 : Nat) "ProofDesk$Parser" "ledger" "LProofDesk$Ledger;" "ProofDesk") ∈ zn := List.mem_filter.mpr ⟨List.mem_append_right _ (List.mem_of_getElem? (i := 305) (by decide +kernel)), by decide +kernel⟩
theorem d_Declarer_init_58 : decode b_Declarer_init 58 = .ok (.putfield 52, 3) := by decide +kernel
theorem kw_530 : (Jvm.Cond.fieldLink "ProofDesk$Declarer" (52 : Nat) "ProofDesk$Declarer" "ledger" "LProofDesk$Ledger;") ∈ zw := List.mem_filter.mpr ⟨List.mem_append_right _ (List.mem_of_getElem? (i := 530) (by decide +kernel)), by decide +kernel⟩
theorem d_Declarer_init_61 : decode b_Declarer_init 61 = .ok (.return_, 1) := by decide +kernel
set_option maxHeartbeats 4000000 in
set_option maxRecDepth 100000 in
theorem c_Declarer_init (l : Launch) (D : va_G) (cI cB cZ cS : ClassId) (sz : Nat) (h0 : Nat) (ps : Nat) (ty : Nat) (re : Nat) (pr : Nat) (tm : Nat) (sh : Nat) (le : Nat) (ps_0 : Value) (ps_1 : Value) (ps_5 : Value) (ps_6 : Value) (ps_7 : Value) (ps_8 : Value) (ps_9 : Value) (ps_10 : Value) (ps_11 : Value) (ps_12 : Value) (ps_13 : Value) (ps_14 : Value) (ps_15 : Value) (ps_16 : Value) (ps_17 : Value) (ps_18 : Value) (ps_19 : Value) : Met l y_Declarer_init (zc y_Declarer_init b_Declarer_init 5 none) ({ frames := 2, cells := 2, slots := 19, locals := 33 }) (zPc D (zty cI cB cZ cS) [(h0, .inr (9, [.null, .null, .null, .null, .null, .null, .null, .null, .int 0, .int 0, .int 0])), (ps, .inr (6, [ps_0, ps_1, .ref tm, .ref sh, .ref le, ps_5, ps_6, ps_7, ps_8, ps_9, ps_10, ps_11, ps_12, ps_13, ps_14, ps_15, ps_16, ps_17, ps_18, ps_19]))] sz [.ref h0, .ref ps, .ref ty, .ref re, .ref pr]) (va_Qv (fun _ : Unit => True) (fun _ t => ∃ x1 x2 : Nat, va_P D zcl [(h0, .inr (9, [.ref ps, .ref ty, .ref re, .ref pr, .ref tm, .ref sh, .ref le, .ref x1, .int 0, .int 0, .int 0])), (ps, .inr (6, [ps_0, ps_1, .ref tm, .ref sh, .ref le, ps_5, ps_6, ps_7, ps_8, ps_9, ps_10, ps_11, ps_12, ps_13, ps_14, ps_15, ps_16, ps_17, ps_18, ps_19])), (x1, .inr (0, [.int 1, .ref x2, .int 0])), (x2, .inl (cI, 16, .inl (fun _ => 0)))] t.heap ∧ va_D (va_A [(h0, .inr (9, [.null, .null, .null, .null, .null, .null, .null, .null, .int 0, .int 0, .int 0])), (ps, .inr (6, [ps_0, ps_1, .ref tm, .ref sh, .ref le, ps_5, ps_6, ps_7, ps_8, ps_9, ps_10, ps_11, ps_12, ps_13, ps_14, ps_15, ps_16, ps_17, ps_18, ps_19]))] sz) [(h0, .inr (9, [.ref ps, .ref ty, .ref re, .ref pr, .ref tm, .ref sh, .ref le, .ref x1, .int 0, .int 0, .int 0])), (ps, .inr (6, [ps_0, ps_1, .ref tm, .ref sh, .ref le, ps_5, ps_6, ps_7, ps_8, ps_9, ps_10, ps_11, ps_12, ps_13, ps_14, ps_15, ps_16, ps_17, ps_18, ps_19])), (x1, .inr (0, [.int 1, .ref x2, .int 0])), (x2, .inl (cI, 16, .inl (fun _ => 0)))]) (va_A [(h0, .inr (9, [.null, .null, .null, .null, .null, .null, .null, .null, .int 0, .int 0, .int 0])), (ps, .inr (6, [ps_0, ps_1, .ref tm, .ref sh, .ref le, ps_5, ps_6, ps_7, ps_8, ps_9, ps_10, ps_11, ps_12, ps_13, ps_14, ps_15, ps_16, ps_17, ps_18, ps_19]))] sz)) 2 19 (va_A [(h0, .inr (9, [.null, .null, .null, .null, .null, .null, .null, .null, .int 0, .int 0, .int 0])), (ps, .inr (6, [ps_0, ps_1, .ref tm, .ref sh, .ref le, ps_5, ps_6, ps_7, ps_8, ps_9, ps_10, ps_11, ps_12, ps_13, ps_14, ps_15, ps_16, ps_17, ps_18, ps_19]))] sz) := by
  refine Met.ofW (cc := b_Declarer_init) (maxL := 5) (ret := none) (by decide) rfl ?_
  intro p e s m args below meth c s₁ B hml hv
  obtain ⟨rfl, hsz, hP, ⟨hK, hN⟩, hD0⟩ := hv
  have hx := B.exec
  have hb := B.bytes
  have hr := B.returns
  have hts0 := atoms_spec (ws := zc y_Declarer_init b_Declarer_init 5 none) B.pre
  have hts : ∀ w ∈ zw, w.before _ s = true := fun w hw => hts0 w (List.mem_cons_of_mem _ hw)
  have hown : s.vm.findClass "ProofDesk$Declarer" = some m.cls := findClass_of_methodNamed B.named
  have hlocks := B.notSynchronized
  have hin : meth.name = "<init>" := (name_of_methodNamed B.named B.method).1
  subst hsz
  have hD := hD0.self (sz := s.heap.size)
  generalize hAe : va_A [(h0, .inr (9, [.null, .null, .null, .null, .null, .null, .null, .null, .int 0, .int 0, .int 0])), (ps, .inr (6, [ps_0, ps_1, .ref tm, .ref sh, .ref le, ps_5, ps_6, ps_7, ps_8, ps_9, ps_10, ps_11, ps_12, ps_13, ps_14, ps_15, ps_16, ps_17, ps_18, ps_19]))] s.heap.size = A at hD ⊢
  have hA : ∀ q : Nat, s.heap.size ≤ q → A q := fun q h => by rw [← hAe]; exact Or.inr h
  have hS : va_S A s.heap s.heap [] := va_S.rf
  have hP : va_P D zcl [(h0, .inr (9, [.null, .null, .null, .null, .null, .null, .null, .null, .int 0, .int 0, .int 0])), (ps, .inr (6, [ps_0, ps_1, .ref tm, .ref sh, .ref le, ps_5, ps_6, ps_7, ps_8, ps_9, ps_10, ps_11, ps_12, ps_13, ps_14, ps_15, ps_16, ps_17, ps_18, ps_19]))] s.heap := hP
  have hl := lv_entry ([.ref h0, .ref ps, .ref ty, .ref re, .ref pr]) (n := 5) (Nat.le_of_ble_eq_true rfl)
  rw [lg_entry_eq]
  generalize (lg_sl ([.ref h0, .ref ps, .ref ty, .ref re, .ref pr]) ++ List.replicate (5 - (lg_sl ([.ref h0, .ref ps, .ref ty, .ref re, .ref pr])).length) Slot.unset).toArray = ls at hl ⊢
  have hl : lv_has ls 5 [(0, .ref h0), (1, .ref ps), (2, .ref ty), (3, .ref re), (4, .ref pr)] := hl
  refine lv_aload_n hx hb d_Declarer_init_0 rfl (lv_at hl 0 rfl) ?_
  refine W.objInit hx hb hown (hts _ kw_521) (hts _ kw_31) (hts _ kw_32) rfl (by rw [hml]; exact hl.1) rfl d_Declarer_init_1 (Nat.le_of_ble_eq_true rfl) (Nat.le_of_ble_eq_true rfl) ?_
  refine W.eq (g2 := F0 m 4 ls []) rfl ?_
  refine lv_aload_n hx hb d_Declarer_init_4 rfl (lv_at hl 0 rfl) ?_
  have hkc : 0 + 1 ≤ 2 := by omega
  have hks : 0 + 3 ≤ 19 := by omega
  refine va_new (ci := 0) (fs := z0f_Pile) (C := "ProofDesk$Pile") (T := F_Pile) (N := 3) hx hb hts in_Pile t_Pile t_Pile_ok hown (hts _ kw_522) (hts _ kw_40) (hts _ kw_3) hK hP hD hS hA rfl z0_Pile hkc hks d_Declarer_init_5 (fun q_1 H hP hD hS => ?_)
  have hP : va_P D zcl [(h0, .inr (9, [.null, .null, .null, .null, .null, .null, .null, .null, .int 0, .int 0, .int 0])), (ps, .inr (6, [ps_0, ps_1, .ref tm, .ref sh, .ref le, ps_5, ps_6, ps_7, ps_8, ps_9, ps_10, ps_11, ps_12, ps_13, ps_14, ps_15, ps_16, ps_17, ps_18, ps_19])), (q_1, .inr (0, [.int 0, .null, .int 0]))] H := hP
  have hD : va_D A [(h0, .inr (9, [.null, .null, .null, .null, .null, .null, .null, .null, .int 0, .int 0, .int 0])), (ps, .inr (6, [ps_0, ps_1, .ref tm, .ref sh, .ref le, ps_5, ps_6, ps_7, ps_8, ps_9, ps_10, ps_11, ps_12, ps_13, ps_14, ps_15, ps_16, ps_17, ps_18, ps_19])), (q_1, .inr (0, [.int 0, .null, .int 0]))] := hD
  refine W.widen (k := 1) (n := 3) (by omega) (by omega) ?_
  refine lv_dup hx hb d_Declarer_init_8 rfl ?_
  refine lv_iconst (v := 1) hx hb d_Declarer_init_9 (by decide) ?_
  have hPc := hP.sub (ws' := [(q_1, .inr (0, [.int 0, .null, .int 0]))]) [2] rfl
  have hDc := hD.sub (ws' := [(q_1, .inr (0, [.int 0, .null, .int 0]))]) [2] (by decide +kernel) rfl
  have hFc := va_free (wc := [(q_1, .inr (0, [.int 0, .null, .int 0]))]) hD hS hA [2] rfl
  have hkc : 1 + 1 ≤ 2 := by omega
  have hks : 3 + 16 ≤ 19 := by omega
  refine va_callv (va_runI (As := [.int 1]) (rest := [.ref q_1, .ref h0]) ⟨hx, hb, hml, hown, hts⟩ (c_Pile_init1 l D cI cB cZ cS H.size q_1) (⟨callB_of 1 hts (zgood kw_43) rfl rfl rfl (hts _ kw_3) (hts _ kw_523) (by decide +kernel) ⟨Nat.le_of_ble_eq_true rfl, Nat.le_of_ble_eq_true rfl⟩, rfl, hts _ kw_42⟩) (zPreS hPc hK hN hDc) rfl rfl hl.1 rfl (lv_room (Nat.le_of_ble_eq_true rfl)) d_Declarer_init_10 ⟨hkc, hks⟩) hS (fun q _ h => hFc q h) hFc (fun u t H1 locs ht hvm hw hB hz1 hk1 hS => ?_)
  obtain ⟨x1_2, hP1, hD1⟩ := hB
  rw [ht] at hP1
  obtain ⟨hP, hD⟩ := va_join (wr := [(h0, .inr (9, [.null, .null, .null, .null, .null, .null, .null, .null, .int 0, .int 0, .int 0])), (ps, .inr (6, [ps_0, ps_1, .ref tm, .ref sh, .ref le, ps_5, ps_6, ps_7, ps_8, ps_9, ps_10, ps_11, ps_12, ps_13, ps_14, ps_15, ps_16, ps_17, ps_18, ps_19]))]) (w1 := [(q_1, .inr (0, [.int 1, .ref x1_2, .int 0])), (x1_2, .inl (cI, 16, .inl (fun _ => 0)))]) hP hD [2] [0, 1] rfl rfl (by decide +kernel) (by decide +kernel) hk1 hFc hP1 hD1
  generalize H1 = H at hP hS ⊢
  have hP : va_P D zcl [(h0, .inr (9, [.null, .null, .null, .null, .null, .null, .null, .null, .int 0, .int 0, .int 0])), (ps, .inr (6, [ps_0, ps_1, .ref tm, .ref sh, .ref le, ps_5, ps_6, ps_7, ps_8, ps_9, ps_10, ps_11, ps_12, ps_13, ps_14, ps_15, ps_16, ps_17, ps_18, ps_19])), (q_1, .inr (0, [.int 1, .ref x1_2, .int 0])), (x1_2, .inl (cI, 16, .inl (fun _ => 0)))] H := hP
  have hD : va_D A [(h0, .inr (9, [.null, .null, .null, .null, .null, .null, .null, .null, .int 0, .int 0, .int 0])), (ps, .inr (6, [ps_0, ps_1, .ref tm, .ref sh, .ref le, ps_5, ps_6, ps_7, ps_8, ps_9, ps_10, ps_11, ps_12, ps_13, ps_14, ps_15, ps_16, ps_17, ps_18, ps_19])), (q_1, .inr (0, [.int 1, .ref x1_2, .int 0])), (x1_2, .inl (cI, 16, .inl (fun _ => 0)))] := hD
  refine W.widen (k := 2) (n := 19) (by omega) (by omega) ?_
  refine va_putF (D := D) (ci := 9) (v := .ref q_1) (ty := (.object "ProofDesk$Pile")) (C := "ProofDesk$Declarer") (T := F_Declarer) (N := 11) hx hb hts in_Declarer t_Declarer t_Declarer_ok n_Declarer hown hK hP hD hS 0 rfl rfl 7 (by decide) (hts _ kw_531) (fun _ h9 => h9) rfl hin rfl (by decide +kernel) rfl rfl (Nat.le_of_ble_eq_true rfl) d_Declarer_init_13 (fun H locs hP hD hS => ?_)
  have hP : va_P D zcl [(h0, .inr (9, [.null, .null, .null, .null, .null, .null, .null, .ref q_1, .int 0, .int 0, .int 0])), (ps, .inr (6, [ps_0, ps_1, .ref tm, .ref sh, .ref le, ps_5, ps_6, ps_7, ps_8, ps_9, ps_10, ps_11, ps_12, ps_13, ps_14, ps_15, ps_16, ps_17, ps_18, ps_19])), (q_1, .inr (0, [.int 1, .ref x1_2, .int 0])), (x1_2, .inl (cI, 16, .inl (fun _ => 0)))] H := hP
  have hD : va_D A [(h0, .inr (9, [.null, .null, .null, .null, .null, .null, .null, .ref q_1, .int 0, .int 0, .int 0])), (ps, .inr (6, [ps_0, ps_1, .ref tm, .ref sh, .ref le, ps_5, ps_6, ps_7, ps_8, ps_9, ps_10, ps_11, ps_12, ps_13, ps_14, ps_15, ps_16, ps_17, ps_18, ps_19])), (q_1, .inr (0, [.int 1, .ref x1_2, .int 0])), (x1_2, .inl (cI, 16, .inl (fun _ => 0)))] := hD
  refine lv_aload_n hx hb d_Declarer_init_16 rfl (lv_at hl 0 rfl) ?_
  refine lv_aload_n hx hb d_Declarer_init_17 rfl (lv_at hl 1 rfl) ?_
  refine va_putF (D := D) (ci := 9) (v := .ref ps) (ty := (.object "ProofDesk$Parser")) (C := "ProofDesk$Declarer") (T := F_Declarer) (N := 11) hx hb hts in_Declarer t_Declarer t_Declarer_ok n_Declarer hown hK hP hD hS 0 rfl rfl 0 (by decide) (hts _ kw_524) (fun _ h9 => h9) rfl hin rfl (by decide +kernel) rfl rfl (Nat.le_of_ble_eq_true rfl) d_Declarer_init_18 (fun H locs hP hD hS => ?_)
  have hP : va_P D zcl [(h0, .inr (9, [.ref ps, .null, .null, .null, .null, .null, .null, .ref q_1, .int 0, .int 0, .int 0])), (ps, .inr (6, [ps_0, ps_1, .ref tm, .ref sh, .ref le, ps_5, ps_6, ps_7, ps_8, ps_9, ps_10, ps_11, ps_12, ps_13, ps_14, ps_15, ps_16, ps_17, ps_18, ps_19])), (q_1, .inr (0, [.int 1, .ref x1_2, .int 0])), (x1_2, .inl (cI, 16, .inl (fun _ => 0)))] H := hP
  have hD : va_D A [(h0, .inr (9, [.ref ps, .null, .null, .null, .null, .null, .null, .ref q_1, .int 0, .int 0, .int 0])), (ps, .inr (6, [ps_0, ps_1, .ref tm, .ref sh, .ref le, ps_5, ps_6, ps_7, ps_8, ps_9, ps_10, ps_11, ps_12, ps_13, ps_14, ps_15, ps_16, ps_17, ps_18, ps_19])), (q_1, .inr (0, [.int 1, .ref x1_2, .int 0])), (x1_2, .inl (cI, 16, .inl (fun _ => 0)))] := hD
  refine lv_aload_n hx hb d_Declarer_init_21 rfl (lv_at hl 0 rfl) ?_
  refine lv_aload_n hx hb d_Declarer_init_22 rfl (lv_at hl 2 rfl) ?_
  refine va_putF (D := D) (ci := 9) (v := .ref ty) (ty := (.object "ProofDesk$Typer")) (C := "ProofDesk$Declarer") (T := F_Declarer) (N := 11) hx hb hts in_Declarer t_Declarer t_Declarer_ok n_Declarer hown hK hP hD hS 0 rfl rfl 1 (by decide) (hts _ kw_525) (fun _ h9 => h9) rfl hin rfl (by decide +kernel) rfl rfl (Nat.le_of_ble_eq_true rfl) d_Declarer_init_23 (fun H locs hP hD hS => ?_)
  have hP : va_P D zcl [(h0, .inr (9, [.ref ps, .ref ty, .null, .null, .null, .null, .null, .ref q_1, .int 0, .int 0, .int 0])), (ps, .inr (6, [ps_0, ps_1, .ref tm, .ref sh, .ref le, ps_5, ps_6, ps_7, ps_8, ps_9, ps_10, ps_11, ps_12, ps_13, ps_14, ps_15, ps_16, ps_17, ps_18, ps_19])), (q_1, .inr (0, [.int 1, .ref x1_2, .int 0])), (x1_2, .inl (cI, 16, .inl (fun _ => 0)))] H := hP
  have hD : va_D A [(h0, .inr (9, [.ref ps, .ref ty, .null, .null, .null, .null, .null, .ref q_1, .int 0, .int 0, .int 0])), (ps, .inr (6, [ps_0, ps_1, .ref tm, .ref sh, .ref le, ps_5, ps_6, ps_7, ps_8, ps_9, ps_10, ps_11, ps_12, ps_13, ps_14, ps_15, ps_16, ps_17, ps_18, ps_19])), (q_1, .inr (0, [.int 1, .ref x1_2, .int 0])), (x1_2, .inl (cI, 16, .inl (fun _ => 0)))] := hD
  refine lv_aload_n hx hb d_Declarer_init_26 rfl (lv_at hl 0 rfl) ?_
  refine lv_aload_n hx hb d_Declarer_init_27 rfl (lv_at hl 3 rfl) ?_
  refine va_putF (D := D) (ci := 9) (v := .ref re) (ty := (.object "ProofDesk$Reducer")) (C := "ProofDesk$Declarer") (T := F_Declarer) (N := 11) hx hb hts in_Declarer t_Declarer t_Declarer_ok n_Declarer hown hK hP hD hS 0 rfl rfl 2 (by decide) (hts _ kw_526) (fun _ h9 => h9) rfl hin rfl (by decide +kernel) rfl rfl (Nat.le_of_ble_eq_true rfl) d_Declarer_init_28 (fun H locs hP hD hS => ?_)
  have hP : va_P D zcl [(h0, .inr (9, [.ref ps, .ref ty, .ref re, .null, .null, .null, .null, .ref q_1, .int 0, .int 0, .int 0])), (ps, .inr (6, [ps_0, ps_1, .ref tm, .ref sh, .ref le, ps_5, ps_6, ps_7, ps_8, ps_9, ps_10, ps_11, ps_12, ps_13, ps_14, ps_15, ps_16, ps_17, ps_18, ps_19])), (q_1, .inr (0, [.int 1, .ref x1_2, .int 0])), (x1_2, .inl (cI, 16, .inl (fun _ => 0)))] H := hP
  have hD : va_D A [(h0, .inr (9, [.ref ps, .ref ty, .ref re, .null, .null, .null, .null, .ref q_1, .int 0, .int 0, .int 0])), (ps, .inr (6, [ps_0, ps_1, .ref tm, .ref sh, .ref le, ps_5, ps_6, ps_7, ps_8, ps_9, ps_10, ps_11, ps_12, ps_13, ps_14, ps_15, ps_16, ps_17, ps_18, ps_19])), (q_1, .inr (0, [.int 1, .ref x1_2, .int 0])), (x1_2, .inl (cI, 16, .inl (fun _ => 0)))] := hD
  refine lv_aload_n hx hb d_Declarer_init_31 rfl (lv_at hl 0 rfl) ?_
  refine lv_aload hx hb d_Declarer_init_32 (lv_at hl 4 rfl) ?_
  refine va_putF (D := D) (ci := 9) (v := .ref pr) (ty := (.object "ProofDesk$Printer")) (C := "ProofDesk$Declarer") (T := F_Declarer) (N := 11) hx hb hts in_Declarer t_Declarer t_Declarer_ok n_Declarer hown hK hP hD hS 0 rfl rfl 3 (by decide) (hts _ kw_527) (fun _ h9 => h9) rfl hin rfl (by decide +kernel) rfl rfl (Nat.le_of_ble_eq_true rfl) d_Declarer_init_34 (fun H locs hP hD hS => ?_)
  have hP : va_P D zcl [(h0, .inr (9, [.ref ps, .ref ty, .ref re, .ref pr, .null, .null, .null, .ref q_1, .int 0, .int 0, .int 0])), (ps, .inr (6, [ps_0, ps_1, .ref tm, .ref sh, .ref le, ps_5, ps_6, ps_7, ps_8, ps_9, ps_10, ps_11, ps_12, ps_13, ps_14, ps_15, ps_16, ps_17, ps_18, ps_19])), (q_1, .inr (0, [.int 1, .ref x1_2, .int 0])), (x1_2, .inl (cI, 16, .inl (fun _ => 0)))] H := hP
  have hD : va_D A [(h0, .inr (9, [.ref ps, .ref ty, .ref re, .ref pr, .null, .null, .null, .ref q_1, .int 0, .int 0, .int 0])), (ps, .inr (6, [ps_0, ps_1, .ref tm, .ref sh, .ref le, ps_5, ps_6, ps_7, ps_8, ps_9, ps_10, ps_11, ps_12, ps_13, ps_14, ps_15, ps_16, ps_17, ps_18, ps_19])), (q_1, .inr (0, [.int 1, .ref x1_2, .int 0])), (x1_2, .inl (cI, 16, .inl (fun _ => 0)))] := hD
  refine lv_aload_n hx hb d_Declarer_init_37 rfl (lv_at hl 0 rfl) ?_
  refine lv_aload_n hx hb d_Declarer_init_38 rfl (lv_at hl 1 rfl) ?_
  refine va_getN (D := D) (ci := 6) (v := .ref tm) (C := "ProofDesk$Parser") (T := F_Parser) (N := 20) hx hb hts in_Parser hown hK hP 1 rfl rfl 2 (by decide) (va_Nw.use rfl (hN _ kw_301)) (fun _ h9 => h9) rfl d_Declarer_init_39 ?_
  refine va_putF (D := D) (ci := 9) (v := .ref tm) (ty := (.object "ProofDesk$Terms")) (C := "ProofDesk$Declarer") (T := F_Declarer) (N := 11) hx hb hts in_Declarer t_Declarer t_Declarer_ok n_Declarer hown hK hP hD hS 0 rfl rfl 4 (by decide) (hts _ kw_528) (fun _ h9 => h9) rfl hin rfl (by decide +kernel) rfl rfl (Nat.le_of_ble_eq_true rfl) d_Declarer_init_42 (fun H locs hP hD hS => ?_)
  have hP : va_P D zcl [(h0, .inr (9, [.ref ps, .ref ty, .ref re, .ref pr, .ref tm, .null, .null, .ref q_1, .int 0, .int 0, .int 0])), (ps, .inr (6, [ps_0, ps_1, .ref tm, .ref sh, .ref le, ps_5, ps_6, ps_7, ps_8, ps_9, ps_10, ps_11, ps_12, ps_13, ps_14, ps_15, ps_16, ps_17, ps_18, ps_19])), (q_1, .inr (0, [.int 1, .ref x1_2, .int 0])), (x1_2, .inl (cI, 16, .inl (fun _ => 0)))] H := hP
  have hD : va_D A [(h0, .inr (9, [.ref ps, .ref ty, .ref re, .ref pr, .ref tm, .null, .null, .ref q_1, .int 0, .int 0, .int 0])), (ps, .inr (6, [ps_0, ps_1, .ref tm, .ref sh, .ref le, ps_5, ps_6, ps_7, ps_8, ps_9, ps_10, ps_11, ps_12, ps_13, ps_14, ps_15, ps_16, ps_17, ps_18, ps_19])), (q_1, .inr (0, [.int 1, .ref x1_2, .int 0])), (x1_2, .inl (cI, 16, .inl (fun _ => 0)))] := hD
  refine lv_aload_n hx hb d_Declarer_init_45 rfl (lv_at hl 0 rfl) ?_
  refine lv_aload_n hx hb d_Declarer_init_46 rfl (lv_at hl 1 rfl) ?_
  refine va_getN (D := D) (ci := 6) (v := .ref sh) (C := "ProofDesk$Parser") (T := F_Parser) (N := 20) hx hb hts in_Parser hown hK hP 1 rfl rfl 3 (by decide) (va_Nw.use rfl (hN _ kw_303)) (fun _ h9 => h9) rfl d_Declarer_init_47 ?_
  refine va_putF (D := D) (ci := 9) (v := .ref sh) (ty := (.object "ProofDesk$Shelf")) (C := "ProofDesk$Declarer") (T := F_Declarer) (N := 11) hx hb hts in_Declarer t_Declarer t_Declarer_ok n_Declarer hown hK hP hD hS 0 rfl rfl 5 (by decide) (hts _ kw_529) (fun _ h9 => h9) rfl hin rfl (by decide +kernel) rfl rfl (Nat.le_of_ble_eq_true rfl) d_Declarer_init_50 (fun H locs hP hD hS => ?_)
  have hP : va_P D zcl [(h0, .inr (9, [.ref ps, .ref ty, .ref re, .ref pr, .ref tm, .ref sh, .null, .ref q_1, .int 0, .int 0, .int 0])), (ps, .inr (6, [ps_0, ps_1, .ref tm, .ref sh, .ref le, ps_5, ps_6, ps_7, ps_8, ps_9, ps_10, ps_11, ps_12, ps_13, ps_14, ps_15, ps_16, ps_17, ps_18, ps_19])), (q_1, .inr (0, [.int 1, .ref x1_2, .int 0])), (x1_2, .inl (cI, 16, .inl (fun _ => 0)))] H := hP
  have hD : va_D A [(h0, .inr (9, [.ref ps, .ref ty, .ref re, .ref pr, .ref tm, .ref sh, .null, .ref q_1, .int 0, .int 0, .int 0])), (ps, .inr (6, [ps_0, ps_1, .ref tm, .ref sh, .ref le, ps_5, ps_6, ps_7, ps_8, ps_9, ps_10, ps_11, ps_12, ps_13, ps_14, ps_15, ps_16, ps_17, ps_18, ps_19])), (q_1, .inr (0, [.int 1, .ref x1_2, .int 0])), (x1_2, .inl (cI, 16, .inl (fun _ => 0)))] := hD
  refine lv_aload_n hx hb d_Declarer_init_53 rfl (lv_at hl 0 rfl) ?_
  refine lv_aload_n hx hb d_Declarer_init_54 rfl (lv_at hl 1 rfl) ?_
  refine va_getN (D := D) (ci := 6) (v := .ref le) (C := "ProofDesk$Parser") (T := F_Parser) (N := 20) hx hb hts in_Parser hown hK hP 1 rfl rfl 4 (by decide) (va_Nw.use rfl (hN _ kw_305)) (fun _ h9 => h9) rfl d_Declarer_init_55 ?_
  refine va_putF (D := D) (ci := 9) (v := .ref le) (ty := (.object "ProofDesk$Ledger")) (C := "ProofDesk$Declarer") (T := F_Declarer) (N := 11) hx hb hts in_Declarer t_Declarer t_Declarer_ok n_Declarer hown hK hP hD hS 0 rfl rfl 6 (by decide) (hts _ kw_530) (fun _ h9 => h9) rfl hin rfl (by decide +kernel) rfl rfl (Nat.le_of_ble_eq_true rfl) d_Declarer_init_58 (fun H locs hP hD hS => ?_)
  have hP : va_P D zcl [(h0, .inr (9, [.ref ps, .ref ty, .ref re, .ref pr, .ref tm, .ref sh, .ref le, .ref q_1, .int 0, .int 0, .int 0])), (ps, .inr (6, [ps_0, ps_1, .ref tm, .ref sh, .ref le, ps_5, ps_6, ps_7, ps_8, ps_9, ps_10, ps_11, ps_12, ps_13, ps_14, ps_15, ps_16, ps_17, ps_18, ps_19])), (q_1, .inr (0, [.int 1, .ref x1_2, .int 0])), (x1_2, .inl (cI, 16, .inl (fun _ => 0)))] H := hP
  have hD : va_D A [(h0, .inr (9, [.ref ps, .ref ty, .ref re, .ref pr, .ref tm, .ref sh, .ref le, .ref q_1, .int 0, .int 0, .int 0])), (ps, .inr (6, [ps_0, ps_1, .ref tm, .ref sh, .ref le, ps_5, ps_6, ps_7, ps_8, ps_9, ps_10, ps_11, ps_12, ps_13, ps_14, ps_15, ps_16, ps_17, ps_18, ps_19])), (q_1, .inr (0, [.int 1, .ref x1_2, .int 0])), (x1_2, .inl (cI, 16, .inl (fun _ => 0)))] := hD
  have hP9 := hP.sub (ws' := [(h0, .inr (9, [.ref ps, .ref ty, .ref re, .ref pr, .ref tm, .ref sh, .ref le, .ref q_1, .int 0, .int 0, .int 0])), (ps, .inr (6, [ps_0, ps_1, .ref tm, .ref sh, .ref le, ps_5, ps_6, ps_7, ps_8, ps_9, ps_10, ps_11, ps_12, ps_13, ps_14, ps_15, ps_16, ps_17, ps_18, ps_19])), (q_1, .inr (0, [.int 1, .ref x1_2, .int 0])), (x1_2, .inl (cI, 16, .inl (fun _ => 0)))]) [0, 1, 2, 3] rfl
  have hD9 := hD.sub (ws' := [(h0, .inr (9, [.ref ps, .ref ty, .ref re, .ref pr, .ref tm, .ref sh, .ref le, .ref q_1, .int 0, .int 0, .int 0])), (ps, .inr (6, [ps_0, ps_1, .ref tm, .ref sh, .ref le, ps_5, ps_6, ps_7, ps_8, ps_9, ps_10, ps_11, ps_12, ps_13, ps_14, ps_15, ps_16, ps_17, ps_18, ps_19])), (q_1, .inr (0, [.int 1, .ref x1_2, .int 0])), (x1_2, .inl (cI, 16, .inl (fun _ => 0)))]) [0, 1, 2, 3] (by decide +kernel) rfl
  refine W.widen (k := 2) (n := 19) (by omega) (by omega) ?_
  exact W.vret hx hb hr (fun t ht hW => ⟨⟨(), rfl, trivial, q_1, x1_2, by rw [ht]; exact hP9, hD9⟩, hS.F ht⟩) hS.2.2 d_Declarer_init_61
