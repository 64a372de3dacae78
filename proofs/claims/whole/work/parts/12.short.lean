abbrev b_ProofDesk_fuel : ByteArray := prog_1_method_5_code
abbrev y_ProofDesk_fuel : MethodName := ⟨"ProofDesk", "fuel", "(I)I"⟩
theorem d_ProofDesk_fuel_0 : decode b_ProofDesk_fuel 0 = .ok (.iload_n 1, 1) := by decide +kernel
theorem d_ProofDesk_fuel_1 : decode b_ProofDesk_fuel 1 = .ok (.iconst 1, 1) := by decide +kernel
theorem d_ProofDesk_fuel_2 : decode b_ProofDesk_fuel 2 = .ok (.if_icmp .lt 10, 3) := by decide +kernel
theorem d_ProofDesk_fuel_12 : decode b_ProofDesk_fuel 12 = .ok (.iconst (-1), 1) := by decide +kernel
theorem d_ProofDesk_fuel_13 : decode b_ProofDesk_fuel 13 = .ok (.ireturn, 1) := by decide +kernel
set_option maxHeartbeats 4000000 in
set_option maxRecDepth 100000 in
theorem c_fuel_lo (l : Launch) (D : va_G) (cI cB cZ cS : ClassId) (sz : Nat) (h0 : Nat) (h0_0 : Value) (h0_1 : Value) (h0_2 : Value) (h0_3 : Value) (h0_4 : Value) (h0_5 : Value) (h0_6 : Value) (h0_7 : Value) (h0_8 : Value) (n : Int32) (hn : n < 1) : Met l y_ProofDesk_fuel (zc y_ProofDesk_fuel b_ProofDesk_fuel 3 (some .int)) ({ frames := 0, cells := 0, slots := 0, locals := 0 }) (zPc D (zty cI cB cZ cS) [(h0, .inr (11, [h0_0, h0_1, h0_2, h0_3, h0_4, h0_5, h0_6, h0_7, h0_8]))] sz [.ref h0, .int n]) (va_Qi (fun (r : Int32) (_ : Unit) => r = (-1)) (fun _ t => va_P D zcl [(h0, .inr (11, [h0_0, h0_1, h0_2, h0_3, h0_4, h0_5, h0_6, h0_7, h0_8]))] t.heap ∧ va_D (va_A [(h0, .inr (11, [h0_0, h0_1, h0_2, h0_3, h0_4, h0_5, h0_6, h0_7, h0_8]))] sz) [(h0, .inr (11, [h0_0, h0_1, h0_2, h0_3, h0_4, h0_5, h0_6, h0_7, h0_8]))]) (va_A [(h0, .inr (11, [h0_0, h0_1, h0_2, h0_3, h0_4, h0_5, h0_6, h0_7, h0_8]))] sz)) 0 0 (va_A [(h0, .inr (11, [h0_0, h0_1, h0_2, h0_3, h0_4, h0_5, h0_6, h0_7, h0_8]))] sz) := by
  refine Met.ofW (cc := b_ProofDesk_fuel) (maxL := 3) (ret := (some .int)) (by decide) rfl ?_
  intro p e s m args below meth c s₁ B hml hv
  obtain ⟨rfl, hsz, hP, ⟨hK, hN⟩, hD0⟩ := hv
  have hx := B.exec
  have hb := B.bytes
  have hr := B.returns
  have hts0 := atoms_spec (ws := zc y_ProofDesk_fuel b_ProofDesk_fuel 3 (some .int)) B.pre
  have hts : ∀ w ∈ zw, w.before _ s = true := fun w hw => hts0 w (List.mem_cons_of_mem _ hw)
  have hown : s.vm.findClass "ProofDesk" = some m.cls := findClass_of_methodNamed B.named
  have hlocks := B.notSynchronized
  subst hsz
  have hD := hD0.self (sz := s.heap.size)
  generalize hAe : va_A [(h0, .inr (11, [h0_0, h0_1, h0_2, h0_3, h0_4, h0_5, h0_6, h0_7, h0_8]))] s.heap.size = A at hD ⊢
  have hA : ∀ q : Nat, s.heap.size ≤ q → A q := fun q h => by rw [← hAe]; exact Or.inr h
  have hS : va_S A s.heap s.heap [] := va_S.rf
  have hP : va_P D zcl [(h0, .inr (11, [h0_0, h0_1, h0_2, h0_3, h0_4, h0_5, h0_6, h0_7, h0_8]))] s.heap := hP
  have hl := lv_entry ([.ref h0, .int n]) (n := 3) (Nat.le_of_ble_eq_true rfl)
  rw [lg_entry_eq]
  generalize (lg_sl ([.ref h0, .int n]) ++ List.replicate (3 - (lg_sl ([.ref h0, .int n])).length) Slot.unset).toArray = ls at hl ⊢
  have hl : lv_has ls 3 [(0, .ref h0), (1, .int n)] := hl
  refine lv_iload_n hx hb d_ProofDesk_fuel_0 rfl (lv_at hl 1 rfl) ?_
  refine lv_iconst (v := 1) hx hb d_ProofDesk_fuel_1 (by decide) ?_
  have hc_1 : (n : Int32) < 1 := hn
  refine lv_icmp_lt hx hb d_ProofDesk_fuel_2 rfl (fun _ => ?_) (fun h => absurd hc_1 h)
  refine lv_iconst (v := (-1)) hx hb d_ProofDesk_fuel_12 (by decide) ?_
  have hP9 := hP.sub (ws' := [(h0, .inr (11, [h0_0, h0_1, h0_2, h0_3, h0_4, h0_5, h0_6, h0_7, h0_8]))]) [0] rfl
  have hD9 := hD.sub (ws' := [(h0, .inr (11, [h0_0, h0_1, h0_2, h0_3, h0_4, h0_5, h0_6, h0_7, h0_8]))]) [0] (by decide +kernel) rfl
  refine W.widen (k := 0) (n := 0) (by omega) (by omega) ?_
  exact W.iret (v := (-1)) hx hb hr (fun t ht hW => ⟨⟨(-1), (), rfl, rfl, by rw [ht]; exact hP9, hD9⟩, hS.F ht⟩) hS.2.2 d_ProofDesk_fuel_13
theorem d_ProofDesk_fuel_5 : decode b_ProofDesk_fuel 5 = .ok (.iload_n 1, 1) := by decide +kernel
theorem d_ProofDesk_fuel_6 : decode b_ProofDesk_fuel 6 = .ok (.sipush 10000, 3) := by decide +kernel
theorem d_ProofDesk_fuel_9 : decode b_ProofDesk_fuel 9 = .ok (.if_icmp .le 5, 3) := by decide +kernel
set_option maxHeartbeats 4000000 in
set_option maxRecDepth 100000 in
theorem c_fuel_hi (l : Launch) (D : va_G) (cI cB cZ cS : ClassId) (sz : Nat) (h0 : Nat) (h0_0 : Value) (h0_1 : Value) (h0_2 : Value) (h0_3 : Value) (h0_4 : Value) (h0_5 : Value) (h0_6 : Value) (h0_7 : Value) (h0_8 : Value) (n : Int32) (hn : ¬ n < 1) (hm : ¬ n ≤ 10000) : Met l y_ProofDesk_fuel (zc y_ProofDesk_fuel b_ProofDesk_fuel 3 (some .int)) ({ frames := 0, cells := 0, slots := 0, locals := 0 }) (zPc D (zty cI cB cZ cS) [(h0, .inr (11, [h0_0, h0_1, h0_2, h0_3, h0_4, h0_5, h0_6, h0_7, h0_8]))] sz [.ref h0, .int n]) (va_Qi (fun (r : Int32) (_ : Unit) => r = (-1)) (fun _ t => va_P D zcl [(h0, .inr (11, [h0_0, h0_1, h0_2, h0_3, h0_4, h0_5, h0_6, h0_7, h0_8]))] t.heap ∧ va_D (va_A [(h0, .inr (11, [h0_0, h0_1, h0_2, h0_3, h0_4, h0_5, h0_6, h0_7, h0_8]))] sz) [(h0, .inr (11, [h0_0, h0_1, h0_2, h0_3, h0_4, h0_5, h0_6, h0_7, h0_8]))]) (va_A [(h0, .inr (11, [h0_0, h0_1, h0_2, h0_3, h0_4, h0_5, h0_6, h0_7, h0_8]))] sz)) 0 0 (va_A [(h0, .inr (11, [h0_0, h0_1, h0_2, h0_3, h0_4, h0_5, h0_6, h0_7, h0_8]))] sz) := by
  refine Met.ofW (cc := b_ProofDesk_fuel) (maxL := 3) (ret := (some .int)) (by decide) rfl ?_
  intro p e s m args below meth c s₁ B hml hv
  obtain ⟨rfl, hsz, hP, ⟨hK, hN⟩, hD0⟩ := hv
  have hx := B.exec
  have hb := B.bytes
  have hr := B.returns
  have hts0 := atoms_spec (ws := zc y_ProofDesk_fuel b_ProofDesk_fuel 3 (some .int)) B.pre
  have hts : ∀ w ∈ zw, w.before _ s = true := fun w hw => hts0 w (List.mem_cons_of_mem _ hw)
  have hown : s.vm.findClass "ProofDesk" = some m.cls := findClass_of_methodNamed B.named
  have hlocks := B.notSynchronized
  subst hsz
  have hD := hD0.self (sz := s.heap.size)
  generalize hAe : va_A [(h0, .inr (11, [h0_0, h0_1, h0_2, h0_3, h0_4, h0_5, h0_6, h0_7, h0_8]))] s.heap.size = A at hD ⊢
  have hA : ∀ q : Nat, s.heap.size ≤ q → A q := fun q h => by rw [← hAe]; exact Or.inr h
  have hS : va_S A s.heap s.heap [] := va_S.rf
  have hP : va_P D zcl [(h0, .inr (11, [h0_0, h0_1, h0_2, h0_3, h0_4, h0_5, h0_6, h0_7, h0_8]))] s.heap := hP
  have hl := lv_entry ([.ref h0, .int n]) (n := 3) (Nat.le_of_ble_eq_true rfl)
  rw [lg_entry_eq]
  generalize (lg_sl ([.ref h0, .int n]) ++ List.replicate (3 - (lg_sl ([.ref h0, .int n])).length) Slot.unset).toArray = ls at hl ⊢
  have hl : lv_has ls 3 [(0, .ref h0), (1, .int n)] := hl
  refine lv_iload_n hx hb d_ProofDesk_fuel_0 rfl (lv_at hl 1 rfl) ?_
  refine lv_iconst (v := 1) hx hb d_ProofDesk_fuel_1 (by decide) ?_
  have hc_1 : ¬ (n : Int32) < 1 := hn
  refine lv_icmp_lt hx hb d_ProofDesk_fuel_2 rfl (fun h => absurd h hc_1) (fun _ => ?_)
  refine lv_iload_n hx hb d_ProofDesk_fuel_5 rfl (lv_at hl 1 rfl) ?_
  refine lv_sipush (v := 10000) hx hb d_ProofDesk_fuel_6 (by decide) ?_
  have hc_2 : ¬ (n : Int32) ≤ 10000 := hm
  refine lv_icmp_le hx hb d_ProofDesk_fuel_9 rfl (fun h => absurd h hc_2) (fun _ => ?_)
  refine lv_iconst (v := (-1)) hx hb d_ProofDesk_fuel_12 (by decide) ?_
  have hP9 := hP.sub (ws' := [(h0, .inr (11, [h0_0, h0_1, h0_2, h0_3, h0_4, h0_5, h0_6, h0_7, h0_8]))]) [0] rfl
  have hD9 := hD.sub (ws' := [(h0, .inr (11, [h0_0, h0_1, h0_2, h0_3, h0_4, h0_5, h0_6, h0_7, h0_8]))]) [0] (by decide +kernel) rfl
  refine W.widen (k := 0) (n := 0) (by omega) (by omega) ?_
  exact W.iret (v := (-1)) hx hb hr (fun t ht hW => ⟨⟨(-1), (), rfl, rfl, by rw [ht]; exact hP9, hD9⟩, hS.F ht⟩) hS.2.2 d_ProofDesk_fuel_13
theorem d_ProofDesk_fuel_14 : decode b_ProofDesk_fuel 14 = .ok (.aload_n 0, 1) := by decide +kernel
theorem d_ProofDesk_fuel_15 : decode b_ProofDesk_fuel 15 = .ok (.getfield 10, 3) := by decide +kernel
theorem d_ProofDesk_fuel_18 : decode b_ProofDesk_fuel 18 = .ok (.getfield 138, 3) := by decide +kernel
theorem kw_68 : (Jvm.Cond.fieldLinkNest "ProofDesk" (138 : Nat) "ProofDesk$Ledger" "fuel" "I" "ProofDesk") ∈ zn := List.mem_filter.mpr ⟨List.mem_append_right _ (List.mem_of_getElem? (i := 68) (by decide +kernel)), by decide +kernel⟩
theorem d_ProofDesk_fuel_21 : decode b_ProofDesk_fuel 21 = .ok (.istore_n 2, 1) := by decide +kernel
theorem d_ProofDesk_fuel_22 : decode b_ProofDesk_fuel 22 = .ok (.aload_n 0, 1) := by decide +kernel
theorem d_ProofDesk_fuel_23 : decode b_ProofDesk_fuel 23 = .ok (.getfield 10, 3) := by decide +kernel
theorem d_ProofDesk_fuel_26 : decode b_ProofDesk_fuel 26 = .ok (.iload_n 1, 1) := by decide +kernel
theorem d_ProofDesk_fuel_27 : decode b_ProofDesk_fuel 27 = .ok (.putfield 138, 3) := by decide +kernel
theorem d_ProofDesk_fuel_30 : decode b_ProofDesk_fuel 30 = .ok (.iload_n 2, 1) := by decide +kernel
theorem d_ProofDesk_fuel_31 : decode b_ProofDesk_fuel 31 = .ok (.ireturn, 1) := by decide +kernel
set_option maxHeartbeats 4000000 in
set_option maxRecDepth 100000 in
theorem c_fuel_ok (l : Launch) (D : va_G) (cI cB cZ cS : ClassId) (sz : Nat) (h0 : Nat) (le : Nat) (h0_1 : Value) (h0_2 : Value) (h0_3 : Value) (h0_4 : Value) (h0_5 : Value) (h0_6 : Value) (h0_7 : Value) (h0_8 : Value) (fu : Int32) (le_0 : Value) (le_2 : Value) (le_3 : Value) (le_4 : Value) (le_5 : Value) (n : Int32) (hn : ¬ n < 1) (hm : n ≤ 10000) : Met l y_ProofDesk_fuel (zc y_ProofDesk_fuel b_ProofDesk_fuel 3 (some .int)) ({ frames := 0, cells := 0, slots := 0, locals := 0 }) (zPc D (zty cI cB cZ cS) [(h0, .inr (11, [.ref le, h0_1, h0_2, h0_3, h0_4, h0_5, h0_6, h0_7, h0_8])), (le, .inr (1, [le_0, .int fu, le_2, le_3, le_4, le_5]))] sz [.ref h0, .int n]) (va_Qi (fun (r : Int32) (_ : Unit) => r = fu) (fun _ t => va_P D zcl [(h0, .inr (11, [.ref le, h0_1, h0_2, h0_3, h0_4, h0_5, h0_6, h0_7, h0_8])), (le, .inr (1, [le_0, .int n, le_2, le_3, le_4, le_5]))] t.heap ∧ va_D (va_A [(h0, .inr (11, [.ref le, h0_1, h0_2, h0_3, h0_4, h0_5, h0_6, h0_7, h0_8])), (le, .inr (1, [le_0, .int fu, le_2, le_3, le_4, le_5]))] sz) [(h0, .inr (11, [.ref le, h0_1, h0_2, h0_3, h0_4, h0_5, h0_6, h0_7, h0_8])), (le, .inr (1, [le_0, .int n, le_2, le_3, le_4, le_5]))]) (va_A [(h0, .inr (11, [.ref le, h0_1, h0_2, h0_3, h0_4, h0_5, h0_6, h0_7, h0_8])), (le, .inr (1, [le_0, .int fu, le_2, le_3, le_4, le_5]))] sz)) 0 0 (va_A [(h0, .inr (11, [.ref le, h0_1, h0_2, h0_3, h0_4, h0_5, h0_6, h0_7, h0_8])), (le, .inr (1, [le_0, .int fu, le_2, le_3, le_4, le_5]))] sz) := by
  refine Met.ofW (cc := b_ProofDesk_fuel) (maxL := 3) (ret := (some .int)) (by decide) rfl ?_
  intro p e s m args below meth c s₁ B hml hv
  obtain ⟨rfl, hsz, hP, ⟨hK, hN⟩, hD0⟩ := hv
  have hx := B.exec
  have hb := B.bytes
  have hr := B.returns
  have hts0 := atoms_spec (ws := zc y_ProofDesk_fuel b_ProofDesk_fuel 3 (some .int)) B.pre
  have hts : ∀ w ∈ zw, w.before _ s = true := fun w hw => hts0 w (List.mem_cons_of_mem _ hw)
  have hown : s.vm.findClass "ProofDesk" = some m.cls := findClass_of_methodNamed B.named
  have hlocks := B.notSynchronized
  subst hsz
  have hD := hD0.self (sz := s.heap.size)
  generalize hAe : va_A [(h0, .inr (11, [.ref le, h0_1, h0_2, h0_3, h0_4, h0_5, h0_6, h0_7, h0_8])), (le, .inr (1, [le_0, .int fu, le_2, le_3, le_4, le_5]))] s.heap.size = A at hD ⊢
  have hA : ∀ q : Nat, s.heap.size ≤ q → A q := fun q h => by rw [← hAe]; exact Or.inr h
  have hS : va_S A s.heap s.heap [] := va_S.rf
  have hP : va_P D zcl [(h0, .inr (11, [.ref le, h0_1, h0_2, h0_3, h0_4, h0_5, h0_6, h0_7, h0_8])), (le, .inr (1, [le_0, .int fu, le_2, le_3, le_4, le_5]))] s.heap := hP
  have hl := lv_entry ([.ref h0, .int n]) (n := 3) (Nat.le_of_ble_eq_true rfl)
  rw [lg_entry_eq]
  generalize (lg_sl ([.ref h0, .int n]) ++ List.replicate (3 - (lg_sl ([.ref h0, .int n])).length) Slot.unset).toArray = ls at hl ⊢
  have hl : lv_has ls 3 [(0, .ref h0), (1, .int n)] := hl
  refine lv_iload_n hx hb d_ProofDesk_fuel_0 rfl (lv_at hl 1 rfl) ?_
  refine lv_iconst (v := 1) hx hb d_ProofDesk_fuel_1 (by decide) ?_
  have hc_1 : ¬ (n : Int32) < 1 := hn
  refine lv_icmp_lt hx hb d_ProofDesk_fuel_2 rfl (fun h => absurd h hc_1) (fun _ => ?_)
  refine lv_iload_n hx hb d_ProofDesk_fuel_5 rfl (lv_at hl 1 rfl) ?_
  refine lv_sipush (v := 10000) hx hb d_ProofDesk_fuel_6 (by decide) ?_
  have hc_2 : (n : Int32) ≤ 10000 := hm
  refine lv_icmp_le hx hb d_ProofDesk_fuel_9 rfl (fun _ => ?_) (fun h => absurd hc_2 h)
  refine lv_aload_n hx hb d_ProofDesk_fuel_14 rfl (lv_at hl 0 rfl) ?_
  refine va_get (D := D) (ci := 11) (v := .ref le) (C := "ProofDesk") (T := F_ProofDesk) (N := 9) hx hb hts in_ProofDesk hown hK hP 0 rfl rfl 0 (by decide) (hts _ kw_558) (fun _ h9 => h9) rfl d_ProofDesk_fuel_15 ?_
  refine va_getN (D := D) (ci := 1) (v := .int fu) (C := "ProofDesk$Ledger") (T := F_Ledger) (N := 6) hx hb hts in_Ledger hown hK hP 1 rfl rfl 1 (by decide) (va_Nw.use rfl (hN _ kw_68)) (fun _ h9 => h9) rfl d_ProofDesk_fuel_18 ?_
  refine lv_istore_n (lv' := [(2, .int fu), (0, .ref h0), (1, .int n)]) hx hb d_ProofDesk_fuel_21 rfl hl (by decide) rfl (fun ls hl => ?_)
  refine lv_aload_n hx hb d_ProofDesk_fuel_22 rfl (lv_at hl 1 rfl) ?_
  refine va_get (D := D) (ci := 11) (v := .ref le) (C := "ProofDesk") (T := F_ProofDesk) (N := 9) hx hb hts in_ProofDesk hown hK hP 0 rfl rfl 0 (by decide) (hts _ kw_558) (fun _ h9 => h9) rfl d_ProofDesk_fuel_23 ?_
  refine lv_iload_n hx hb d_ProofDesk_fuel_26 rfl (lv_at hl 2 rfl) ?_
  refine va_putN (D := D) (ci := 1) (v := .int n) (ty := .int) (C := "ProofDesk$Ledger") (T := F_Ledger) (N := 6) hx hb hts in_Ledger t_Ledger t_Ledger_ok n_Ledger hown hK hP hD hS 1 rfl rfl 1 (by decide) (va_Nw.use rfl (hN _ kw_68)) (fun _ h9 => h9) rfl (by decide +kernel) rfl rfl (Nat.le_of_ble_eq_true rfl) d_ProofDesk_fuel_27 (fun H locs hP hD hS => ?_)
  have hP : va_P D zcl [(h0, .inr (11, [.ref le, h0_1, h0_2, h0_3, h0_4, h0_5, h0_6, h0_7, h0_8])), (le, .inr (1, [le_0, .int n, le_2, le_3, le_4, le_5]))] H := hP
  have hD : va_D A [(h0, .inr (11, [.ref le, h0_1, h0_2, h0_3, h0_4, h0_5, h0_6, h0_7, h0_8])), (le, .inr (1, [le_0, .int n, le_2, le_3, le_4, le_5]))] := hD
  refine lv_iload_n hx hb d_ProofDesk_fuel_30 rfl (lv_at hl 0 rfl) ?_
  have hP9 := hP.sub (ws' := [(h0, .inr (11, [.ref le, h0_1, h0_2, h0_3, h0_4, h0_5, h0_6, h0_7, h0_8])), (le, .inr (1, [le_0, .int n, le_2, le_3, le_4, le_5]))]) [0, 1] rfl
  have hD9 := hD.sub (ws' := [(h0, .inr (11, [.ref le, h0_1, h0_2, h0_3, h0_4, h0_5, h0_6, h0_7, h0_8])), (le, .inr (1, [le_0, .int n, le_2, le_3, le_4, le_5]))]) [0, 1] (by decide +kernel) rfl
  refine W.widen (k := 0) (n := 0) (by omega) (by omega) ?_
  exact W.iret (v := fu) hx hb hr (fun t ht hW => ⟨⟨fu, (), rfl, rfl, by rw [ht]; exact hP9, hD9⟩, hS.F ht⟩) hS.2.2 d_ProofDesk_fuel_31
abbrev b_Ledger_tell : ByteArray := prog_3_method_9_code
abbrev y_Ledger_tell : MethodName := ⟨"ProofDesk$Ledger", "tell", "(II)I"⟩
theorem d_Ledger_tell_0 : decode b_Ledger_tell 0 = .ok (.iload_n 1, 1) := by decide +kernel
theorem d_Ledger_tell_1 : decode b_Ledger_tell 1 = .ok (.ifCond .lt 23, 3) := by decide +kernel
theorem d_Ledger_tell_24 : decode b_Ledger_tell 24 = .ok (.iconst (-1), 1) := by decide +kernel
theorem d_Ledger_tell_25 : decode b_Ledger_tell 25 = .ok (.goto 12, 3) := by decide +kernel
theorem d_Ledger_tell_37 : decode b_Ledger_tell 37 = .ok (.ireturn, 1) := by decide +kernel
set_option maxHeartbeats 4000000 in
set_option maxRecDepth 100000 in
theorem c_tell_lo (l : Launch) (D : va_G) (cI cB cZ cS : ClassId) (sz : Nat) (le : Nat) (vd : Nat) (le_1 : Value) (le_2 : Value) (le_3 : Value) (le_4 : Value) (le_5 : Value) (n : Int32) (wh : Int32) (hn : n < 0) : Met l y_Ledger_tell (zc y_Ledger_tell b_Ledger_tell 3 (some .int)) ({ frames := 0, cells := 0, slots := 0, locals := 0 }) (zPc D (zty cI cB cZ cS) [(le, .inr (1, [.ref vd, le_1, le_2, le_3, le_4, le_5]))] sz [.ref le, .int n, .int wh]) (va_Qi (fun (r : Int32) (_ : Unit) => r = (-1)) (fun _ t => va_P D zcl [(le, .inr (1, [.ref vd, le_1, le_2, le_3, le_4, le_5]))] t.heap ∧ va_D (va_A [(le, .inr (1, [.ref vd, le_1, le_2, le_3, le_4, le_5]))] sz) [(le, .inr (1, [.ref vd, le_1, le_2, le_3, le_4, le_5]))]) (va_A [(le, .inr (1, [.ref vd, le_1, le_2, le_3, le_4, le_5]))] sz)) 0 0 (va_A [(le, .inr (1, [.ref vd, le_1, le_2, le_3, le_4, le_5]))] sz) := by
  refine Met.ofW (cc := b_Ledger_tell) (maxL := 3) (ret := (some .int)) (by decide) rfl ?_
  intro p e s m args below meth c s₁ B hml hv
  obtain ⟨rfl, hsz, hP, ⟨hK, hN⟩, hD0⟩ := hv
  have hx := B.exec
  have hb := B.bytes
  have hr := B.returns
  have hts0 := atoms_spec (ws := zc y_Ledger_tell b_Ledger_tell 3 (some .int)) B.pre
  have hts : ∀ w ∈ zw, w.before _ s = true := fun w hw => hts0 w (List.mem_cons_of_mem _ hw)
  have hown : s.vm.findClass "ProofDesk$Ledger" = some m.cls := findClass_of_methodNamed B.named
  have hlocks := B.notSynchronized
  subst hsz
  have hD := hD0.self (sz := s.heap.size)
  generalize hAe : va_A [(le, .inr (1, [.ref vd, le_1, le_2, le_3, le_4, le_5]))] s.heap.size = A at hD ⊢
  have hA : ∀ q : Nat, s.heap.size ≤ q → A q := fun q h => by rw [← hAe]; exact Or.inr h
  have hS : va_S A s.heap s.heap [] := va_S.rf
  have hP : va_P D zcl [(le, .inr (1, [.ref vd, le_1, le_2, le_3, le_4, le_5]))] s.heap := hP
  have hl := lv_entry ([.ref le, .int n, .int wh]) (n := 3) (Nat.le_of_ble_eq_true rfl)
  rw [lg_entry_eq]
  generalize (lg_sl ([.ref le, .int n, .int wh]) ++ List.replicate (3 - (lg_sl ([.ref le, .int n, .int wh])).length) Slot.unset).toArray = ls at hl ⊢
  have hl : lv_has ls 3 [(0, .ref le), (1, .int n), (2, .int wh)] := hl
  refine lv_iload_n hx hb d_Ledger_tell_0 rfl (lv_at hl 1 rfl) ?_
  have hc_1 : (n : Int32) < 0 := hn
  refine lv_if_lt hx hb d_Ledger_tell_1 rfl (fun _ => ?_) (fun h => absurd hc_1 h)
  refine lv_iconst (v := (-1)) hx hb d_Ledger_tell_24 (by decide) ?_
  refine lv_goto hx hb d_Ledger_tell_25 rfl ?_
  have hP9 := hP.sub (ws' := [(le, .inr (1, [.ref vd, le_1, le_2, le_3, le_4, le_5]))]) [0] rfl
  have hD9 := hD.sub (ws' := [(le, .inr (1, [.ref vd, le_1, le_2, le_3, le_4, le_5]))]) [0] (by decide +kernel) rfl
  refine W.widen (k := 0) (n := 0) (by omega) (by omega) ?_
  exact W.iret (v := (-1)) hx hb hr (fun t ht hW => ⟨⟨(-1), (), rfl, rfl, by rw [ht]; exact hP9, hD9⟩, hS.F ht⟩) hS.2.2 d_Ledger_tell_37
theorem d_Ledger_tell_4 : decode b_Ledger_tell 4 = .ok (.iload_n 1, 1) := by decide +kernel
theorem d_Ledger_tell_5 : decode b_Ledger_tell 5 = .ok (.aload_n 0, 1) := by decide +kernel
theorem d_Ledger_tell_6 : decode b_Ledger_tell 6 = .ok (.getfield 16, 3) := by decide +kernel
theorem d_Ledger_tell_9 : decode b_Ledger_tell 9 = .ok (.getfield 24, 3) := by decide +kernel
theorem kw_48 : (Jvm.Cond.fieldLinkNest "ProofDesk$Ledger" (24 : Nat) "ProofDesk$Pile" "count" "I" "ProofDesk") ∈ zn := List.mem_filter.mpr ⟨List.mem_append_right _ (List.mem_of_getElem? (i := 48) (by decide +kernel)), by decide +kernel⟩
theorem d_Ledger_tell_12 : decode b_Ledger_tell 12 = .ok (.if_icmp .ge 12, 3) := by decide +kernel
set_option maxHeartbeats 4000000 in
set_option maxRecDepth 100000 in
theorem c_tell_no (l : Launch) (D : va_G) (cI cB cZ cS : ClassId) (sz : Nat) (le : Nat) (vd : Nat) (le_1 : Value) (le_2 : Value) (le_3 : Value) (le_4 : Value) (le_5 : Value) (cn : Int32) (vd_0 : Value) (vd_1 : Value) (n : Int32) (wh : Int32) (hn : ¬ n < 0) (hm : cn ≤ n) : Met l y_Ledger_tell (zc y_Ledger_tell b_Ledger_tell 3 (some .int)) ({ frames := 0, cells := 0, slots := 0, locals := 0 }) (zPc D (zty cI cB cZ cS) [(le, .inr (1, [.ref vd, le_1, le_2, le_3, le_4, le_5])), (vd, .inr (0, [vd_0, vd_1, .int cn]))] sz [.ref le, .int n, .int wh]) (va_Qi (fun (r : Int32) (_ : Unit) => r = (-1)) (fun _ t => va_P D zcl [(le, .inr (1, [.ref vd, le_1, le_2, le_3, le_4, le_5])), (vd, .inr (0, [vd_0, vd_1, .int cn]))] t.heap ∧ va_D (va_A [(le, .inr (1, [.ref vd, le_1, le_2, le_3, le_4, le_5])), (vd, .inr (0, [vd_0, vd_1, .int cn]))] sz) [(le, .inr (1, [.ref vd, le_1, le_2, le_3, le_4, le_5])), (vd, .inr (0, [vd_0, vd_1, .int cn]))]) (va_A [(le, .inr (1, [.ref vd, le_1, le_2, le_3, le_4, le_5])), (vd, .inr (0, [vd_0, vd_1, .int cn]))] sz)) 0 0 (va_A [(le, .inr (1, [.ref vd, le_1, le_2, le_3, le_4, le_5])), (vd, .inr (0, [vd_0, vd_1, .int cn]))] sz) := by
  refine Met.ofW (cc := b_Ledger_tell) (maxL := 3) (ret := (some .int)) (by decide) rfl ?_
  intro p e s m args below meth c s₁ B hml hv
  obtain ⟨rfl, hsz, hP, ⟨hK, hN⟩, hD0⟩ := hv
  have hx := B.exec
  have hb := B.bytes
  have hr := B.returns
  have hts0 := atoms_spec (ws := zc y_Ledger_tell b_Ledger_tell 3 (some .int)) B.pre
  have hts : ∀ w ∈ zw, w.before _ s = true := fun w hw => hts0 w (List.mem_cons_of_mem _ hw)
  have hown : s.vm.findClass "ProofDesk$Ledger" = some m.cls := findClass_of_methodNamed B.named
  have hlocks := B.notSynchronized
  subst hsz
  have hD := hD0.self (sz := s.heap.size)
  generalize hAe : va_A [(le, .inr (1, [.ref vd, le_1, le_2, le_3, le_4, le_5])), (vd, .inr (0, [vd_0, vd_1, .int cn]))] s.heap.size = A at hD ⊢
  have hA : ∀ q : Nat, s.heap.size ≤ q → A q := fun q h => by rw [← hAe]; exact Or.inr h
  have hS : va_S A s.heap s.heap [] := va_S.rf
  have hP : va_P D zcl [(le, .inr (1, [.ref vd, le_1, le_2, le_3, le_4, le_5])), (vd, .inr (0, [vd_0, vd_1, .int cn]))] s.heap := hP
  have hl := lv_entry ([.ref le, .int n, .int wh]) (n := 3) (Nat.le_of_ble_eq_true rfl)
  rw [lg_entry_eq]
  generalize (lg_sl ([.ref le, .int n, .int wh]) ++ List.replicate (3 - (lg_sl ([.ref le, .int n, .int wh])).length) Slot.unset).toArray = ls at hl ⊢
  have hl : lv_has ls 3 [(0, .ref le), (1, .int n), (2, .int wh)] := hl
  refine lv_iload_n hx hb d_Ledger_tell_0 rfl (lv_at hl 1 rfl) ?_
  have hc_1 : ¬ (n : Int32) < 0 := hn
  refine lv_if_lt hx hb d_Ledger_tell_1 rfl (fun h => absurd h hc_1) (fun _ => ?_)
  refine lv_iload_n hx hb d_Ledger_tell_4 rfl (lv_at hl 1 rfl) ?_
  refine lv_aload_n hx hb d_Ledger_tell_5 rfl (lv_at hl 0 rfl) ?_
  refine va_get (D := D) (ci := 1) (v := .ref vd) (C := "ProofDesk$Ledger") (T := F_Ledger) (N := 6) hx hb hts in_Ledger hown hK hP 0 rfl rfl 0 (by decide) (hts _ kw_65) (fun _ h9 => h9) rfl d_Ledger_tell_6 ?_
  refine va_getN (D := D) (ci := 0) (v := .int cn) (C := "ProofDesk$Pile") (T := F_Pile) (N := 3) hx hb hts in_Pile hown hK hP 1 rfl rfl 2 (by decide) (va_Nw.use rfl (hN _ kw_48)) (fun _ h9 => h9) rfl d_Ledger_tell_9 ?_
  have hc_2 : (cn : Int32) ≤ n := hm
  refine lv_icmp_ge hx hb d_Ledger_tell_12 rfl (fun _ => ?_) (fun h => absurd hc_2 h)
  refine lv_iconst (v := (-1)) hx hb d_Ledger_tell_24 (by decide) ?_
  refine lv_goto hx hb d_Ledger_tell_25 rfl ?_
  have hP9 := hP.sub (ws' := [(le, .inr (1, [.ref vd, le_1, le_2, le_3, le_4, le_5])), (vd, .inr (0, [vd_0, vd_1, .int cn]))]) [0, 1] rfl
  have hD9 := hD.sub (ws' := [(le, .inr (1, [.ref vd, le_1, le_2, le_3, le_4, le_5])), (vd, .inr (0, [vd_0, vd_1, .int cn]))]) [0, 1] (by decide +kernel) rfl
  refine W.widen (k := 0) (n := 0) (by omega) (by omega) ?_
  exact W.iret (v := (-1)) hx hb hr (fun t ht hW => ⟨⟨(-1), (), rfl, rfl, by rw [ht]; exact hP9, hD9⟩, hS.F ht⟩) hS.2.2 d_Ledger_tell_37
abbrev b_ProofDesk_verdict : ByteArray := prog_1_method_6_code
abbrev y_ProofDesk_verdict : MethodName := ⟨"ProofDesk", "verdict", "(II)I"⟩
theorem d_ProofDesk_verdict_0 : decode b_ProofDesk_verdict 0 = .ok (.aload_n 0, 1) := by decide +kernel
theorem d_ProofDesk_verdict_1 : decode b_ProofDesk_verdict 1 = .ok (.getfield 10, 3) := by decide +kernel
theorem d_ProofDesk_verdict_4 : decode b_ProofDesk_verdict 4 = .ok (.iload_n 1, 1) := by decide +kernel
theorem d_ProofDesk_verdict_5 : decode b_ProofDesk_verdict 5 = .ok (.iload_n 2, 1) := by decide +kernel
theorem d_ProofDesk_verdict_6 : decode b_ProofDesk_verdict 6 = .ok (.invokevirtual 141, 3) := by decide +kernel
set_option maxRecDepth 100000 in
theorem kw_1643 : (Jvm.Cond.code ({ cls := "ProofDesk$Ledger", name := "tell", desc := "(II)I" } : Jvm.MethodName) prog_3_method_9_code (3 : Nat) (Option.some Jvm.ClassFile.FieldType.int)) ∈ zw := List.mem_filter.mpr ⟨List.mem_append_right _ (List.mem_of_getElem? (i := 1643) rfl), by decide +kernel⟩
theorem kw_1640 : (Jvm.Cond.methodLink "ProofDesk" (141 : Nat) ({ cls := "ProofDesk$Ledger", name := "tell", desc := "(II)I" } : Jvm.MethodName)) ∈ zw := List.mem_filter.mpr ⟨List.mem_append_right _ (List.mem_of_getElem? (i := 1640) (by decide +kernel)), by decide +kernel⟩
theorem kw_1641 : (Jvm.Cond.instanceMethod ({ cls := "ProofDesk$Ledger", name := "tell", desc := "(II)I" } : Jvm.MethodName)) ∈ zw := List.mem_filter.mpr ⟨List.mem_append_right _ (List.mem_of_getElem? (i := 1641) (by decide +kernel)), by decide +kernel⟩
theorem kw_1642 : (Jvm.Cond.selects "ProofDesk$Ledger" ({ cls := "ProofDesk$Ledger", name := "tell", desc := "(II)I" } : Jvm.MethodName) ({ cls := "ProofDesk$Ledger", name := "tell", desc := "(II)I" } : Jvm.MethodName)) ∈ zw := List.mem_filter.mpr ⟨List.mem_append_right _ (List.mem_of_getElem? (i := 1642) (by decide +kernel)), by decide +kernel⟩
theorem d_ProofDesk_verdict_9 : decode b_ProofDesk_verdict 9 = .ok (.ireturn, 1) := by decide +kernel
set_option maxHeartbeats 4000000 in
set_option maxRecDepth 100000 in
theorem c_verdict_lo (l : Launch) (D : va_G) (cI cB cZ cS : ClassId) (sz : Nat) (h0 : Nat) (le : Nat) (h0_1 : Value) (h0_2 : Value) (h0_3 : Value) (h0_4 : Value) (h0_5 : Value) (h0_6 : Value) (h0_7 : Value) (h0_8 : Value) (vd : Nat) (le_1 : Value) (le_2 : Value) (le_3 : Value) (le_4 : Value) (le_5 : Value) (n : Int32) (wh : Int32) (hn : n < 0) : Met l y_ProofDesk_verdict (zc y_ProofDesk_verdict b_ProofDesk_verdict 3 (some .int)) ({ frames := 1, cells := 0, slots := 0, locals := 22 }) (zPc D (zty cI cB cZ cS) [(h0, .inr (11, [.ref le, h0_1, h0_2, h0_3, h0_4, h0_5, h0_6, h0_7, h0_8])), (le, .inr (1, [.ref vd, le_1, le_2, le_3, le_4, le_5]))] sz [.ref h0, .int n, .int wh]) (va_Qi (fun (r : Int32) (_ : Unit) => r = (-1)) (fun _ t => va_P D zcl [(h0, .inr (11, [.ref le, h0_1, h0_2, h0_3, h0_4, h0_5, h0_6, h0_7, h0_8])), (le, .inr (1, [.ref vd, le_1, le_2, le_3, le_4, le_5]))] t.heap ∧ va_D (va_A [(h0, .inr (11, [.ref le, h0_1, h0_2, h0_3, h0_4, h0_5, h0_6, h0_7, h0_8])), (le, .inr (1, [.ref vd, le_1, le_2, le_3, le_4, le_5]))] sz) [(h0, .inr (11, [.ref le, h0_1, h0_2, h0_3, h0_4, h0_5, h0_6, h0_7, h0_8])), (le, .inr (1, [.ref vd, le_1, le_2, le_3, le_4, le_5]))]) (va_A [(h0, .inr (11, [.ref le, h0_1, h0_2, h0_3, h0_4, h0_5, h0_6, h0_7, h0_8])), (le, .inr (1, [.ref vd, le_1, le_2, le_3, le_4, le_5]))] sz)) 0 0 (va_A [(h0, .inr (11, [.ref le, h0_1, h0_2, h0_3, h0_4, h0_5, h0_6, h0_7, h0_8])), (le, .inr (1, [.ref vd, le_1, le_2, le_3, le_4, le_5]))] sz) := by
  refine Met.ofW (cc := b_ProofDesk_verdict) (maxL := 3) (ret := (some .int)) (by decide) rfl ?_
  intro p e s m args below meth c s₁ B hml hv
  obtain ⟨rfl, hsz, hP, ⟨hK, hN⟩, hD0⟩ := hv
  have hx := B.exec
  have hb := B.bytes
  have hr := B.returns
  have hts0 := atoms_spec (ws := zc y_ProofDesk_verdict b_ProofDesk_verdict 3 (some .int)) B.pre
  have hts : ∀ w ∈ zw, w.before _ s = true := fun w hw => hts0 w (List.mem_cons_of_mem _ hw)
  have hown : s.vm.findClass "ProofDesk" = some m.cls := findClass_of_methodNamed B.named
  have hlocks := B.notSynchronized
  subst hsz
  have hD := hD0.self (sz := s.heap.size)
  generalize hAe : va_A [(h0, .inr (11, [.ref le, h0_1, h0_2, h0_3, h0_4, h0_5, h0_6, h0_7, h0_8])), (le, .inr (1, [.ref vd, le_1, le_2, le_3, le_4, le_5]))] s.heap.size = A at hD ⊢
  have hA : ∀ q : Nat, s.heap.size ≤ q → A q := fun q h => by rw [← hAe]; exact Or.inr h
  have hS : va_S A s.heap s.heap [] := va_S.rf
  have hP : va_P D zcl [(h0, .inr (11, [.ref le, h0_1, h0_2, h0_3, h0_4, h0_5, h0_6, h0_7, h0_8])), (le, .inr (1, [.ref vd, le_1, le_2, le_3, le_4, le_5]))] s.heap := hP
  have hl := lv_entry ([.ref h0, .int n, .int wh]) (n := 3) (Nat.le_of_ble_eq_true rfl)
  rw [lg_entry_eq]
  generalize (lg_sl ([.ref h0, .int n, .int wh]) ++ List.replicate (3 - (lg_sl ([.ref h0, .int n, .int wh])).length) Slot.unset).toArray = ls at hl ⊢
  have hl : lv_has ls 3 [(0, .ref h0), (1, .int n), (2, .int wh)] := hl
  refine lv_aload_n hx hb d_ProofDesk_verdict_0 rfl (lv_at hl 0 rfl) ?_
  refine va_get (D := D) (ci := 11) (v := .ref le) (C := "ProofDesk") (T := F_ProofDesk) (N := 9) hx hb hts in_ProofDesk hown hK hP 0 rfl rfl 0 (by decide) (hts _ kw_558) (fun _ h9 => h9) rfl d_ProofDesk_verdict_1 ?_
  refine lv_iload_n hx hb d_ProofDesk_verdict_4 rfl (lv_at hl 1 rfl) ?_
  refine lv_iload_n hx hb d_ProofDesk_verdict_5 rfl (lv_at hl 2 rfl) ?_
  have hPc := hP.sub (ws' := [(le, .inr (1, [.ref vd, le_1, le_2, le_3, le_4, le_5]))]) [1] rfl
  have hDc := hD.sub (ws' := [(le, .inr (1, [.ref vd, le_1, le_2, le_3, le_4, le_5]))]) [1] (by decide +kernel) rfl
  have hFc := va_free (wc := [(le, .inr (1, [.ref vd, le_1, le_2, le_3, le_4, le_5]))]) hD hS hA [1] rfl
  have hkc : 0 + 0 ≤ 0 := by omega
  have hks : 0 + 0 ≤ 0 := by omega
  refine va_calli (va_runV (As := [.int n, .int wh]) (rest := []) ⟨hx, hb, hml, hown, hts⟩ (c_tell_lo l D cI cB cZ cS s.heap.size le vd le_1 le_2 le_3 le_4 le_5 n wh hn) (⟨callB_of 2 hts (zgood kw_1643) rfl rfl rfl (hts _ kw_2) (hts _ kw_1640) (by decide +kernel) ⟨Nat.le_of_ble_eq_true rfl, Nat.le_of_ble_eq_true rfl⟩, hts _ kw_1641, hts _ kw_1642⟩) (zPreV hPc hK hN hDc (va_recv (q := ("ProofDesk$Ledger", F_Ledger, 6)) hK hP rfl (q0 := 1) rfl)) rfl rfl hl.1 rfl (lv_room (Nat.le_of_ble_eq_true rfl)) d_ProofDesk_verdict_6 ⟨hkc, hks⟩) hS (fun q _ h => hFc q h) hFc (fun r u t H1 locs ht hvm hw hB hz1 hk1 hS => ?_)
  obtain ⟨hP1, hD1⟩ := hB
  rw [ht] at hP1
  obtain ⟨hP, hD⟩ := va_join (wr := [(h0, .inr (11, [.ref le, h0_1, h0_2, h0_3, h0_4, h0_5, h0_6, h0_7, h0_8]))]) (w1 := [(le, .inr (1, [.ref vd, le_1, le_2, le_3, le_4, le_5]))]) hP hD [1] [0] rfl rfl (by decide +kernel) (by decide +kernel) hk1 hFc hP1 hD1
  generalize H1 = H at hP hS ⊢
  have hP : va_P D zcl [(h0, .inr (11, [.ref le, h0_1, h0_2, h0_3, h0_4, h0_5, h0_6, h0_7, h0_8])), (le, .inr (1, [.ref vd, le_1, le_2, le_3, le_4, le_5]))] H := hP
  have hD : va_D A [(h0, .inr (11, [.ref le, h0_1, h0_2, h0_3, h0_4, h0_5, h0_6, h0_7, h0_8])), (le, .inr (1, [.ref vd, le_1, le_2, le_3, le_4, le_5]))] := hD
  subst hw
  refine W.widen (k := 0) (n := 0) (by omega) (by omega) ?_
  have hP9 := hP.sub (ws' := [(h0, .inr (11, [.ref le, h0_1, h0_2, h0_3, h0_4, h0_5, h0_6, h0_7, h0_8])), (le, .inr (1, [.ref vd, le_1, le_2, le_3, le_4, le_5]))]) [0, 1] rfl
  have hD9 := hD.sub (ws' := [(h0, .inr (11, [.ref le, h0_1, h0_2, h0_3, h0_4, h0_5, h0_6, h0_7, h0_8])), (le, .inr (1, [.ref vd, le_1, le_2, le_3, le_4, le_5]))]) [0, 1] (by decide +kernel) rfl
  refine W.widen (k := 0) (n := 0) (by omega) (by omega) ?_
  exact W.iret (v := (-1)) hx hb hr (fun t ht hW => ⟨⟨(-1), (), rfl, rfl, by rw [ht]; exact hP9, hD9⟩, hS.F ht⟩) hS.2.2 d_ProofDesk_verdict_9
set_option maxHeartbeats 4000000 in
set_option maxRecDepth 100000 in
theorem c_verdict_no (l : Launch) (D : va_G) (cI cB cZ cS : ClassId) (sz : Nat) (h0 : Nat) (le : Nat) (h0_1 : Value) (h0_2 : Value) (h0_3 : Value) (h0_4 : Value) (h0_5 : Value) (h0_6 : Value) (h0_7 : Value) (h0_8 : Value) (vd : Nat) (le_1 : Value) (le_2 : Value) (le_3 : Value) (le_4 : Value) (le_5 : Value) (cn : Int32) (vd_0 : Value) (vd_1 : Value) (n : Int32) (wh : Int32) (hn : ¬ n < 0) (hm : cn ≤ n) : Met l y_ProofDesk_verdict (zc y_ProofDesk_verdict b_ProofDesk_verdict 3 (some .int)) ({ frames := 1, cells := 0, slots := 0, locals := 22 }) (zPc D (zty cI cB cZ cS) [(h0, .inr (11, [.ref le, h0_1, h0_2, h0_3, h0_4, h0_5, h0_6, h0_7, h0_8])), (le, .inr (1, [.ref vd, le_1, le_2, le_3, le_4, le_5])), (vd, .inr (0, [vd_0, vd_1, .int cn]))] sz [.ref h0, .int n, .int wh]) (va_Qi (fun (r : Int32) (_ : Unit) => r = (-1)) (fun _ t => va_P D zcl [(h0, .inr (11, [.ref le, h0_1, h0_2, h0_3, h0_4, h0_5, h0_6, h0_7, h0_8])), (le, .inr (1, [.ref vd, le_1, le_2, le_3, le_4, le_5])), (vd, .inr (0, [vd_0, vd_1, .int cn]))] t.heap ∧ va_D (va_A [(h0, .inr (11, [.ref le, h0_1, h0_2, h0_3, h0_4, h0_5, h0_6, h0_7, h0_8])), (le, .inr (1, [.ref vd, le_1, le_2, le_3, le_4, le_5])), (vd, .inr (0, [vd_0, vd_1, .int cn]))] sz) [(h0, .inr (11, [.ref le, h0_1, h0_2, h0_3, h0_4, h0_5, h0_6, h0_7, h0_8])), (le, .inr (1, [.ref vd, le_1, le_2, le_3, le_4, le_5])), (vd, .inr (0, [vd_0, vd_1, .int cn]))]) (va_A [(h0, .inr (11, [.ref le, h0_1, h0_2, h0_3, h0_4, h0_5, h0_6, h0_7, h0_8])), (le, .inr (1, [.ref vd, le_1, le_2, le_3, le_4, le_5])), (vd, .inr (0, [vd_0, vd_1, .int cn]))] sz)) 0 0 (va_A [(h0, .inr (11, [.ref le, h0_1, h0_2, h0_3, h0_4, h0_5, h0_6, h0_7, h0_8])), (le, .inr (1, [.ref vd, le_1, le_2, le_3, le_4, le_5])), (vd, .inr (0, [vd_0, vd_1, .int cn]))] sz) := by
  refine Met.ofW (cc := b_ProofDesk_verdict) (maxL := 3) (ret := (some .int)) (by decide) rfl ?_
  intro p e s m args below meth c s₁ B hml hv
  obtain ⟨rfl, hsz, hP, ⟨hK, hN⟩, hD0⟩ := hv
  have hx := B.exec
  have hb := B.bytes
  have hr := B.returns
  have hts0 := atoms_spec (ws := zc y_ProofDesk_verdict b_ProofDesk_verdict 3 (some .int)) B.pre
  have hts : ∀ w ∈ zw, w.before _ s = true := fun w hw => hts0 w (List.mem_cons_of_mem _ hw)
  have hown : s.vm.findClass "ProofDesk" = some m.cls := findClass_of_methodNamed B.named
  have hlocks := B.notSynchronized
  subst hsz
  have hD := hD0.self (sz := s.heap.size)
  generalize hAe : va_A [(h0, .inr (11, [.ref le, h0_1, h0_2, h0_3, h0_4, h0_5, h0_6, h0_7, h0_8])), (le, .inr (1, [.ref vd, le_1, le_2, le_3, le_4, le_5])), (vd, .inr (0, [vd_0, vd_1, .int cn]))] s.heap.size = A at hD ⊢
  have hA : ∀ q : Nat, s.heap.size ≤ q → A q := fun q h => by rw [← hAe]; exact Or.inr h
  have hS : va_S A s.heap s.heap [] := va_S.rf
  have hP : va_P D zcl [(h0, .inr (11, [.ref le, h0_1, h0_2, h0_3, h0_4, h0_5, h0_6, h0_7, h0_8])), (le, .inr (1, [.ref vd, le_1, le_2, le_3, le_4, le_5])), (vd, .inr (0, [vd_0, vd_1, .int cn]))] s.heap := hP
  have hl := lv_entry ([.ref h0, .int n, .int wh]) (n := 3) (Nat.le_of_ble_eq_true rfl)
  rw [lg_entry_eq]
  generalize (lg_sl ([.ref h0, .int n, .int wh]) ++ List.replicate (3 - (lg_sl ([.ref h0, .int n, .int wh])).length) Slot.unset).toArray = ls at hl ⊢
  have hl : lv_has ls 3 [(0, .ref h0), (1, .int n), (2, .int wh)] := hl
  refine lv_aload_n hx hb d_ProofDesk_verdict_0 rfl (lv_at hl 0 rfl) ?_
  refine va_get (D := D) (ci := 11) (v := .ref le) (C := "ProofDesk") (T := F_ProofDesk) (N := 9) hx hb hts in_ProofDesk hown hK hP 0 rfl rfl 0 (by decide) (hts _ kw_558) (fun _ h9 => h9) rfl d_ProofDesk_verdict_1 ?_
  refine lv_iload_n hx hb d_ProofDesk_verdict_4 rfl (lv_at hl 1 rfl) ?_
  refine lv_iload_n hx hb d_ProofDesk_verdict_5 rfl (lv_at hl 2 rfl) ?_
  have hPc := hP.sub (ws' := [(le, .inr (1, [.ref vd, le_1, le_2, le_3, le_4, le_5])), (vd, .inr (0, [vd_0, vd_1, .int cn]))]) [1, 2] rfl
  have hDc := hD.sub (ws' := [(le, .inr (1, [.ref vd, le_1, le_2, le_3, le_4, le_5])), (vd, .inr (0, [vd_0, vd_1, .int cn]))]) [1, 2] (by decide +kernel) rfl
  have hFc := va_free (wc := [(le, .inr (1, [.ref vd, le_1, le_2, le_3, le_4, le_5])), (vd, .inr (0, [vd_0, vd_1, .int cn]))]) hD hS hA [1, 2] rfl
  have hkc : 0 + 0 ≤ 0 := by omega
  have hks : 0 + 0 ≤ 0 := by omega
  refine va_calli (va_runV (As := [.int n, .int wh]) (rest := []) ⟨hx, hb, hml, hown, hts⟩ (c_tell_no l D cI cB cZ cS s.heap.size le vd le_1 le_2 le_3 le_4 le_5 cn vd_0 vd_1 n wh hn hm) (⟨callB_of 2 hts (zgood kw_1643) rfl rfl rfl (hts _ kw_2) (hts _ kw_1640) (by decide +kernel) ⟨Nat.le_of_ble_eq_true rfl, Nat.le_of_ble_eq_true rfl⟩, hts _ kw_1641, hts _ kw_1642⟩) (zPreV hPc hK hN hDc (va_recv (q := ("ProofDesk$Ledger", F_Ledger, 6)) hK hP rfl (q0 := 1) rfl)) rfl rfl hl.1 rfl (lv_room (Nat.le_of_ble_eq_true rfl)) d_ProofDesk_verdict_6 ⟨hkc, hks⟩) hS (fun q _ h => hFc q h) hFc (fun r u t H1 locs ht hvm hw hB hz1 hk1 hS => ?_)
  obtain ⟨hP1, hD1⟩ := hB
  rw [ht] at hP1
  obtain ⟨hP, hD⟩ := va_join (wr := [(h0, .inr (11, [.ref le, h0_1, h0_2, h0_3, h0_4, h0_5, h0_6, h0_7, h0_8]))]) (w1 := [(le, .inr (1, [.ref vd, le_1, le_2, le_3, le_4, le_5])), (vd, .inr (0, [vd_0, vd_1, .int cn]))]) hP hD [1, 2] [0] rfl rfl (by decide +kernel) (by decide +kernel) hk1 hFc hP1 hD1
  generalize H1 = H at hP hS ⊢
  have hP : va_P D zcl [(h0, .inr (11, [.ref le, h0_1, h0_2, h0_3, h0_4, h0_5, h0_6, h0_7, h0_8])), (le, .inr (1, [.ref vd, le_1, le_2, le_3, le_4, le_5])), (vd, .inr (0, [vd_0, vd_1, .int cn]))] H := hP
  have hD : va_D A [(h0, .inr (11, [.ref le, h0_1, h0_2, h0_3, h0_4, h0_5, h0_6, h0_7, h0_8])), (le, .inr (1, [.ref vd, le_1, le_2, le_3, le_4, le_5])), (vd, .inr (0, [vd_0, vd_1, .int cn]))] := hD
  subst hw
  refine W.widen (k := 0) (n := 0) (by omega) (by omega) ?_
  have hP9 := hP.sub (ws' := [(h0, .inr (11, [.ref le, h0_1, h0_2, h0_3, h0_4, h0_5, h0_6, h0_7, h0_8])), (le, .inr (1, [.ref vd, le_1, le_2, le_3, le_4, le_5])), (vd, .inr (0, [vd_0, vd_1, .int cn]))]) [0, 1, 2] rfl
  have hD9 := hD.sub (ws' := [(h0, .inr (11, [.ref le, h0_1, h0_2, h0_3, h0_4, h0_5, h0_6, h0_7, h0_8])), (le, .inr (1, [.ref vd, le_1, le_2, le_3, le_4, le_5])), (vd, .inr (0, [vd_0, vd_1, .int cn]))]) [0, 1, 2] (by decide +kernel) rfl
  refine W.widen (k := 0) (n := 0) (by omega) (by omega) ?_
  exact W.iret (v := (-1)) hx hb hr (fun t ht hW => ⟨⟨(-1), (), rfl, rfl, by rw [ht]; exact hP9, hD9⟩, hS.F ht⟩) hS.2.2 d_ProofDesk_verdict_9
abbrev b_ProofDesk_paper : ByteArray := prog_1_method_7_code
abbrev y_ProofDesk_paper : MethodName := ⟨"ProofDesk", "paper", "()I"⟩
theorem d_ProofDesk_paper_0 : decode b_ProofDesk_paper 0 = .ok (.aload_n 0, 1) := by decide +kernel
theorem d_ProofDesk_paper_1 : decode b_ProofDesk_paper 1 = .ok (.getfield 58, 3) := by decide +kernel
theorem d_ProofDesk_paper_4 : decode b_ProofDesk_paper 4 = .ok (.getfield 144, 3) := by decide +kernel
theorem kw_384 : (Jvm.Cond.fieldLinkNest "ProofDesk" (144 : Nat) "ProofDesk$Printer" "length" "I" "ProofDesk") ∈ zn := List.mem_filter.mpr ⟨List.mem_append_right _ (List.mem_of_getElem? (i := 384) (by decide +kernel)), by decide +kernel⟩
theorem d_ProofDesk_paper_7 : decode b_ProofDesk_paper 7 = .ok (.ireturn, 1) := by decide +kernel
set_option maxHeartbeats 4000000 in
set_option maxRecDepth 100000 in
theorem c_paper (l : Launch) (D : va_G) (cI cB cZ cS : ClassId) (sz : Nat) (h0 : Nat) (pr : Nat) (h0_0 : Value) (h0_1 : Value) (h0_2 : Value) (h0_3 : Value) (h0_4 : Value) (h0_6 : Value) (h0_7 : Value) (h0_8 : Value) (ln : Int32) (pr_0 : Value) (pr_1 : Value) (pr_2 : Value) (pr_3 : Value) (pr_5 : Value) (pr_6 : Value) (pr_7 : Value) (pr_8 : Value) (pr_9 : Value) (pr_10 : Value) (pr_11 : Value) (pr_12 : Value) (pr_13 : Value) : Met l y_ProofDesk_paper (zc y_ProofDesk_paper b_ProofDesk_paper 1 (some .int)) ({ frames := 0, cells := 0, slots := 0, locals := 0 }) (zPc D (zty cI cB cZ cS) [(h0, .inr (11, [h0_0, h0_1, h0_2, h0_3, h0_4, .ref pr, h0_6, h0_7, h0_8])), (pr, .inr (10, [pr_0, pr_1, pr_2, pr_3, .int ln, pr_5, pr_6, pr_7, pr_8, pr_9, pr_10, pr_11, pr_12, pr_13]))] sz [.ref h0]) (va_Qi (fun (r : Int32) (_ : Unit) => r = ln) (fun _ t => va_P D zcl [(h0, .inr (11, [h0_0, h0_1, h0_2, h0_3, h0_4, .ref pr, h0_6, h0_7, h0_8])), (pr, .inr (10, [pr_0, pr_1, pr_2, pr_3, .int ln, pr_5, pr_6, pr_7, pr_8, pr_9, pr_10, pr_11, pr_12, pr_13]))] t.heap ∧ va_D (va_A [(h0, .inr (11, [h0_0, h0_1, h0_2, h0_3, h0_4, .ref pr, h0_6, h0_7, h0_8])), (pr, .inr (10, [pr_0, pr_1, pr_2, pr_3, .int ln, pr_5, pr_6, pr_7, pr_8, pr_9, pr_10, pr_11, pr_12, pr_13]))] sz) [(h0, .inr (11, [h0_0, h0_1, h0_2, h0_3, h0_4, .ref pr, h0_6, h0_7, h0_8])), (pr, .inr (10, [pr_0, pr_1, pr_2, pr_3, .int ln, pr_5, pr_6, pr_7, pr_8, pr_9, pr_10, pr_11, pr_12, pr_13]))]) (va_A [(h0, .inr (11, [h0_0, h0_1, h0_2, h0_3, h0_4, .ref pr, h0_6, h0_7, h0_8])), (pr, .inr (10, [pr_0, pr_1, pr_2, pr_3, .int ln, pr_5, pr_6, pr_7, pr_8, pr_9, pr_10, pr_11, pr_12, pr_13]))] sz)) 0 0 (va_A [(h0, .inr (11, [h0_0, h0_1, h0_2, h0_3, h0_4, .ref pr, h0_6, h0_7, h0_8])), (pr, .inr (10, [pr_0, pr_1, pr_2, pr_3, .int ln, pr_5, pr_6, pr_7, pr_8, pr_9, pr_10, pr_11, pr_12, pr_13]))] sz) := by
  refine Met.ofW (cc := b_ProofDesk_paper) (maxL := 1) (ret := (some .int)) (by decide) rfl ?_
  intro p e s m args below meth c s₁ B hml hv
  obtain ⟨rfl, hsz, hP, ⟨hK, hN⟩, hD0⟩ := hv
  have hx := B.exec
  have hb := B.bytes
  have hr := B.returns
  have hts0 := atoms_spec (ws := zc y_ProofDesk_paper b_ProofDesk_paper 1 (some .int)) B.pre
  have hts : ∀ w ∈ zw, w.before _ s = true := fun w hw => hts0 w (List.mem_cons_of_mem _ hw)
  have hown : s.vm.findClass "ProofDesk" = some m.cls := findClass_of_methodNamed B.named
  have hlocks := B.notSynchronized
  subst hsz
  have hD := hD0.self (sz := s.heap.size)
  generalize hAe : va_A [(h0, .inr (11, [h0_0, h0_1, h0_2, h0_3, h0_4, .ref pr, h0_6, h0_7, h0_8])), (pr, .inr (10, [pr_0, pr_1, pr_2, pr_3, .int ln, pr_5, pr_6, pr_7, pr_8, pr_9, pr_10, pr_11, pr_12, pr_13]))] s.heap.size = A at hD ⊢
  have hA : ∀ q : Nat, s.heap.size ≤ q → A q := fun q h => by rw [← hAe]; exact Or.inr h
  have hS : va_S A s.heap s.heap [] := va_S.rf
  have hP : va_P D zcl [(h0, .inr (11, [h0_0, h0_1, h0_2, h0_3, h0_4, .ref pr, h0_6, h0_7, h0_8])), (pr, .inr (10, [pr_0, pr_1, pr_2, pr_3, .int ln, pr_5, pr_6, pr_7, pr_8, pr_9, pr_10, pr_11, pr_12, pr_13]))] s.heap := hP
  have hl := lv_entry ([.ref h0]) (n := 1) (Nat.le_of_ble_eq_true rfl)
  rw [lg_entry_eq]
  generalize (lg_sl ([.ref h0]) ++ List.replicate (1 - (lg_sl ([.ref h0])).length) Slot.unset).toArray = ls at hl ⊢
  have hl : lv_has ls 1 [(0, .ref h0)] := hl
  refine lv_aload_n hx hb d_ProofDesk_paper_0 rfl (lv_at hl 0 rfl) ?_
  refine va_get (D := D) (ci := 11) (v := .ref pr) (C := "ProofDesk") (T := F_ProofDesk) (N := 9) hx hb hts in_ProofDesk hown hK hP 0 rfl rfl 5 (by decide) (hts _ kw_563) (fun _ h9 => h9) rfl d_ProofDesk_paper_1 ?_
  refine va_getN (D := D) (ci := 10) (v := .int ln) (C := "ProofDesk$Printer") (T := F_Printer) (N := 14) hx hb hts in_Printer hown hK hP 1 rfl rfl 4 (by decide) (va_Nw.use rfl (hN _ kw_384)) (fun _ h9 => h9) rfl d_ProofDesk_paper_4 ?_
  have hP9 := hP.sub (ws' := [(h0, .inr (11, [h0_0, h0_1, h0_2, h0_3, h0_4, .ref pr, h0_6, h0_7, h0_8])), (pr, .inr (10, [pr_0, pr_1, pr_2, pr_3, .int ln, pr_5, pr_6, pr_7, pr_8, pr_9, pr_10, pr_11, pr_12, pr_13]))]) [0, 1] rfl
  have hD9 := hD.sub (ws' := [(h0, .inr (11, [h0_0, h0_1, h0_2, h0_3, h0_4, .ref pr, h0_6, h0_7, h0_8])), (pr, .inr (10, [pr_0, pr_1, pr_2, pr_3, .int ln, pr_5, pr_6, pr_7, pr_8, pr_9, pr_10, pr_11, pr_12, pr_13]))]) [0, 1] (by decide +kernel) rfl
  refine W.widen (k := 0) (n := 0) (by omega) (by omega) ?_
  exact W.iret (v := ln) hx hb hr (fun t ht hW => ⟨⟨ln, (), rfl, rfl, by rw [ht]; exact hP9, hD9⟩, hS.F ht⟩) hS.2.2 d_ProofDesk_paper_7
abbrev b_ProofDesk_printed : ByteArray := prog_1_method_8_code
abbrev y_ProofDesk_printed : MethodName := ⟨"ProofDesk", "printed", "(I)I"⟩
theorem d_ProofDesk_printed_0 : decode b_ProofDesk_printed 0 = .ok (.iload_n 1, 1) := by decide +kernel
theorem d_ProofDesk_printed_1 : decode b_ProofDesk_printed 1 = .ok (.ifCond .lt 30, 3) := by decide +kernel
theorem d_ProofDesk_printed_31 : decode b_ProofDesk_printed 31 = .ok (.iconst (-1), 1) := by decide +kernel
theorem d_ProofDesk_printed_32 : decode b_ProofDesk_printed 32 = .ok (.ireturn, 1) := by decide +kernel
set_option maxHeartbeats 4000000 in
set_option maxRecDepth 100000 in
theorem c_printed_lo (l : Launch) (D : va_G) (cI cB cZ cS : ClassId) (sz : Nat) (h0 : Nat) (h0_0 : Value) (h0_1 : Value) (h0_2 : Value) (h0_3 : Value) (h0_4 : Value) (h0_5 : Value) (h0_6 : Value) (h0_7 : Value) (h0_8 : Value) (n : Int32) (hn : n < 0) : Met l y_ProofDesk_printed (zc y_ProofDesk_printed b_ProofDesk_printed 2 (some .int)) ({ frames := 0, cells := 0, slots := 0, locals := 0 }) (zPc D (zty cI cB cZ cS) [(h0, .inr (11, [h0_0, h0_1, h0_2, h0_3, h0_4, h0_5, h0_6, h0_7, h0_8]))] sz [.ref h0, .int n]) (va_Qi (fun (r : Int32) (_ : Unit) => r = (-1)) (fun _ t => va_P D zcl [(h0, .inr (11, [h0_0, h0_1, h0_2, h0_3, h0_4, h0_5, h0_6, h0_7, h0_8]))] t.heap ∧ va_D (va_A [(h0, .inr (11, [h0_0, h0_1, h0_2, h0_3, h0_4, h0_5, h0_6, h0_7, h0_8]))] sz) [(h0, .inr (11, [h0_0, h0_1, h0_2, h0_3, h0_4, h0_5, h0_6, h0_7, h0_8]))]) (va_A [(h0, .inr (11, [h0_0, h0_1, h0_2, h0_3, h0_4, h0_5, h0_6, h0_7, h0_8]))] sz)) 0 0 (va_A [(h0, .inr (11, [h0_0, h0_1, h0_2, h0_3, h0_4, h0_5, h0_6, h0_7, h0_8]))] sz) := by
  refine Met.ofW (cc := b_ProofDesk_printed) (maxL := 2) (ret := (some .int)) (by decide) rfl ?_
  intro p e s m args below meth c s₁ B hml hv
  obtain ⟨rfl, hsz, hP, ⟨hK, hN⟩, hD0⟩ := hv
  have hx := B.exec
  have hb := B.bytes
  have hr := B.returns
  have hts0 := atoms_spec (ws := zc y_ProofDesk_printed b_ProofDesk_printed 2 (some .int)) B.pre
  have hts : ∀ w ∈ zw, w.before _ s = true := fun w hw => hts0 w (List.mem_cons_of_mem _ hw)
  have hown : s.vm.findClass "ProofDesk" = some m.cls := findClass_of_methodNamed B.named
  have hlocks := B.notSynchronized
  subst hsz
  have hD := hD0.self (sz := s.heap.size)
  generalize hAe : va_A [(h0, .inr (11, [h0_0, h0_1, h0_2, h0_3, h0_4, h0_5, h0_6, h0_7, h0_8]))] s.heap.size = A at hD ⊢
  have hA : ∀ q : Nat, s.heap.size ≤ q → A q := fun q h => by rw [← hAe]; exact Or.inr h
  have hS : va_S A s.heap s.heap [] := va_S.rf
  have hP : va_P D zcl [(h0, .inr (11, [h0_0, h0_1, h0_2, h0_3, h0_4, h0_5, h0_6, h0_7, h0_8]))] s.heap := hP
  have hl := lv_entry ([.ref h0, .int n]) (n := 2) (Nat.le_of_ble_eq_true rfl)
  rw [lg_entry_eq]
  generalize (lg_sl ([.ref h0, .int n]) ++ List.replicate (2 - (lg_sl ([.ref h0, .int n])).length) Slot.unset).toArray = ls at hl ⊢
  have hl : lv_has ls 2 [(0, .ref h0), (1, .int n)] := hl
  refine lv_iload_n hx hb d_ProofDesk_printed_0 rfl (lv_at hl 1 rfl) ?_
  have hc_1 : (n : Int32) < 0 := hn
  refine lv_if_lt hx hb d_ProofDesk_printed_1 rfl (fun _ => ?_) (fun h => absurd hc_1 h)
  refine lv_iconst (v := (-1)) hx hb d_ProofDesk_printed_31 (by decide) ?_
  have hP9 := hP.sub (ws' := [(h0, .inr (11, [h0_0, h0_1, h0_2, h0_3, h0_4, h0_5, h0_6, h0_7, h0_8]))]) [0] rfl
  have hD9 := hD.sub (ws' := [(h0, .inr (11, [h0_0, h0_1, h0_2, h0_3, h0_4, h0_5, h0_6, h0_7, h0_8]))]) [0] (by decide +kernel) rfl
  refine W.widen (k := 0) (n := 0) (by omega) (by omega) ?_
  exact W.iret (v := (-1)) hx hb hr (fun t ht hW => ⟨⟨(-1), (), rfl, rfl, by rw [ht]; exact hP9, hD9⟩, hS.F ht⟩) hS.2.2 d_ProofDesk_printed_32
theorem d_ProofDesk_printed_4 : decode b_ProofDesk_printed 4 = .ok (.iload_n 1, 1) := by decide +kernel
theorem d_ProofDesk_printed_5 : decode b_ProofDesk_printed 5 = .ok (.aload_n 0, 1) := by decide +kernel
theorem d_ProofDesk_printed_6 : decode b_ProofDesk_printed 6 = .ok (.getfield 58, 3) := by decide +kernel
theorem d_ProofDesk_printed_9 : decode b_ProofDesk_printed 9 = .ok (.getfield 144, 3) := by decide +kernel
theorem d_ProofDesk_printed_12 : decode b_ProofDesk_printed 12 = .ok (.if_icmp .ge 19, 3) := by decide +kernel
set_option maxHeartbeats 4000000 in
set_option maxRecDepth 100000 in
theorem c_printed_no (l : Launch) (D : va_G) (cI cB cZ cS : ClassId) (sz : Nat) (h0 : Nat) (pr : Nat) (h0_0 : Value) (h0_1 : Value) (h0_2 : Value) (h0_3 : Value) (h0_4 : Value) (h0_6 : Value) (h0_7 : Value) (h0_8 : Value) (ln : Int32) (pr_0 : Value) (pr_1 : Value) (pr_2 : Value) (pr_3 : Value) (pr_5 : Value) (pr_6 : Value) (pr_7 : Value) (pr_8 : Value) (pr_9 : Value) (pr_10 : Value) (pr_11 : Value) (pr_12 : Value) (pr_13 : Value) (n : Int32) (hn : ¬ n < 0) (hm : ln ≤ n) : Met l y_ProofDesk_printed (zc y_ProofDesk_printed b_ProofDesk_printed 2 (some .int)) ({ frames := 0, cells := 0, slots := 0, locals := 0 }) (zPc D (zty cI cB cZ cS) [(h0, .inr (11, [h0_0, h0_1, h0_2, h0_3, h0_4, .ref pr, h0_6, h0_7, h0_8])), (pr, .inr (10, [pr_0, pr_1, pr_2, pr_3, .int ln, pr_5, pr_6, pr_7, pr_8, pr_9, pr_10, pr_11, pr_12, pr_13]))] sz [.ref h0, .int n]) (va_Qi (fun (r : Int32) (_ : Unit) => r = (-1)) (fun _ t => va_P D zcl [(h0, .inr (11, [h0_0, h0_1, h0_2, h0_3, h0_4, .ref pr, h0_6, h0_7, h0_8])), (pr, .inr (10, [pr_0, pr_1, pr_2, pr_3, .int ln, pr_5, pr_6, pr_7, pr_8, pr_9, pr_10, pr_11, pr_12, pr_13]))] t.heap ∧ va_D (va_A [(h0, .inr (11, [h0_0, h0_1, h0_2, h0_3, h0_4, .ref pr, h0_6, h0_7, h0_8])), (pr, .inr (10, [pr_0, pr_1, pr_2, pr_3, .int ln, pr_5, pr_6, pr_7, pr_8, pr_9, pr_10, pr_11, pr_12, pr_13]))] sz) [(h0, .inr (11, [h0_0, h0_1, h0_2, h0_3, h0_4, .ref pr, h0_6, h0_7, h0_8])), (pr, .inr (10, [pr_0, pr_1, pr_2, pr_3, .int ln, pr_5, pr_6, pr_7, pr_8, pr_9, pr_10, pr_11, pr_12, pr_13]))]) (va_A [(h0, .inr (11, [h0_0, h0_1, h0_2, h0_3, h0_4, .ref pr, h0_6, h0_7, h0_8])), (pr, .inr (10, [pr_0, pr_1, pr_2, pr_3, .int ln, pr_5, pr_6, pr_7, pr_8, pr_9, pr_10, pr_11, pr_12, pr_13]))] sz)) 0 0 (va_A [(h0, .inr (11, [h0_0, h0_1, h0_2, h0_3, h0_4, .ref pr, h0_6, h0_7, h0_8])), (pr, .inr (10, [pr_0, pr_1, pr_2, pr_3, .int ln, pr_5, pr_6, pr_7, pr_8, pr_9, pr_10, pr_11, pr_12, pr_13]))] sz) := by
  refine Met.ofW (cc := b_ProofDesk_printed) (maxL := 2) (ret := (some .int)) (by decide) rfl ?_
  intro p e s m args below meth c s₁ B hml hv
  obtain ⟨rfl, hsz, hP, ⟨hK, hN⟩, hD0⟩ := hv
  have hx := B.exec
  have hb := B.bytes
  have hr := B.returns
  have hts0 := atoms_spec (ws := zc y_ProofDesk_printed b_ProofDesk_printed 2 (some .int)) B.pre
  have hts : ∀ w ∈ zw, w.before _ s = true := fun w hw => hts0 w (List.mem_cons_of_mem _ hw)
  have hown : s.vm.findClass "ProofDesk" = some m.cls := findClass_of_methodNamed B.named
  have hlocks := B.notSynchronized
  subst hsz
  have hD := hD0.self (sz := s.heap.size)
  generalize hAe : va_A [(h0, .inr (11, [h0_0, h0_1, h0_2, h0_3, h0_4, .ref pr, h0_6, h0_7, h0_8])), (pr, .inr (10, [pr_0, pr_1, pr_2, pr_3, .int ln, pr_5, pr_6, pr_7, pr_8, pr_9, pr_10, pr_11, pr_12, pr_13]))] s.heap.size = A at hD ⊢
  have hA : ∀ q : Nat, s.heap.size ≤ q → A q := fun q h => by rw [← hAe]; exact Or.inr h
  have hS : va_S A s.heap s.heap [] := va_S.rf
  have hP : va_P D zcl [(h0, .inr (11, [h0_0, h0_1, h0_2, h0_3, h0_4, .ref pr, h0_6, h0_7, h0_8])), (pr, .inr (10, [pr_0, pr_1, pr_2, pr_3, .int ln, pr_5, pr_6, pr_7, pr_8, pr_9, pr_10, pr_11, pr_12, pr_13]))] s.heap := hP
  have hl := lv_entry ([.ref h0, .int n]) (n := 2) (Nat.le_of_ble_eq_true rfl)
  rw [lg_entry_eq]
  generalize (lg_sl ([.ref h0, .int n]) ++ List.replicate (2 - (lg_sl ([.ref h0, .int n])).length) Slot.unset).toArray = ls at hl ⊢
  have hl : lv_has ls 2 [(0, .ref h0), (1, .int n)] := hl
  refine lv_iload_n hx hb d_ProofDesk_printed_0 rfl (lv_at hl 1 rfl) ?_
  have hc_1 : ¬ (n : Int32) < 0 := hn
  refine lv_if_lt hx hb d_ProofDesk_printed_1 rfl (fun h => absurd h hc_1) (fun _ => ?_)
  refine lv_iload_n hx hb d_ProofDesk_printed_4 rfl (lv_at hl 1 rfl) ?_
  refine lv_aload_n hx hb d_ProofDesk_printed_5 rfl (lv_at hl 0 rfl) ?_
  refine va_get (D := D) (ci := 11) (v := .ref pr) (C := "ProofDesk") (T := F_ProofDesk) (N := 9) hx hb hts in_ProofDesk hown hK hP 0 rfl rfl 5 (by decide) (hts _ kw_563) (fun _ h9 => h9) rfl d_ProofDesk_printed_6 ?_
  refine va_getN (D := D) (ci := 10) (v := .int ln) (C := "ProofDesk$Printer") (T := F_Printer) (N := 14) hx hb hts in_Printer hown hK hP 1 rfl rfl 4 (by decide) (va_Nw.use rfl (hN _ kw_384)) (fun _ h9 => h9) rfl d_ProofDesk_printed_9 ?_
  have hc_2 : (ln : Int32) ≤ n := hm
  refine lv_icmp_ge hx hb d_ProofDesk_printed_12 rfl (fun _ => ?_) (fun h => absurd hc_2 h)
  refine lv_iconst (v := (-1)) hx hb d_ProofDesk_printed_31 (by decide) ?_
  have hP9 := hP.sub (ws' := [(h0, .inr (11, [h0_0, h0_1, h0_2, h0_3, h0_4, .ref pr, h0_6, h0_7, h0_8])), (pr, .inr (10, [pr_0, pr_1, pr_2, pr_3, .int ln, pr_5, pr_6, pr_7, pr_8, pr_9, pr_10, pr_11, pr_12, pr_13]))]) [0, 1] rfl
  have hD9 := hD.sub (ws' := [(h0, .inr (11, [h0_0, h0_1, h0_2, h0_3, h0_4, .ref pr, h0_6, h0_7, h0_8])), (pr, .inr (10, [pr_0, pr_1, pr_2, pr_3, .int ln, pr_5, pr_6, pr_7, pr_8, pr_9, pr_10, pr_11, pr_12, pr_13]))]) [0, 1] (by decide +kernel) rfl
  refine W.widen (k := 0) (n := 0) (by omega) (by omega) ?_
  exact W.iret (v := (-1)) hx hb hr (fun t ht hW => ⟨⟨(-1), (), rfl, rfl, by rw [ht]; exact hP9, hD9⟩, hS.F ht⟩) hS.2.2 d_ProofDesk_printed_32
abbrev b_ProofDesk_tear : ByteArray := prog_1_method_9_code
abbrev y_ProofDesk_tear : MethodName := ⟨"ProofDesk", "tear", "()I"⟩
theorem d_ProofDesk_tear_0 : decode b_ProofDesk_tear 0 = .ok (.aload_n 0, 1) := by decide +kernel
theorem d_ProofDesk_tear_1 : decode b_ProofDesk_tear 1 = .ok (.getfield 58, 3) := by decide +kernel
theorem d_ProofDesk_tear_4 : decode b_ProofDesk_tear 4 = .ok (.getfield 144, 3) := by decide +kernel
theorem d_ProofDesk_tear_7 : decode b_ProofDesk_tear 7 = .ok (.istore_n 1, 1) := by decide +kernel
theorem d_ProofDesk_tear_8 : decode b_ProofDesk_tear 8 = .ok (.aload_n 0, 1) := by decide +kernel
theorem d_ProofDesk_tear_9 : decode b_ProofDesk_tear 9 = .ok (.getfield 58, 3) := by decide +kernel
theorem d_ProofDesk_tear_12 : decode b_ProofDesk_tear 12 = .ok (.iconst 0, 1) := by decide +kernel
theorem d_ProofDesk_tear_13 : decode b_ProofDesk_tear 13 = .ok (.putfield 144, 3) := by decide +kernel
theorem d_ProofDesk_tear_16 : decode b_ProofDesk_tear 16 = .ok (.iload_n 1, 1) := by decide +kernel
theorem d_ProofDesk_tear_17 : decode b_ProofDesk_tear 17 = .ok (.ireturn, 1) := by decide +kernel
set_option maxHeartbeats 4000000 in
set_option maxRecDepth 100000 in
theorem c_tear (l : Launch) (D : va_G) (cI cB cZ cS : ClassId) (sz : Nat) (h0 : Nat) (pr : Nat) (h0_0 : Value) (h0_1 : Value) (h0_2 : Value) (h0_3 : Value) (h0_4 : Value) (h0_6 : Value) (h0_7 : Value) (h0_8 : Value) (ln : Int32) (pr_0 : Value) (pr_1 : Value) (pr_2 : Value) (pr_3 : Value) (pr_5 : Value) (pr_6 : Value) (pr_7 : Value) (pr_8 : Value) (pr_9 : Value) (pr_10 : Value) (pr_11 : Value) (pr_12 : Value) (pr_13 : Value) : Met l y_ProofDesk_tear (zc y_ProofDesk_tear b_ProofDesk_tear 2 (some .int)) ({ frames := 0, cells := 0, slots := 0, locals := 0 }) (zPc D (zty cI cB cZ cS) [(h0, .inr (11, [h0_0, h0_1, h0_2, h0_3, h0_4, .ref pr, h0_6, h0_7, h0_8])), (pr, .inr (10, [pr_0, pr_1, pr_2, pr_3, .int ln, pr_5, pr_6, pr_7, pr_8, pr_9, pr_10, pr_11, pr_12, pr_13]))] sz [.ref h0]) (va_Qi (fun (r : Int32) (_ : Unit) => r = ln) (fun _ t => va_P D zcl [(h0, .inr (11, [h0_0, h0_1, h0_2, h0_3, h0_4, .ref pr, h0_6, h0_7, h0_8])), (pr, .inr (10, [pr_0, pr_1, pr_2, pr_3, .int 0, pr_5, pr_6, pr_7, pr_8, pr_9, pr_10, pr_11, pr_12, pr_13]))] t.heap ∧ va_D (va_A [(h0, .inr (11, [h0_0, h0_1, h0_2, h0_3, h0_4, .ref pr, h0_6, h0_7, h0_8])), (pr, .inr (10, [pr_0, pr_1, pr_2, pr_3, .int ln, pr_5, pr_6, pr_7, pr_8, pr_9, pr_10, pr_11, pr_12, pr_13]))] sz) [(h0, .inr (11, [h0_0, h0_1, h0_2, h0_3, h0_4, .ref pr, h0_6, h0_7, h0_8])), (pr, .inr (10, [pr_0, pr_1, pr_2, pr_3, .int 0, pr_5, pr_6, pr_7, pr_8, pr_9, pr_10, pr_11, pr_12, pr_13]))]) (va_A [(h0, .inr (11, [h0_0, h0_1, h0_2, h0_3, h0_4, .ref pr, h0_6, h0_7, h0_8])), (pr, .inr (10, [pr_0, pr_1, pr_2, pr_3, .int ln, pr_5, pr_6, pr_7, pr_8, pr_9, pr_10, pr_11, pr_12, pr_13]))] sz)) 0 0 (va_A [(h0, .inr (11, [h0_0, h0_1, h0_2, h0_3, h0_4, .ref pr, h0_6, h0_7, h0_8])), (pr, .inr (10, [pr_0, pr_1, pr_2, pr_3, .int ln, pr_5, pr_6, pr_7, pr_8, pr_9, pr_10, pr_11, pr_12, pr_13]))] sz) := by
  refine Met.ofW (cc := b_ProofDesk_tear) (maxL := 2) (ret := (some .int)) (by decide) rfl ?_
  intro p e s m args below meth c s₁ B hml hv
  obtain ⟨rfl, hsz, hP, ⟨hK, hN⟩, hD0⟩ := hv
  have hx := B.exec
  have hb := B.bytes
  have hr := B.returns
  have hts0 := atoms_spec (ws := zc y_ProofDesk_tear b_ProofDesk_tear 2 (some .int)) B.pre
  have hts : ∀ w ∈ zw, w.before _ s = true := fun w hw => hts0 w (List.mem_cons_of_mem _ hw)
  have hown : s.vm.findClass "ProofDesk" = some m.cls := findClass_of_methodNamed B.named
  have hlocks := B.notSynchronized
  subst hsz
  have hD := hD0.self (sz := s.heap.size)
  generalize hAe : va_A [(h0, .inr (11, [h0_0, h0_1, h0_2, h0_3, h0_4, .ref pr, h0_6, h0_7, h0_8])), (pr, .inr (10, [pr_0, pr_1, pr_2, pr_3, .int ln, pr_5, pr_6, pr_7, pr_8, pr_9, pr_10, pr_11, pr_12, pr_13]))] s.heap.size = A at hD ⊢
  have hA : ∀ q : Nat, s.heap.size ≤ q → A q := fun q h => by rw [← hAe]; exact Or.inr h
  have hS : va_S A s.heap s.heap [] := va_S.rf
  have hP : va_P D zcl [(h0, .inr (11, [h0_0, h0_1, h0_2, h0_3, h0_4, .ref pr, h0_6, h0_7, h0_8])), (pr, .inr (10, [pr_0, pr_1, pr_2, pr_3, .int ln, pr_5, pr_6, pr_7, pr_8, pr_9, pr_10, pr_11, pr_12, pr_13]))] s.heap := hP
  have hl := lv_entry ([.ref h0]) (n := 2) (Nat.le_of_ble_eq_true rfl)
  rw [lg_entry_eq]
  generalize (lg_sl ([.ref h0]) ++ List.replicate (2 - (lg_sl ([.ref h0])).length) Slot.unset).toArray = ls at hl ⊢
  have hl : lv_has ls 2 [(0, .ref h0)] := hl
  refine lv_aload_n hx hb d_ProofDesk_tear_0 rfl (lv_at hl 0 rfl) ?_
  refine va_get (D := D) (ci := 11) (v := .ref pr) (C := "ProofDesk") (T := F_ProofDesk) (N := 9) hx hb hts in_ProofDesk hown hK hP 0 rfl rfl 5 (by decide) (hts _ kw_563) (fun _ h9 => h9) rfl d_ProofDesk_tear_1 ?_
  refine va_getN (D := D) (ci := 10) (v := .int ln) (C := "ProofDesk$Printer") (T := F_Printer) (N := 14) hx hb hts in_Printer hown hK hP 1 rfl rfl 4 (by decide) (va_Nw.use rfl (hN _ kw_384)) (fun _ h9 => h9) rfl d_ProofDesk_tear_4 ?_
  refine lv_istore_n (lv' := [(1, .int ln), (0, .ref h0)]) hx hb d_ProofDesk_tear_7 rfl hl (by decide) rfl (fun ls hl => ?_)
  refine lv_aload_n hx hb d_ProofDesk_tear_8 rfl (lv_at hl 1 rfl) ?_
  refine va_get (D := D) (ci := 11) (v := .ref pr) (C := "ProofDesk") (T := F_ProofDesk) (N := 9) hx hb hts in_ProofDesk hown hK hP 0 rfl rfl 5 (by decide) (hts _ kw_563) (fun _ h9 => h9) rfl d_ProofDesk_tear_9 ?_
  refine lv_iconst (v := 0) hx hb d_ProofDesk_tear_12 (by decide) ?_
  refine va_putN (D := D) (ci := 10) (v := .int 0) (ty := .int) (C := "ProofDesk$Printer") (T := F_Printer) (N := 14) hx hb hts in_Printer t_Printer t_Printer_ok n_Printer hown hK hP hD hS 1 rfl rfl 4 (by decide) (va_Nw.use rfl (hN _ kw_384)) (fun _ h9 => h9) rfl (by decide +kernel) rfl rfl (Nat.le_of_ble_eq_true rfl) d_ProofDesk_tear_13 (fun H locs hP hD hS => ?_)
  have hP : va_P D zcl [(h0, .inr (11, [h0_0, h0_1, h0_2, h0_3, h0_4, .ref pr, h0_6, h0_7, h0_8])), (pr, .inr (10, [pr_0, pr_1, pr_2, pr_3, .int 0, pr_5, pr_6, pr_7, pr_8, pr_9, pr_10, pr_11, pr_12, pr_13]))] H := hP
  have hD : va_D A [(h0, .inr (11, [h0_0, h0_1, h0_2, h0_3, h0_4, .ref pr, h0_6, h0_7, h0_8])), (pr, .inr (10, [pr_0, pr_1, pr_2, pr_3, .int 0, pr_5, pr_6, pr_7, pr_8, pr_9, pr_10, pr_11, pr_12, pr_13]))] := hD
  refine lv_iload_n hx hb d_ProofDesk_tear_16 rfl (lv_at hl 0 rfl) ?_
  have hP9 := hP.sub (ws' := [(h0, .inr (11, [h0_0, h0_1, h0_2, h0_3, h0_4, .ref pr, h0_6, h0_7, h0_8])), (pr, .inr (10, [pr_0, pr_1, pr_2, pr_3, .int 0, pr_5, pr_6, pr_7, pr_8, pr_9, pr_10, pr_11, pr_12, pr_13]))]) [0, 1] rfl
  have hD9 := hD.sub (ws' := [(h0, .inr (11, [h0_0, h0_1, h0_2, h0_3, h0_4, .ref pr, h0_6, h0_7, h0_8])), (pr, .inr (10, [pr_0, pr_1, pr_2, pr_3, .int 0, pr_5, pr_6, pr_7, pr_8, pr_9, pr_10, pr_11, pr_12, pr_13]))]) [0, 1] (by decide +kernel) rfl
  refine W.widen (k := 0) (n := 0) (by omega) (by omega) ?_
  exact W.iret (v := ln) hx hb hr (fun t ht hW => ⟨⟨ln, (), rfl, rfl, by rw [ht]; exact hP9, hD9⟩, hS.F ht⟩) hS.2.2 d_ProofDesk_tear_17
abbrev b_ProofDesk_globals : ByteArray := prog_1_method_10_code
abbrev y_ProofDesk_globals : MethodName := ⟨"ProofDesk", "globals", "()I"⟩
theorem d_ProofDesk_globals_0 : decode b_ProofDesk_globals 0 = .ok (.aload_n 0, 1) := by decide +kernel
theorem d_ProofDesk_globals_1 : decode b_ProofDesk_globals 1 = .ok (.getfield 31, 3) := by decide +kernel
theorem d_ProofDesk_globals_4 : decode b_ProofDesk_globals 4 = .ok (.getfield 150, 3) := by decide +kernel
theorem kw_222 : (Jvm.Cond.fieldLinkNest "ProofDesk" (150 : Nat) "ProofDesk$Shelf" "count" "I" "ProofDesk") ∈ zn := List.mem_filter.mpr ⟨List.mem_append_right _ (List.mem_of_getElem? (i := 222) (by decide +kernel)), by decide +kernel⟩
theorem d_ProofDesk_globals_7 : decode b_ProofDesk_globals 7 = .ok (.ireturn, 1) := by decide +kernel
set_option maxHeartbeats 4000000 in
set_option maxRecDepth 100000 in
theorem c_globals (l : Launch) (D : va_G) (cI cB cZ cS : ClassId) (sz : Nat) (h0 : Nat) (sh : Nat) (h0_0 : Value) (h0_1 : Value) (h0_3 : Value) (h0_4 : Value) (h0_5 : Value) (h0_6 : Value) (h0_7 : Value) (h0_8 : Value) (cn : Int32) (sh_0 : Value) (sh_1 : Value) (sh_2 : Value) (sh_4 : Value) (sh_5 : Value) (sh_6 : Value) (sh_7 : Value) (sh_8 : Value) (sh_9 : Value) (sh_10 : Value) : Met l y_ProofDesk_globals (zc y_ProofDesk_globals b_ProofDesk_globals 1 (some .int)) ({ frames := 0, cells := 0, slots := 0, locals := 0 }) (zPc D (zty cI cB cZ cS) [(h0, .inr (11, [h0_0, h0_1, .ref sh, h0_3, h0_4, h0_5, h0_6, h0_7, h0_8])), (sh, .inr (5, [sh_0, sh_1, sh_2, .int cn, sh_4, sh_5, sh_6, sh_7, sh_8, sh_9, sh_10]))] sz [.ref h0]) (va_Qi (fun (r : Int32) (_ : Unit) => r = cn) (fun _ t => va_P D zcl [(h0, .inr (11, [h0_0, h0_1, .ref sh, h0_3, h0_4, h0_5, h0_6, h0_7, h0_8])), (sh, .inr (5, [sh_0, sh_1, sh_2, .int cn, sh_4, sh_5, sh_6, sh_7, sh_8, sh_9, sh_10]))] t.heap ∧ va_D (va_A [(h0, .inr (11, [h0_0, h0_1, .ref sh, h0_3, h0_4, h0_5, h0_6, h0_7, h0_8])), (sh, .inr (5, [sh_0, sh_1, sh_2, .int cn, sh_4, sh_5, sh_6, sh_7, sh_8, sh_9, sh_10]))] sz) [(h0, .inr (11, [h0_0, h0_1, .ref sh, h0_3, h0_4, h0_5, h0_6, h0_7, h0_8])), (sh, .inr (5, [sh_0, sh_1, sh_2, .int cn, sh_4, sh_5, sh_6, sh_7, sh_8, sh_9, sh_10]))]) (va_A [(h0, .inr (11, [h0_0, h0_1, .ref sh, h0_3, h0_4, h0_5, h0_6, h0_7, h0_8])), (sh, .inr (5, [sh_0, sh_1, sh_2, .int cn, sh_4, sh_5, sh_6, sh_7, sh_8, sh_9, sh_10]))] sz)) 0 0 (va_A [(h0, .inr (11, [h0_0, h0_1, .ref sh, h0_3, h0_4, h0_5, h0_6, h0_7, h0_8])), (sh, .inr (5, [sh_0, sh_1, sh_2, .int cn, sh_4, sh_5, sh_6, sh_7, sh_8, sh_9, sh_10]))] sz) := by
  refine Met.ofW (cc := b_ProofDesk_globals) (maxL := 1) (ret := (some .int)) (by decide) rfl ?_
  intro p e s m args below meth c s₁ B hml hv
  obtain ⟨rfl, hsz, hP, ⟨hK, hN⟩, hD0⟩ := hv
  have hx := B.exec
  have hb := B.bytes
  have hr := B.returns
  have hts0 := atoms_spec (ws := zc y_ProofDesk_globals b_ProofDesk_globals 1 (some .int)) B.pre
  have hts : ∀ w ∈ zw, w.before _ s = true := fun w hw => hts0 w (List.mem_cons_of_mem _ hw)
  have hown : s.vm.findClass "ProofDesk" = some m.cls := findClass_of_methodNamed B.named
  have hlocks := B.notSynchronized
  subst hsz
  have hD := hD0.self (sz := s.heap.size)
  generalize hAe : va_A [(h0, .inr (11, [h0_0, h0_1, .ref sh, h0_3, h0_4, h0_5, h0_6, h0_7, h0_8])), (sh, .inr (5, [sh_0, sh_1, sh_2, .int cn, sh_4, sh_5, sh_6, sh_7, sh_8, sh_9, sh_10]))] s.heap.size = A at hD ⊢
  have hA : ∀ q : Nat, s.heap.size ≤ q → A q := fun q h => by rw [← hAe]; exact Or.inr h
  have hS : va_S A s.heap s.heap [] := va_S.rf
  have hP : va_P D zcl [(h0, .inr (11, [h0_0, h0_1, .ref sh, h0_3, h0_4, h0_5, h0_6, h0_7, h0_8])), (sh, .inr (5, [sh_0, sh_1, sh_2, .int cn, sh_4, sh_5, sh_6, sh_7, sh_8, sh_9, sh_10]))] s.heap := hP
  have hl := lv_entry ([.ref h0]) (n := 1) (Nat.le_of_ble_eq_true rfl)
  rw [lg_entry_eq]
  generalize (lg_sl ([.ref h0]) ++ List.replicate (1 - (lg_sl ([.ref h0])).length) Slot.unset).toArray = ls at hl ⊢
  have hl : lv_has ls 1 [(0, .ref h0)] := hl
  refine lv_aload_n hx hb d_ProofDesk_globals_0 rfl (lv_at hl 0 rfl) ?_
  refine va_get (D := D) (ci := 11) (v := .ref sh) (C := "ProofDesk") (T := F_ProofDesk) (N := 9) hx hb hts in_ProofDesk hown hK hP 0 rfl rfl 2 (by decide) (hts _ kw_560) (fun _ h9 => h9) rfl d_ProofDesk_globals_1 ?_
  refine va_getN (D := D) (ci := 5) (v := .int cn) (C := "ProofDesk$Shelf") (T := F_Shelf) (N := 11) hx hb hts in_Shelf hown hK hP 1 rfl rfl 3 (by decide) (va_Nw.use rfl (hN _ kw_222)) (fun _ h9 => h9) rfl d_ProofDesk_globals_4 ?_
  have hP9 := hP.sub (ws' := [(h0, .inr (11, [h0_0, h0_1, .ref sh, h0_3, h0_4, h0_5, h0_6, h0_7, h0_8])), (sh, .inr (5, [sh_0, sh_1, sh_2, .int cn, sh_4, sh_5, sh_6, sh_7, sh_8, sh_9, sh_10]))]) [0, 1] rfl
  have hD9 := hD.sub (ws' := [(h0, .inr (11, [h0_0, h0_1, .ref sh, h0_3, h0_4, h0_5, h0_6, h0_7, h0_8])), (sh, .inr (5, [sh_0, sh_1, sh_2, .int cn, sh_4, sh_5, sh_6, sh_7, sh_8, sh_9, sh_10]))]) [0, 1] (by decide +kernel) rfl
  refine W.widen (k := 0) (n := 0) (by omega) (by omega) ?_
  exact W.iret (v := cn) hx hb hr (fun t ht hW => ⟨⟨cn, (), rfl, rfl, by rw [ht]; exact hP9, hD9⟩, hS.F ht⟩) hS.2.2 d_ProofDesk_globals_7
abbrev b_ProofDesk_find : ByteArray := prog_1_method_11_code
abbrev y_ProofDesk_find : MethodName := ⟨"ProofDesk", "find", "(I)I"⟩
theorem d_ProofDesk_find_0 : decode b_ProofDesk_find 0 = .ok (.iload_n 1, 1) := by decide +kernel
theorem d_ProofDesk_find_1 : decode b_ProofDesk_find 1 = .ok (.iconst 1, 1) := by decide +kernel
theorem d_ProofDesk_find_2 : decode b_ProofDesk_find 2 = .ok (.if_icmp .lt 11, 3) := by decide +kernel
theorem d_ProofDesk_find_13 : decode b_ProofDesk_find 13 = .ok (.iconst (-1), 1) := by decide +kernel
theorem d_ProofDesk_find_14 : decode b_ProofDesk_find 14 = .ok (.ireturn, 1) := by decide +kernel
set_option maxHeartbeats 4000000 in
set_option maxRecDepth 100000 in
theorem c_find_lo (l : Launch) (D : va_G) (cI cB cZ cS : ClassId) (sz : Nat) (h0 : Nat) (h0_0 : Value) (h0_1 : Value) (h0_2 : Value) (h0_3 : Value) (h0_4 : Value) (h0_5 : Value) (h0_6 : Value) (h0_7 : Value) (h0_8 : Value) (n : Int32) (hn : n < 1) : Met l y_ProofDesk_find (zc y_ProofDesk_find b_ProofDesk_find 3 (some .int)) ({ frames := 0, cells := 0, slots := 0, locals := 0 }) (zPc D (zty cI cB cZ cS) [(h0, .inr (11, [h0_0, h0_1, h0_2, h0_3, h0_4, h0_5, h0_6, h0_7, h0_8]))] sz [.ref h0, .int n]) (va_Qi (fun (r : Int32) (_ : Unit) => r = (-1)) (fun _ t => va_P D zcl [(h0, .inr (11, [h0_0, h0_1, h0_2, h0_3, h0_4, h0_5, h0_6, h0_7, h0_8]))] t.heap ∧ va_D (va_A [(h0, .inr (11, [h0_0, h0_1, h0_2, h0_3, h0_4, h0_5, h0_6, h0_7, h0_8]))] sz) [(h0, .inr (11, [h0_0, h0_1, h0_2, h0_3, h0_4, h0_5, h0_6, h0_7, h0_8]))]) (va_A [(h0, .inr (11, [h0_0, h0_1, h0_2, h0_3, h0_4, h0_5, h0_6, h0_7, h0_8]))] sz)) 0 0 (va_A [(h0, .inr (11, [h0_0, h0_1, h0_2, h0_3, h0_4, h0_5, h0_6, h0_7, h0_8]))] sz) := by
  refine Met.ofW (cc := b_ProofDesk_find) (maxL := 3) (ret := (some .int)) (by decide) rfl ?_
  intro p e s m args below meth c s₁ B hml hv
  obtain ⟨rfl, hsz, hP, ⟨hK, hN⟩, hD0⟩ := hv
  have hx := B.exec
  have hb := B.bytes
  have hr := B.returns
  have hts0 := atoms_spec (ws := zc y_ProofDesk_find b_ProofDesk_find 3 (some .int)) B.pre
  have hts : ∀ w ∈ zw, w.before _ s = true := fun w hw => hts0 w (List.mem_cons_of_mem _ hw)
  have hown : s.vm.findClass "ProofDesk" = some m.cls := findClass_of_methodNamed B.named
  have hlocks := B.notSynchronized
  subst hsz
  have hD := hD0.self (sz := s.heap.size)
  generalize hAe : va_A [(h0, .inr (11, [h0_0, h0_1, h0_2, h0_3, h0_4, h0_5, h0_6, h0_7, h0_8]))] s.heap.size = A at hD ⊢
  have hA : ∀ q : Nat, s.heap.size ≤ q → A q := fun q h => by rw [← hAe]; exact Or.inr h
  have hS : va_S A s.heap s.heap [] := va_S.rf
  have hP : va_P D zcl [(h0, .inr (11, [h0_0, h0_1, h0_2, h0_3, h0_4, h0_5, h0_6, h0_7, h0_8]))] s.heap := hP
  have hl := lv_entry ([.ref h0, .int n]) (n := 3) (Nat.le_of_ble_eq_true rfl)
  rw [lg_entry_eq]
  generalize (lg_sl ([.ref h0, .int n]) ++ List.replicate (3 - (lg_sl ([.ref h0, .int n])).length) Slot.unset).toArray = ls at hl ⊢
  have hl : lv_has ls 3 [(0, .ref h0), (1, .int n)] := hl
  refine lv_iload_n hx hb d_ProofDesk_find_0 rfl (lv_at hl 1 rfl) ?_
  refine lv_iconst (v := 1) hx hb d_ProofDesk_find_1 (by decide) ?_
  have hc_1 : (n : Int32) < 1 := hn
  refine lv_icmp_lt hx hb d_ProofDesk_find_2 rfl (fun _ => ?_) (fun h => absurd hc_1 h)
  refine lv_iconst (v := (-1)) hx hb d_ProofDesk_find_13 (by decide) ?_
  have hP9 := hP.sub (ws' := [(h0, .inr (11, [h0_0, h0_1, h0_2, h0_3, h0_4, h0_5, h0_6, h0_7, h0_8]))]) [0] rfl
  have hD9 := hD.sub (ws' := [(h0, .inr (11, [h0_0, h0_1, h0_2, h0_3, h0_4, h0_5, h0_6, h0_7, h0_8]))]) [0] (by decide +kernel) rfl
  refine W.widen (k := 0) (n := 0) (by omega) (by omega) ?_
  exact W.iret (v := (-1)) hx hb hr (fun t ht hW => ⟨⟨(-1), (), rfl, rfl, by rw [ht]; exact hP9, hD9⟩, hS.F ht⟩) hS.2.2 d_ProofDesk_find_14
theorem d_ProofDesk_find_5 : decode b_ProofDesk_find 5 = .ok (.iload_n 1, 1) := by decide +kernel
theorem d_ProofDesk_find_6 : decode b_ProofDesk_find 6 = .ok (.aload_n 0, 1) := by decide +kernel
theorem d_ProofDesk_find_7 : decode b_ProofDesk_find 7 = .ok (.getfield 83, 3) := by decide +kernel
theorem kw_566 : (Jvm.Cond.fieldLink "ProofDesk" (83 : Nat) "ProofDesk" "byteCount" "I") ∈ zw := List.mem_filter.mpr ⟨List.mem_append_right _ (List.mem_of_getElem? (i := 566) (by decide +kernel)), by decide +kernel⟩
theorem d_ProofDesk_find_10 : decode b_ProofDesk_find 10 = .ok (.if_icmp .le 5, 3) := by decide +kernel
set_option maxHeartbeats 4000000 in
set_option maxRecDepth 100000 in
theorem c_find_no (l : Launch) (D : va_G) (cI cB cZ cS : ClassId) (sz : Nat) (h0 : Nat) (bc : Int32) (h0_0 : Value) (h0_1 : Value) (h0_2 : Value) (h0_3 : Value) (h0_4 : Value) (h0_5 : Value) (h0_6 : Value) (h0_7 : Value) (n : Int32) (hn : ¬ n < 1) (hm : ¬ n ≤ bc) : Met l y_ProofDesk_find (zc y_ProofDesk_find b_ProofDesk_find 3 (some .int)) ({ frames := 0, cells := 0, slots := 0, locals := 0 }) (zPc D (zty cI cB cZ cS) [(h0, .inr (11, [h0_0, h0_1, h0_2, h0_3, h0_4, h0_5, h0_6, h0_7, .int bc]))] sz [.ref h0, .int n]) (va_Qi (fun (r : Int32) (_ : Unit) => r = (-1)) (fun _ t => va_P D zcl [(h0, .inr (11, [h0_0, h0_1, h0_2, h0_3, h0_4, h0_5, h0_6, h0_7, .int bc]))] t.heap ∧ va_D (va_A [(h0, .inr (11, [h0_0, h0_1, h0_2, h0_3, h0_4, h0_5, h0_6, h0_7, .int bc]))] sz) [(h0, .inr (11, [h0_0, h0_1, h0_2, h0_3, h0_4, h0_5, h0_6, h0_7, .int bc]))]) (va_A [(h0, .inr (11, [h0_0, h0_1, h0_2, h0_3, h0_4, h0_5, h0_6, h0_7, .int bc]))] sz)) 0 0 (va_A [(h0, .inr (11, [h0_0, h0_1, h0_2, h0_3, h0_4, h0_5, h0_6, h0_7, .int bc]))] sz) := by
  refine Met.ofW (cc := b_ProofDesk_find) (maxL := 3) (ret := (some .int)) (by decide) rfl ?_
  intro p e s m args below meth c s₁ B hml hv
  obtain ⟨rfl, hsz, hP, ⟨hK, hN⟩, hD0⟩ := hv
  have hx := B.exec
  have hb := B.bytes
  have hr := B.returns
  have hts0 := atoms_spec (ws := zc y_ProofDesk_find b_ProofDesk_find 3 (some .int)) B.pre
  have hts : ∀ w ∈ zw, w.before _ s = true := fun w hw => hts0 w (List.mem_cons_of_mem _ hw)
  have hown : s.vm.findClass "ProofDesk" = some m.cls := findClass_of_methodNamed B.named
  have hlocks := B.notSynchronized
  subst hsz
  have hD := hD0.self (sz := s.heap.size)
  generalize hAe : va_A [(h0, .inr (11, [h0_0, h0_1, h0_2, h0_3, h0_4, h0_5, h0_6, h0_7, .int bc]))] s.heap.size = A at hD ⊢
  have hA : ∀ q : Nat, s.heap.size ≤ q → A q := fun q h => by rw [← hAe]; exact Or.inr h
  have hS : va_S A s.heap s.heap [] := va_S.rf
  have hP : va_P D zcl [(h0, .inr (11, [h0_0, h0_1, h0_2, h0_3, h0_4, h0_5, h0_6, h0_7, .int bc]))] s.heap := hP
  have hl := lv_entry ([.ref h0, .int n]) (n := 3) (Nat.le_of_ble_eq_true rfl)
  rw [lg_entry_eq]
  generalize (lg_sl ([.ref h0, .int n]) ++ List.replicate (3 - (lg_sl ([.ref h0, .int n])).length) Slot.unset).toArray = ls at hl ⊢
  have hl : lv_has ls 3 [(0, .ref h0), (1, .int n)] := hl
  refine lv_iload_n hx hb d_ProofDesk_find_0 rfl (lv_at hl 1 rfl) ?_
  refine lv_iconst (v := 1) hx hb d_ProofDesk_find_1 (by decide) ?_
  have hc_1 : ¬ (n : Int32) < 1 := hn
  refine lv_icmp_lt hx hb d_ProofDesk_find_2 rfl (fun h => absurd h hc_1) (fun _ => ?_)
  refine lv_iload_n hx hb d_ProofDesk_find_5 rfl (lv_at hl 1 rfl) ?_
  refine lv_aload_n hx hb d_ProofDesk_find_6 rfl (lv_at hl 0 rfl) ?_
  refine va_get (D := D) (ci := 11) (v := .int bc) (C := "ProofDesk") (T := F_ProofDesk) (N := 9) hx hb hts in_ProofDesk hown hK hP 0 rfl rfl 8 (by decide) (hts _ kw_566) (fun _ h9 => h9) rfl d_ProofDesk_find_7 ?_
  have hc_2 : ¬ (n : Int32) ≤ bc := hm
  refine lv_icmp_le hx hb d_ProofDesk_find_10 rfl (fun h => absurd h hc_2) (fun _ => ?_)
  refine lv_iconst (v := (-1)) hx hb d_ProofDesk_find_13 (by decide) ?_
  have hP9 := hP.sub (ws' := [(h0, .inr (11, [h0_0, h0_1, h0_2, h0_3, h0_4, h0_5, h0_6, h0_7, .int bc]))]) [0] rfl
  have hD9 := hD.sub (ws' := [(h0, .inr (11, [h0_0, h0_1, h0_2, h0_3, h0_4, h0_5, h0_6, h0_7, .int bc]))]) [0] (by decide +kernel) rfl
  refine W.widen (k := 0) (n := 0) (by omega) (by omega) ?_
  exact W.iret (v := (-1)) hx hb hr (fun t ht hW => ⟨⟨(-1), (), rfl, rfl, by rw [ht]; exact hP9, hD9⟩, hS.F ht⟩) hS.2.2 d_ProofDesk_find_14
abbrev b_Shelf_has : ByteArray := prog_10_method_2_code
abbrev y_Shelf_has : MethodName := ⟨"ProofDesk$Shelf", "has", "(I)Z"⟩
theorem d_Shelf_has_0 : decode b_Shelf_has 0 = .ok (.iload_n 1, 1) := by decide +kernel
theorem d_Shelf_has_1 : decode b_Shelf_has 1 = .ok (.ifCond .lt 15, 3) := by decide +kernel
theorem d_Shelf_has_16 : decode b_Shelf_has 16 = .ok (.iconst 0, 1) := by decide +kernel
theorem d_Shelf_has_17 : decode b_Shelf_has 17 = .ok (.ireturn, 1) := by decide +kernel
set_option maxHeartbeats 4000000 in
set_option maxRecDepth 100000 in
theorem c_has_lo (l : Launch) (D : va_G) (cI cB cZ cS : ClassId) (sz : Nat) (sh : Nat) (sh_0 : Value) (sh_1 : Value) (sh_2 : Value) (sh_3 : Value) (sh_4 : Value) (sh_5 : Value) (sh_6 : Value) (sh_7 : Value) (sh_8 : Value) (sh_9 : Value) (sh_10 : Value) (g : Int32) (hn : g < 0) : Met l y_Shelf_has (zc y_Shelf_has b_Shelf_has 2 (some .boolean)) ({ frames := 0, cells := 0, slots := 0, locals := 0 }) (zPc D (zty cI cB cZ cS) [(sh, .inr (5, [sh_0, sh_1, sh_2, sh_3, sh_4, sh_5, sh_6, sh_7, sh_8, sh_9, sh_10]))] sz [.ref sh, .int g]) (va_Qi (fun (r : Int32) (_ : Unit) => r = 0) (fun _ t => va_P D zcl [(sh, .inr (5, [sh_0, sh_1, sh_2, sh_3, sh_4, sh_5, sh_6, sh_7, sh_8, sh_9, sh_10]))] t.heap ∧ va_D (va_A [(sh, .inr (5, [sh_0, sh_1, sh_2, sh_3, sh_4, sh_5, sh_6, sh_7, sh_8, sh_9, sh_10]))] sz) [(sh, .inr (5, [sh_0, sh_1, sh_2, sh_3, sh_4, sh_5, sh_6, sh_7, sh_8, sh_9, sh_10]))]) (va_A [(sh, .inr (5, [sh_0, sh_1, sh_2, sh_3, sh_4, sh_5, sh_6, sh_7, sh_8, sh_9, sh_10]))] sz)) 0 0 (va_A [(sh, .inr (5, [sh_0, sh_1, sh_2, sh_3, sh_4, sh_5, sh_6, sh_7, sh_8, sh_9, sh_10]))] sz) := by
  refine Met.ofW (cc := b_Shelf_has) (maxL := 2) (ret := (some .boolean)) (by decide) rfl ?_
  intro p e s m args below meth c s₁ B hml hv
  obtain ⟨rfl, hsz, hP, ⟨hK, hN⟩, hD0⟩ := hv
  have hx := B.exec
  have hb := B.bytes
  have hr := B.returns
  have hts0 := atoms_spec (ws := zc y_Shelf_has b_Shelf_has 2 (some .boolean)) B.pre
  have hts : ∀ w ∈ zw, w.before _ s = true := fun w hw => hts0 w (List.mem_cons_of_mem _ hw)
  have hown : s.vm.findClass "ProofDesk$Shelf" = some m.cls := findClass_of_methodNamed B.named
  have hlocks := B.notSynchronized
  subst hsz
  have hD := hD0.self (sz := s.heap.size)
  generalize hAe : va_A [(sh, .inr (5, [sh_0, sh_1, sh_2, sh_3, sh_4, sh_5, sh_6, sh_7, sh_8, sh_9, sh_10]))] s.heap.size = A at hD ⊢
  have hA : ∀ q : Nat, s.heap.size ≤ q → A q := fun q h => by rw [← hAe]; exact Or.inr h
  have hS : va_S A s.heap s.heap [] := va_S.rf
  have hP : va_P D zcl [(sh, .inr (5, [sh_0, sh_1, sh_2, sh_3, sh_4, sh_5, sh_6, sh_7, sh_8, sh_9, sh_10]))] s.heap := hP
  have hl := lv_entry ([.ref sh, .int g]) (n := 2) (Nat.le_of_ble_eq_true rfl)
  rw [lg_entry_eq]
  generalize (lg_sl ([.ref sh, .int g]) ++ List.replicate (2 - (lg_sl ([.ref sh, .int g])).length) Slot.unset).toArray = ls at hl ⊢
  have hl : lv_has ls 2 [(0, .ref sh), (1, .int g)] := hl
  refine lv_iload_n hx hb d_Shelf_has_0 rfl (lv_at hl 1 rfl) ?_
  have hc_1 : (g : Int32) < 0 := hn
  refine lv_if_lt hx hb d_Shelf_has_1 rfl (fun _ => ?_) (fun h => absurd hc_1 h)
  refine lv_iconst (v := 0) hx hb d_Shelf_has_16 (by decide) ?_
  have hP9 := hP.sub (ws' := [(sh, .inr (5, [sh_0, sh_1, sh_2, sh_3, sh_4, sh_5, sh_6, sh_7, sh_8, sh_9, sh_10]))]) [0] rfl
  have hD9 := hD.sub (ws' := [(sh, .inr (5, [sh_0, sh_1, sh_2, sh_3, sh_4, sh_5, sh_6, sh_7, sh_8, sh_9, sh_10]))]) [0] (by decide +kernel) rfl
  refine W.widen (k := 0) (n := 0) (by omega) (by omega) ?_
  exact W.zret (v := 0) hx hb hr rfl (fun t ht hW => ⟨⟨0, (), rfl, rfl, by rw [ht]; exact hP9, hD9⟩, hS.F ht⟩) hS.2.2 d_Shelf_has_17
theorem d_Shelf_has_4 : decode b_Shelf_has 4 = .ok (.iload_n 1, 1) := by decide +kernel
theorem d_Shelf_has_5 : decode b_Shelf_has 5 = .ok (.aload_n 0, 1) := by decide +kernel
theorem d_Shelf_has_6 : decode b_Shelf_has 6 = .ok (.getfield 54, 3) := by decide +kernel
theorem kw_220 : (Jvm.Cond.fieldLink "ProofDesk$Shelf" (54 : Nat) "ProofDesk$Shelf" "count" "I") ∈ zw := List.mem_filter.mpr ⟨List.mem_append_right _ (List.mem_of_getElem? (i := 220) (by decide +kernel)), by decide +kernel⟩
theorem d_Shelf_has_9 : decode b_Shelf_has 9 = .ok (.if_icmp .ge 7, 3) := by decide +kernel
set_option maxHeartbeats 4000000 in
set_option maxRecDepth 100000 in
theorem c_has_no (l : Launch) (D : va_G) (cI cB cZ cS : ClassId) (sz : Nat) (sh : Nat) (cn : Int32) (sh_0 : Value) (sh_1 : Value) (sh_2 : Value) (sh_4 : Value) (sh_5 : Value) (sh_6 : Value) (sh_7 : Value) (sh_8 : Value) (sh_9 : Value) (sh_10 : Value) (g : Int32) (hn : ¬ g < 0) (hm : cn ≤ g) : Met l y_Shelf_has (zc y_Shelf_has b_Shelf_has 2 (some .boolean)) ({ frames := 0, cells := 0, slots := 0, locals := 0 }) (zPc D (zty cI cB cZ cS) [(sh, .inr (5, [sh_0, sh_1, sh_2, .int cn, sh_4, sh_5, sh_6, sh_7, sh_8, sh_9, sh_10]))] sz [.ref sh, .int g]) (va_Qi (fun (r : Int32) (_ : Unit) => r = 0) (fun _ t => va_P D zcl [(sh, .inr (5, [sh_0, sh_1, sh_2, .int cn, sh_4, sh_5, sh_6, sh_7, sh_8, sh_9, sh_10]))] t.heap ∧ va_D (va_A [(sh, .inr (5, [sh_0, sh_1, sh_2, .int cn, sh_4, sh_5, sh_6, sh_7, sh_8, sh_9, sh_10]))] sz) [(sh, .inr (5, [sh_0, sh_1, sh_2, .int cn, sh_4, sh_5, sh_6, sh_7, sh_8, sh_9, sh_10]))]) (va_A [(sh, .inr (5, [sh_0, sh_1, sh_2, .int cn, sh_4, sh_5, sh_6, sh_7, sh_8, sh_9, sh_10]))] sz)) 0 0 (va_A [(sh, .inr (5, [sh_0, sh_1, sh_2, .int cn, sh_4, sh_5, sh_6, sh_7, sh_8, sh_9, sh_10]))] sz) := by
  refine Met.ofW (cc := b_Shelf_has) (maxL := 2) (ret := (some .boolean)) (by decide) rfl ?_
  intro p e s m args below meth c s₁ B hml hv
  obtain ⟨rfl, hsz, hP, ⟨hK, hN⟩, hD0⟩ := hv
  have hx := B.exec
  have hb := B.bytes
  have hr := B.returns
  have hts0 := atoms_spec (ws := zc y_Shelf_has b_Shelf_has 2 (some .boolean)) B.pre
  have hts : ∀ w ∈ zw, w.before _ s = true := fun w hw => hts0 w (List.mem_cons_of_mem _ hw)
  have hown : s.vm.findClass "ProofDesk$Shelf" = some m.cls := findClass_of_methodNamed B.named
  have hlocks := B.notSynchronized
  subst hsz
  have hD := hD0.self (sz := s.heap.size)
  generalize hAe : va_A [(sh, .inr (5, [sh_0, sh_1, sh_2, .int cn, sh_4, sh_5, sh_6, sh_7, sh_8, sh_9, sh_10]))] s.heap.size = A at hD ⊢
  have hA : ∀ q : Nat, s.heap.size ≤ q → A q := fun q h => by rw [← hAe]; exact Or.inr h
  have hS : va_S A s.heap s.heap [] := va_S.rf
  have hP : va_P D zcl [(sh, .inr (5, [sh_0, sh_1, sh_2, .int cn, sh_4, sh_5, sh_6, sh_7, sh_8, sh_9, sh_10]))] s.heap := hP
  have hl := lv_entry ([.ref sh, .int g]) (n := 2) (Nat.le_of_ble_eq_true rfl)
  rw [lg_entry_eq]
  generalize (lg_sl ([.ref sh, .int g]) ++ List.replicate (2 - (lg_sl ([.ref sh, .int g])).length) Slot.unset).toArray = ls at hl ⊢
  have hl : lv_has ls 2 [(0, .ref sh), (1, .int g)] := hl
  refine lv_iload_n hx hb d_Shelf_has_0 rfl (lv_at hl 1 rfl) ?_
  have hc_1 : ¬ (g : Int32) < 0 := hn
  refine lv_if_lt hx hb d_Shelf_has_1 rfl (fun h => absurd h hc_1) (fun _ => ?_)
  refine lv_iload_n hx hb d_Shelf_has_4 rfl (lv_at hl 1 rfl) ?_
  refine lv_aload_n hx hb d_Shelf_has_5 rfl (lv_at hl 0 rfl) ?_
  refine va_get (D := D) (ci := 5) (v := .int cn) (C := "ProofDesk$Shelf") (T := F_Shelf) (N := 11) hx hb hts in_Shelf hown hK hP 0 rfl rfl 3 (by decide) (hts _ kw_220) (fun _ h9 => h9) rfl d_Shelf_has_6 ?_
  have hc_2 : (cn : Int32) ≤ g := hm
  refine lv_icmp_ge hx hb d_Shelf_has_9 rfl (fun _ => ?_) (fun h => absurd hc_2 h)
  refine lv_iconst (v := 0) hx hb d_Shelf_has_16 (by decide) ?_
  have hP9 := hP.sub (ws' := [(sh, .inr (5, [sh_0, sh_1, sh_2, .int cn, sh_4, sh_5, sh_6, sh_7, sh_8, sh_9, sh_10]))]) [0] rfl
  have hD9 := hD.sub (ws' := [(sh, .inr (5, [sh_0, sh_1, sh_2, .int cn, sh_4, sh_5, sh_6, sh_7, sh_8, sh_9, sh_10]))]) [0] (by decide +kernel) rfl
  refine W.widen (k := 0) (n := 0) (by omega) (by omega) ?_
  exact W.zret (v := 0) hx hb hr rfl (fun t ht hW => ⟨⟨0, (), rfl, rfl, by rw [ht]; exact hP9, hD9⟩, hS.F ht⟩) hS.2.2 d_Shelf_has_17
abbrev b_ProofDesk_about : ByteArray := prog_1_method_12_code
abbrev y_ProofDesk_about : MethodName := ⟨"ProofDesk", "about", "(II)I"⟩
theorem d_ProofDesk_about_0 : decode b_ProofDesk_about 0 = .ok (.aload_n 0, 1) := by decide +kernel
theorem d_ProofDesk_about_1 : decode b_ProofDesk_about 1 = .ok (.getfield 31, 3) := by decide +kernel
theorem d_ProofDesk_about_4 : decode b_ProofDesk_about 4 = .ok (.iload_n 1, 1) := by decide +kernel
theorem d_ProofDesk_about_5 : decode b_ProofDesk_about 5 = .ok (.invokevirtual 159, 3) := by decide +kernel
set_option maxRecDepth 100000 in
theorem kw_896 : (Jvm.Cond.code ({ cls := "ProofDesk$Shelf", name := "has", desc := "(I)Z" } : Jvm.MethodName) prog_10_method_2_code (2 : Nat) (Option.some Jvm.ClassFile.FieldType.boolean)) ∈ zw := List.mem_filter.mpr ⟨List.mem_append_right _ (List.mem_of_getElem? (i := 896) rfl), by decide +kernel⟩
theorem kw_1671 : (Jvm.Cond.methodLink "ProofDesk" (159 : Nat) ({ cls := "ProofDesk$Shelf", name := "has", desc := "(I)Z" } : Jvm.MethodName)) ∈ zw := List.mem_filter.mpr ⟨List.mem_append_right _ (List.mem_of_getElem? (i := 1671) (by decide +kernel)), by decide +kernel⟩
theorem kw_894 : (Jvm.Cond.instanceMethod ({ cls := "ProofDesk$Shelf", name := "has", desc := "(I)Z" } : Jvm.MethodName)) ∈ zw := List.mem_filter.mpr ⟨List.mem_append_right _ (List.mem_of_getElem? (i := 894) (by decide +kernel)), by decide +kernel⟩
theorem kw_895 : (Jvm.Cond.selects "ProofDesk$Shelf" ({ cls := "ProofDesk$Shelf", name := "has", desc := "(I)Z" } : Jvm.MethodName) ({ cls := "ProofDesk$Shelf", name := "has", desc := "(I)Z" } : Jvm.MethodName)) ∈ zw := List.mem_filter.mpr ⟨List.mem_append_right _ (List.mem_of_getElem? (i := 895) (by decide +kernel)), by decide +kernel⟩
theorem d_ProofDesk_about_8 : decode b_ProofDesk_about 8 = .ok (.ifCond .eq 15, 3) := by decide +kernel
theorem d_ProofDesk_about_23 : decode b_ProofDesk_about 23 = .ok (.iconst (-1), 1) := by decide +kernel
theorem d_ProofDesk_about_24 : decode b_ProofDesk_about 24 = .ok (.ireturn, 1) := by decide +kernel
set_option maxHeartbeats 4000000 in
set_option maxRecDepth 100000 in
theorem c_about_lo (l : Launch) (D : va_G) (cI cB cZ cS : ClassId) (sz : Nat) (h0 : Nat) (sh : Nat) (h0_0 : Value) (h0_1 : Value) (h0_3 : Value) (h0_4 : Value) (h0_5 : Value) (h0_6 : Value) (h0_7 : Value) (h0_8 : Value) (sh_0 : Value) (sh_1 : Value) (sh_2 : Value) (sh_3 : Value) (sh_4 : Value) (sh_5 : Value) (sh_6 : Value) (sh_7 : Value) (sh_8 : Value) (sh_9 : Value) (sh_10 : Value) (g : Int32) (wh : Int32) (hn : g < 0) : Met l y_ProofDesk_about (zc y_ProofDesk_about b_ProofDesk_about 3 (some .int)) ({ frames := 1, cells := 0, slots := 0, locals := 21 }) (zPc D (zty cI cB cZ cS) [(h0, .inr (11, [h0_0, h0_1, .ref sh, h0_3, h0_4, h0_5, h0_6, h0_7, h0_8])), (sh, .inr (5, [sh_0, sh_1, sh_2, sh_3, sh_4, sh_5, sh_6, sh_7, sh_8, sh_9, sh_10]))] sz [.ref h0, .int g, .int wh]) (va_Qi (fun (r : Int32) (_ : Unit) => r = (-1)) (fun _ t => va_P D zcl [(h0, .inr (11, [h0_0, h0_1, .ref sh, h0_3, h0_4, h0_5, h0_6, h0_7, h0_8])), (sh, .inr (5, [sh_0, sh_1, sh_2, sh_3, sh_4, sh_5, sh_6, sh_7, sh_8, sh_9, sh_10]))] t.heap ∧ va_D (va_A [(h0, .inr (11, [h0_0, h0_1, .ref sh, h0_3, h0_4, h0_5, h0_6, h0_7, h0_8])), (sh, .inr (5, [sh_0, sh_1, sh_2, sh_3, sh_4, sh_5, sh_6, sh_7, sh_8, sh_9, sh_10]))] sz) [(h0, .inr (11, [h0_0, h0_1, .ref sh, h0_3, h0_4, h0_5, h0_6, h0_7, h0_8])), (sh, .inr (5, [sh_0, sh_1, sh_2, sh_3, sh_4, sh_5, sh_6, sh_7, sh_8, sh_9, sh_10]))]) (va_A [(h0, .inr (11, [h0_0, h0_1, .ref sh, h0_3, h0_4, h0_5, h0_6, h0_7, h0_8])), (sh, .inr (5, [sh_0, sh_1, sh_2, sh_3, sh_4, sh_5, sh_6, sh_7, sh_8, sh_9, sh_10]))] sz)) 0 0 (va_A [(h0, .inr (11, [h0_0, h0_1, .ref sh, h0_3, h0_4, h0_5, h0_6, h0_7, h0_8])), (sh, .inr (5, [sh_0, sh_1, sh_2, sh_3, sh_4, sh_5, sh_6, sh_7, sh_8, sh_9, sh_10]))] sz) := by
  refine Met.ofW (cc := b_ProofDesk_about) (maxL := 3) (ret := (some .int)) (by decide) rfl ?_
  intro p e s m args below meth c s₁ B hml hv
  obtain ⟨rfl, hsz, hP, ⟨hK, hN⟩, hD0⟩ := hv
  have hx := B.exec
  have hb := B.bytes
  have hr := B.returns
  have hts0 := atoms_spec (ws := zc y_ProofDesk_about b_ProofDesk_about 3 (some .int)) B.pre
  have hts : ∀ w ∈ zw, w.before _ s = true := fun w hw => hts0 w (List.mem_cons_of_mem _ hw)
  have hown : s.vm.findClass "ProofDesk" = some m.cls := findClass_of_methodNamed B.named
  have hlocks := B.notSynchronized
  subst hsz
  have hD := hD0.self (sz := s.heap.size)
  generalize hAe : va_A [(h0, .inr (11, [h0_0, h0_1, .ref sh, h0_3, h0_4, h0_5, h0_6, h0_7, h0_8])), (sh, .inr (5, [sh_0, sh_1, sh_2, sh_3, sh_4, sh_5, sh_6, sh_7, sh_8, sh_9, sh_10]))] s.heap.size = A at hD ⊢
  have hA : ∀ q : Nat, s.heap.size ≤ q → A q := fun q h => by rw [← hAe]; exact Or.inr h
  have hS : va_S A s.heap s.heap [] := va_S.rf
  have hP : va_P D zcl [(h0, .inr (11, [h0_0, h0_1, .ref sh, h0_3, h0_4, h0_5, h0_6, h0_7, h0_8])), (sh, .inr (5, [sh_0, sh_1, sh_2, sh_3, sh_4, sh_5, sh_6, sh_7, sh_8, sh_9, sh_10]))] s.heap := hP
  have hl := lv_entry ([.ref h0, .int g, .int wh]) (n := 3) (Nat.le_of_ble_eq_true rfl)
  rw [lg_entry_eq]
  generalize (lg_sl ([.ref h0, .int g, .int wh]) ++ List.replicate (3 - (lg_sl ([.ref h0, .int g, .int wh])).length) Slot.unset).toArray = ls at hl ⊢
  have hl : lv_has ls 3 [(0, .ref h0), (1, .int g), (2, .int wh)] := hl
  refine lv_aload_n hx hb d_ProofDesk_about_0 rfl (lv_at hl 0 rfl) ?_
  refine va_get (D := D) (ci := 11) (v := .ref sh) (C := "ProofDesk") (T := F_ProofDesk) (N := 9) hx hb hts in_ProofDesk hown hK hP 0 rfl rfl 2 (by decide) (hts _ kw_560) (fun _ h9 => h9) rfl d_ProofDesk_about_1 ?_
  refine lv_iload_n hx hb d_ProofDesk_about_4 rfl (lv_at hl 1 rfl) ?_
  have hPc := hP.sub (ws' := [(sh, .inr (5, [sh_0, sh_1, sh_2, sh_3, sh_4, sh_5, sh_6, sh_7, sh_8, sh_9, sh_10]))]) [1] rfl
  have hDc := hD.sub (ws' := [(sh, .inr (5, [sh_0, sh_1, sh_2, sh_3, sh_4, sh_5, sh_6, sh_7, sh_8, sh_9, sh_10]))]) [1] (by decide +kernel) rfl
  have hFc := va_free (wc := [(sh, .inr (5, [sh_0, sh_1, sh_2, sh_3, sh_4, sh_5, sh_6, sh_7, sh_8, sh_9, sh_10]))]) hD hS hA [1] rfl
  have hkc : 0 + 0 ≤ 0 := by omega
  have hks : 0 + 0 ≤ 0 := by omega
  refine va_calli (va_runV (As := [.int g]) (rest := []) ⟨hx, hb, hml, hown, hts⟩ (c_has_lo l D cI cB cZ cS s.heap.size sh sh_0 sh_1 sh_2 sh_3 sh_4 sh_5 sh_6 sh_7 sh_8 sh_9 sh_10 g hn) (⟨callB_of 1 hts (zgood kw_896) rfl rfl rfl (hts _ kw_8) (hts _ kw_1671) (by decide +kernel) ⟨Nat.le_of_ble_eq_true rfl, Nat.le_of_ble_eq_true rfl⟩, hts _ kw_894, hts _ kw_895⟩) (zPreV hPc hK hN hDc (va_recv (q := ("ProofDesk$Shelf", F_Shelf, 11)) hK hP rfl (q0 := 1) rfl)) rfl rfl hl.1 rfl (lv_room (Nat.le_of_ble_eq_true rfl)) d_ProofDesk_about_5 ⟨hkc, hks⟩) hS (fun q _ h => hFc q h) hFc (fun r u t H1 locs ht hvm hw hB hz1 hk1 hS => ?_)
  obtain ⟨hP1, hD1⟩ := hB
  rw [ht] at hP1
  obtain ⟨hP, hD⟩ := va_join (wr := [(h0, .inr (11, [h0_0, h0_1, .ref sh, h0_3, h0_4, h0_5, h0_6, h0_7, h0_8]))]) (w1 := [(sh, .inr (5, [sh_0, sh_1, sh_2, sh_3, sh_4, sh_5, sh_6, sh_7, sh_8, sh_9, sh_10]))]) hP hD [1] [0] rfl rfl (by decide +kernel) (by decide +kernel) hk1 hFc hP1 hD1
  generalize H1 = H at hP hS ⊢
  have hP : va_P D zcl [(h0, .inr (11, [h0_0, h0_1, .ref sh, h0_3, h0_4, h0_5, h0_6, h0_7, h0_8])), (sh, .inr (5, [sh_0, sh_1, sh_2, sh_3, sh_4, sh_5, sh_6, sh_7, sh_8, sh_9, sh_10]))] H := hP
  have hD : va_D A [(h0, .inr (11, [h0_0, h0_1, .ref sh, h0_3, h0_4, h0_5, h0_6, h0_7, h0_8])), (sh, .inr (5, [sh_0, sh_1, sh_2, sh_3, sh_4, sh_5, sh_6, sh_7, sh_8, sh_9, sh_10]))] := hD
  subst hw
  refine W.widen (k := 0) (n := 0) (by omega) (by omega) ?_
  have hc_1 : (0 : Int32) = 0 := by decide +kernel
  refine lv_if_eq hx hb d_ProofDesk_about_8 rfl (fun _ => ?_) (fun h => absurd hc_1 h)
  refine lv_iconst (v := (-1)) hx hb d_ProofDesk_about_23 (by decide) ?_
  have hP9 := hP.sub (ws' := [(h0, .inr (11, [h0_0, h0_1, .ref sh, h0_3, h0_4, h0_5, h0_6, h0_7, h0_8])), (sh, .inr (5, [sh_0, sh_1, sh_2, sh_3, sh_4, sh_5, sh_6, sh_7, sh_8, sh_9, sh_10]))]) [0, 1] rfl
  have hD9 := hD.sub (ws' := [(h0, .inr (11, [h0_0, h0_1, .ref sh, h0_3, h0_4, h0_5, h0_6, h0_7, h0_8])), (sh, .inr (5, [sh_0, sh_1, sh_2, sh_3, sh_4, sh_5, sh_6, sh_7, sh_8, sh_9, sh_10]))]) [0, 1] (by decide +kernel) rfl
  refine W.widen (k := 0) (n := 0) (by omega) (by omega) ?_
  exact W.iret (v := (-1)) hx hb hr (fun t ht hW => ⟨⟨(-1), (), rfl, rfl, by rw [ht]; exact hP9, hD9⟩, hS.F ht⟩) hS.2.2 d_ProofDesk_about_24
set_option maxHeartbeats 4000000 in
set_option maxRecDepth 100000 in
theorem c_about_no (l : Launch) (D : va_G) (cI cB cZ cS : ClassId) (sz : Nat) (h0 : Nat) (sh : Nat) (h0_0 : Value) (h0_1 : Value) (h0_3 : Value) (h0_4 : Value) (h0_5 : Value) (h0_6 : Value) (h0_7 : Value) (h0_8 : Value) (cn : Int32) (sh_0 : Value) (sh_1 : Value) (sh_2 : Value) (sh_4 : Value) (sh_5 : Value) (sh_6 : Value) (sh_7 : Value) (sh_8 : Value) (sh_9 : Value) (sh_10 : Value) (g : Int32) (wh : Int32) (hn : ¬ g < 0) (hm : cn ≤ g) : Met l y_ProofDesk_about (zc y_ProofDesk_about b_ProofDesk_about 3 (some .int)) ({ frames := 1, cells := 0, slots := 0, locals := 21 }) (zPc D (zty cI cB cZ cS) [(h0, .inr (11, [h0_0, h0_1, .ref sh, h0_3, h0_4, h0_5, h0_6, h0_7, h0_8])), (sh, .inr (5, [sh_0, sh_1, sh_2, .int cn, sh_4, sh_5, sh_6, sh_7, sh_8, sh_9, sh_10]))] sz [.ref h0, .int g, .int wh]) (va_Qi (fun (r : Int32) (_ : Unit) => r = (-1)) (fun _ t => va_P D zcl [(h0, .inr (11, [h0_0, h0_1, .ref sh, h0_3, h0_4, h0_5, h0_6, h0_7, h0_8])), (sh, .inr (5, [sh_0, sh_1, sh_2, .int cn, sh_4, sh_5, sh_6, sh_7, sh_8, sh_9, sh_10]))] t.heap ∧ va_D (va_A [(h0, .inr (11, [h0_0, h0_1, .ref sh, h0_3, h0_4, h0_5, h0_6, h0_7, h0_8])), (sh, .inr (5, [sh_0, sh_1, sh_2, .int cn, sh_4, sh_5, sh_6, sh_7, sh_8, sh_9, sh_10]))] sz) [(h0, .inr (11, [h0_0, h0_1, .ref sh, h0_3, h0_4, h0_5, h0_6, h0_7, h0_8])), (sh, .inr (5, [sh_0, sh_1, sh_2, .int cn, sh_4, sh_5, sh_6, sh_7, sh_8, sh_9, sh_10]))]) (va_A [(h0, .inr (11, [h0_0, h0_1, .ref sh, h0_3, h0_4, h0_5, h0_6, h0_7, h0_8])), (sh, .inr (5, [sh_0, sh_1, sh_2, .int cn, sh_4, sh_5, sh_6, sh_7, sh_8, sh_9, sh_10]))] sz)) 0 0 (va_A [(h0, .inr (11, [h0_0, h0_1, .ref sh, h0_3, h0_4, h0_5, h0_6, h0_7, h0_8])), (sh, .inr (5, [sh_0, sh_1, sh_2, .int cn, sh_4, sh_5, sh_6, sh_7, sh_8, sh_9, sh_10]))] sz) := by
  refine Met.ofW (cc := b_ProofDesk_about) (maxL := 3) (ret := (some .int)) (by decide) rfl ?_
  intro p e s m args below meth c s₁ B hml hv
  obtain ⟨rfl, hsz, hP, ⟨hK, hN⟩, hD0⟩ := hv
  have hx := B.exec
  have hb := B.bytes
  have hr := B.returns
  have hts0 := atoms_spec (ws := zc y_ProofDesk_about b_ProofDesk_about 3 (some .int)) B.pre
  have hts : ∀ w ∈ zw, w.before _ s = true := fun w hw => hts0 w (List.mem_cons_of_mem _ hw)
  have hown : s.vm.findClass "ProofDesk" = some m.cls := findClass_of_methodNamed B.named
  have hlocks := B.notSynchronized
  subst hsz
  have hD := hD0.self (sz := s.heap.size)
  generalize hAe : va_A [(h0, .inr (11, [h0_0, h0_1, .ref sh, h0_3, h0_4, h0_5, h0_6, h0_7, h0_8])), (sh, .inr (5, [sh_0, sh_1, sh_2, .int cn, sh_4, sh_5, sh_6, sh_7, sh_8, sh_9, sh_10]))] s.heap.size = A at hD ⊢
  have hA : ∀ q : Nat, s.heap.size ≤ q → A q := fun q h => by rw [← hAe]; exact Or.inr h
  have hS : va_S A s.heap s.heap [] := va_S.rf
  have hP : va_P D zcl [(h0, .inr (11, [h0_0, h0_1, .ref sh, h0_3, h0_4, h0_5, h0_6, h0_7, h0_8])), (sh, .inr (5, [sh_0, sh_1, sh_2, .int cn, sh_4, sh_5, sh_6, sh_7, sh_8, sh_9, sh_10]))] s.heap := hP
  have hl := lv_entry ([.ref h0, .int g, .int wh]) (n := 3) (Nat.le_of_ble_eq_true rfl)
  rw [lg_entry_eq]
  generalize (lg_sl ([.ref h0, .int g, .int wh]) ++ List.replicate (3 - (lg_sl ([.ref h0, .int g, .int wh])).length) Slot.unset).toArray = ls at hl ⊢
  have hl : lv_has ls 3 [(0, .ref h0), (1, .int g), (2, .int wh)] := hl
  refine lv_aload_n hx hb d_ProofDesk_about_0 rfl (lv_at hl 0 rfl) ?_
  refine va_get (D := D) (ci := 11) (v := .ref sh) (C := "ProofDesk") (T := F_ProofDesk) (N := 9) hx hb hts in_ProofDesk hown hK hP 0 rfl rfl 2 (by decide) (hts _ kw_560) (fun _ h9 => h9) rfl d_ProofDesk_about_1 ?_
  refine lv_iload_n hx hb d_ProofDesk_about_4 rfl (lv_at hl 1 rfl) ?_
  have hPc := hP.sub (ws' := [(sh, .inr (5, [sh_0, sh_1, sh_2, .int cn, sh_4, sh_5, sh_6, sh_7, sh_8, sh_9, sh_10]))]) [1] rfl
  have hDc := hD.sub (ws' := [(sh, .inr (5, [sh_0, sh_1, sh_2, .int cn, sh_4, sh_5, sh_6, sh_7, sh_8, sh_9, sh_10]))]) [1] (by decide +kernel) rfl
  have hFc := va_free (wc := [(sh, .inr (5, [sh_0, sh_1, sh_2, .int cn, sh_4, sh_5, sh_6, sh_7, sh_8, sh_9, sh_10]))]) hD hS hA [1] rfl
  have hkc : 0 + 0 ≤ 0 := by omega
  have hks : 0 + 0 ≤ 0 := by omega
  refine va_calli (va_runV (As := [.int g]) (rest := []) ⟨hx, hb, hml, hown, hts⟩ (c_has_no l D cI cB cZ cS s.heap.size sh cn sh_0 sh_1 sh_2 sh_4 sh_5 sh_6 sh_7 sh_8 sh_9 sh_10 g hn hm) (⟨callB_of 1 hts (zgood kw_896) rfl rfl rfl (hts _ kw_8) (hts _ kw_1671) (by decide +kernel) ⟨Nat.le_of_ble_eq_true rfl, Nat.le_of_ble_eq_true rfl⟩, hts _ kw_894, hts _ kw_895⟩) (zPreV hPc hK hN hDc (va_recv (q := ("ProofDesk$Shelf", F_Shelf, 11)) hK hP rfl (q0 := 1) rfl)) rfl rfl hl.1 rfl (lv_room (Nat.le_of_ble_eq_true rfl)) d_ProofDesk_about_5 ⟨hkc, hks⟩) hS (fun q _ h => hFc q h) hFc (fun r u t H1 locs ht hvm hw hB hz1 hk1 hS => ?_)
  obtain ⟨hP1, hD1⟩ := hB
  rw [ht] at hP1
  obtain ⟨hP, hD⟩ := va_join (wr := [(h0, .inr (11, [h0_0, h0_1, .ref sh, h0_3, h0_4, h0_5, h0_6, h0_7, h0_8]))]) (w1 := [(sh, .inr (5, [sh_0, sh_1, sh_2, .int cn, sh_4, sh_5, sh_6, sh_7, sh_8, sh_9, sh_10]))]) hP hD [1] [0] rfl rfl (by decide +kernel) (by decide +kernel) hk1 hFc hP1 hD1
  generalize H1 = H at hP hS ⊢
  have hP : va_P D zcl [(h0, .inr (11, [h0_0, h0_1, .ref sh, h0_3, h0_4, h0_5, h0_6, h0_7, h0_8])), (sh, .inr (5, [sh_0, sh_1, sh_2, .int cn, sh_4, sh_5, sh_6, sh_7, sh_8, sh_9, sh_10]))] H := hP
  have hD : va_D A [(h0, .inr (11, [h0_0, h0_1, .ref sh, h0_3, h0_4, h0_5, h0_6, h0_7, h0_8])), (sh, .inr (5, [sh_0, sh_1, sh_2, .int cn, sh_4, sh_5, sh_6, sh_7, sh_8, sh_9, sh_10]))] := hD
  subst hw
  refine W.widen (k := 0) (n := 0) (by omega) (by omega) ?_
  have hc_1 : (0 : Int32) = 0 := by decide +kernel
  refine lv_if_eq hx hb d_ProofDesk_about_8 rfl (fun _ => ?_) (fun h => absurd hc_1 h)
  refine lv_iconst (v := (-1)) hx hb d_ProofDesk_about_23 (by decide) ?_
  have hP9 := hP.sub (ws' := [(h0, .inr (11, [h0_0, h0_1, .ref sh, h0_3, h0_4, h0_5, h0_6, h0_7, h0_8])), (sh, .inr (5, [sh_0, sh_1, sh_2, .int cn, sh_4, sh_5, sh_6, sh_7, sh_8, sh_9, sh_10]))]) [0, 1] rfl
  have hD9 := hD.sub (ws' := [(h0, .inr (11, [h0_0, h0_1, .ref sh, h0_3, h0_4, h0_5, h0_6, h0_7, h0_8])), (sh, .inr (5, [sh_0, sh_1, sh_2, .int cn, sh_4, sh_5, sh_6, sh_7, sh_8, sh_9, sh_10]))]) [0, 1] (by decide +kernel) rfl
  refine W.widen (k := 0) (n := 0) (by omega) (by omega) ?_
  exact W.iret (v := (-1)) hx hb hr (fun t ht hW => ⟨⟨(-1), (), rfl, rfl, by rw [ht]; exact hP9, hD9⟩, hS.F ht⟩) hS.2.2 d_ProofDesk_about_24
abbrev b_ProofDesk_leans : ByteArray := prog_1_method_13_code
abbrev y_ProofDesk_leans : MethodName := ⟨"ProofDesk", "leans", "(II)Z"⟩
theorem d_ProofDesk_leans_0 : decode b_ProofDesk_leans 0 = .ok (.aload_n 0, 1) := by decide +kernel
theorem d_ProofDesk_leans_1 : decode b_ProofDesk_leans 1 = .ok (.getfield 31, 3) := by decide +kernel
theorem d_ProofDesk_leans_4 : decode b_ProofDesk_leans 4 = .ok (.iload_n 1, 1) := by decide +kernel
theorem d_ProofDesk_leans_5 : decode b_ProofDesk_leans 5 = .ok (.invokevirtual 159, 3) := by decide +kernel
theorem d_ProofDesk_leans_8 : decode b_ProofDesk_leans 8 = .ok (.ifCond .eq 30, 3) := by decide +kernel
theorem d_ProofDesk_leans_38 : decode b_ProofDesk_leans 38 = .ok (.iconst 0, 1) := by decide +kernel
theorem d_ProofDesk_leans_39 : decode b_ProofDesk_leans 39 = .ok (.ireturn, 1) := by decide +kernel
set_option maxHeartbeats 4000000 in
set_option maxRecDepth 100000 in
theorem c_leans_lo (l : Launch) (D : va_G) (cI cB cZ cS : ClassId) (sz : Nat) (h0 : Nat) (sh : Nat) (h0_0 : Value) (h0_1 : Value) (h0_3 : Value) (h0_4 : Value) (h0_5 : Value) (h0_6 : Value) (h0_7 : Value) (h0_8 : Value) (sh_0 : Value) (sh_1 : Value) (sh_2 : Value) (sh_3 : Value) (sh_4 : Value) (sh_5 : Value) (sh_6 : Value) (sh_7 : Value) (sh_8 : Value) (sh_9 : Value) (sh_10 : Value) (g : Int32) (hh : Int32) (hn : g < 0) : Met l y_ProofDesk_leans (zc y_ProofDesk_leans b_ProofDesk_leans 3 (some .boolean)) ({ frames := 1, cells := 0, slots := 0, locals := 21 }) (zPc D (zty cI cB cZ cS) [(h0, .inr (11, [h0_0, h0_1, .ref sh, h0_3, h0_4, h0_5, h0_6, h0_7, h0_8])), (sh, .inr (5, [sh_0, sh_1, sh_2, sh_3, sh_4, sh_5, sh_6, sh_7, sh_8, sh_9, sh_10]))] sz [.ref h0, .int g, .int hh]) (va_Qi (fun (r : Int32) (_ : Unit) => r = 0) (fun _ t => va_P D zcl [(h0, .inr (11, [h0_0, h0_1, .ref sh, h0_3, h0_4, h0_5, h0_6, h0_7, h0_8])), (sh, .inr (5, [sh_0, sh_1, sh_2, sh_3, sh_4, sh_5, sh_6, sh_7, sh_8, sh_9, sh_10]))] t.heap ∧ va_D (va_A [(h0, .inr (11, [h0_0, h0_1, .ref sh, h0_3, h0_4, h0_5, h0_6, h0_7, h0_8])), (sh, .inr (5, [sh_0, sh_1, sh_2, sh_3, sh_4, sh_5, sh_6, sh_7, sh_8, sh_9, sh_10]))] sz) [(h0, .inr (11, [h0_0, h0_1, .ref sh, h0_3, h0_4, h0_5, h0_6, h0_7, h0_8])), (sh, .inr (5, [sh_0, sh_1, sh_2, sh_3, sh_4, sh_5, sh_6, sh_7, sh_8, sh_9, sh_10]))]) (va_A [(h0, .inr (11, [h0_0, h0_1, .ref sh, h0_3, h0_4, h0_5, h0_6, h0_7, h0_8])), (sh, .inr (5, [sh_0, sh_1, sh_2, sh_3, sh_4, sh_5, sh_6, sh_7, sh_8, sh_9, sh_10]))] sz)) 0 0 (va_A [(h0, .inr (11, [h0_0, h0_1, .ref sh, h0_3, h0_4, h0_5, h0_6, h0_7, h0_8])), (sh, .inr (5, [sh_0, sh_1, sh_2, sh_3, sh_4, sh_5, sh_6, sh_7, sh_8, sh_9, sh_10]))] sz) := by
  refine Met.ofW (cc := b_ProofDesk_leans) (maxL := 3) (ret := (some .boolean)) (by decide) rfl ?_
  intro p e s m args below meth c s₁ B hml hv
  obtain ⟨rfl, hsz, hP, ⟨hK, hN⟩, hD0⟩ := hv
  have hx := B.exec
  have hb := B.bytes
  have hr := B.returns
  have hts0 := atoms_spec (ws := zc y_ProofDesk_leans b_ProofDesk_leans 3 (some .boolean)) B.pre
  have hts : ∀ w ∈ zw, w.before _ s = true := fun w hw => hts0 w (List.mem_cons_of_mem _ hw)
  have hown : s.vm.findClass "ProofDesk" = some m.cls := findClass_of_methodNamed B.named
  have hlocks := B.notSynchronized
  subst hsz
  have hD := hD0.self (sz := s.heap.size)
  generalize hAe : va_A [(h0, .inr (11, [h0_0, h0_1, .ref sh, h0_3, h0_4, h0_5, h0_6, h0_7, h0_8])), (sh, .inr (5, [sh_0, sh_1, sh_2, sh_3, sh_4, sh_5, sh_6, sh_7, sh_8, sh_9, sh_10]))] s.heap.size = A at hD ⊢
  have hA : ∀ q : Nat, s.heap.size ≤ q → A q := fun q h => by rw [← hAe]; exact Or.inr h
  have hS : va_S A s.heap s.heap [] := va_S.rf
  have hP : va_P D zcl [(h0, .inr (11, [h0_0, h0_1, .ref sh, h0_3, h0_4, h0_5, h0_6, h0_7, h0_8])), (sh, .inr (5, [sh_0, sh_1, sh_2, sh_3, sh_4, sh_5, sh_6, sh_7, sh_8, sh_9, sh_10]))] s.heap := hP
  have hl := lv_entry ([.ref h0, .int g, .int hh]) (n := 3) (Nat.le_of_ble_eq_true rfl)
  rw [lg_entry_eq]
  generalize (lg_sl ([.ref h0, .int g, .int hh]) ++ List.replicate (3 - (lg_sl ([.ref h0, .int g, .int hh])).length) Slot.unset).toArray = ls at hl ⊢
  have hl : lv_has ls 3 [(0, .ref h0), (1, .int g), (2, .int hh)] := hl
  refine lv_aload_n hx hb d_ProofDesk_leans_0 rfl (lv_at hl 0 rfl) ?_
  refine va_get (D := D) (ci := 11) (v := .ref sh) (C := "ProofDesk") (T := F_ProofDesk) (N := 9) hx hb hts in_ProofDesk hown hK hP 0 rfl rfl 2 (by decide) (hts _ kw_560) (fun _ h9 => h9) rfl d_ProofDesk_leans_1 ?_
  refine lv_iload_n hx hb d_ProofDesk_leans_4 rfl (lv_at hl 1 rfl) ?_
  have hPc := hP.sub (ws' := [(sh, .inr (5, [sh_0, sh_1, sh_2, sh_3, sh_4, sh_5, sh_6, sh_7, sh_8, sh_9, sh_10]))]) [1] rfl
  have hDc := hD.sub (ws' := [(sh, .inr (5, [sh_0, sh_1, sh_2, sh_3, sh_4, sh_5, sh_6, sh_7, sh_8, sh_9, sh_10]))]) [1] (by decide +kernel) rfl
  have hFc := va_free (wc := [(sh, .inr (5, [sh_0, sh_1, sh_2, sh_3, sh_4, sh_5, sh_6, sh_7, sh_8, sh_9, sh_10]))]) hD hS hA [1] rfl
  have hkc : 0 + 0 ≤ 0 := by omega
  have hks : 0 + 0 ≤ 0 := by omega
  refine va_calli (va_runV (As := [.int g]) (rest := []) ⟨hx, hb, hml, hown, hts⟩ (c_has_lo l D cI cB cZ cS s.heap.size sh sh_0 sh_1 sh_2 sh_3 sh_4 sh_5 sh_6 sh_7 sh_8 sh_9 sh_10 g hn) (⟨callB_of 1 hts (zgood kw_896) rfl rfl rfl (hts _ kw_8) (hts _ kw_1671) (by decide +kernel) ⟨Nat.le_of_ble_eq_true rfl, Nat.le_of_ble_eq_true rfl⟩, hts _ kw_894, hts _ kw_895⟩) (zPreV hPc hK hN hDc (va_recv (q := ("ProofDesk$Shelf", F_Shelf, 11)) hK hP rfl (q0 := 1) rfl)) rfl rfl hl.1 rfl (lv_room (Nat.le_of_ble_eq_true rfl)) d_ProofDesk_leans_5 ⟨hkc, hks⟩) hS (fun q _ h => hFc q h) hFc (fun r u t H1 locs ht hvm hw hB hz1 hk1 hS => ?_)
  obtain ⟨hP1, hD1⟩ := hB
  rw [ht] at hP1
  obtain ⟨hP, hD⟩ := va_join (wr := [(h0, .inr (11, [h0_0, h0_1, .ref sh, h0_3, h0_4, h0_5, h0_6, h0_7, h0_8]))]) (w1 := [(sh, .inr (5, [sh_0, sh_1, sh_2, sh_3, sh_4, sh_5, sh_6, sh_7, sh_8, sh_9, sh_10]))]) hP hD [1] [0] rfl rfl (by decide +kernel) (by decide +kernel) hk1 hFc hP1 hD1
  generalize H1 = H at hP hS ⊢
  have hP : va_P D zcl [(h0, .inr (11, [h0_0, h0_1, .ref sh, h0_3, h0_4, h0_5, h0_6, h0_7, h0_8])), (sh, .inr (5, [sh_0, sh_1, sh_2, sh_3, sh_4, sh_5, sh_6, sh_7, sh_8, sh_9, sh_10]))] H := hP
  have hD : va_D A [(h0, .inr (11, [h0_0, h0_1, .ref sh, h0_3, h0_4, h0_5, h0_6, h0_7, h0_8])), (sh, .inr (5, [sh_0, sh_1, sh_2, sh_3, sh_4, sh_5, sh_6, sh_7, sh_8, sh_9, sh_10]))] := hD
  subst hw
  refine W.widen (k := 0) (n := 0) (by omega) (by omega) ?_
  have hc_1 : (0 : Int32) = 0 := by decide +kernel
  refine lv_if_eq hx hb d_ProofDesk_leans_8 rfl (fun _ => ?_) (fun h => absurd hc_1 h)
  refine lv_iconst (v := 0) hx hb d_ProofDesk_leans_38 (by decide) ?_
  have hP9 := hP.sub (ws' := [(h0, .inr (11, [h0_0, h0_1, .ref sh, h0_3, h0_4, h0_5, h0_6, h0_7, h0_8])), (sh, .inr (5, [sh_0, sh_1, sh_2, sh_3, sh_4, sh_5, sh_6, sh_7, sh_8, sh_9, sh_10]))]) [0, 1] rfl
  have hD9 := hD.sub (ws' := [(h0, .inr (11, [h0_0, h0_1, .ref sh, h0_3, h0_4, h0_5, h0_6, h0_7, h0_8])), (sh, .inr (5, [sh_0, sh_1, sh_2, sh_3, sh_4, sh_5, sh_6, sh_7, sh_8, sh_9, sh_10]))]) [0, 1] (by decide +kernel) rfl
  refine W.widen (k := 0) (n := 0) (by omega) (by omega) ?_
  exact W.zret (v := 0) hx hb hr rfl (fun t ht hW => ⟨⟨0, (), rfl, rfl, by rw [ht]; exact hP9, hD9⟩, hS.F ht⟩) hS.2.2 d_ProofDesk_leans_39
set_option maxHeartbeats 4000000 in
set_option maxRecDepth 100000 in
theorem c_leans_no (l : Launch) (D : va_G) (cI cB cZ cS : ClassId) (sz : Nat) (h0 : Nat) (sh : Nat) (h0_0 : Value) (h0_1 : Value) (h0_3 : Value) (h0_4 : Value) (h0_5 : Value) (h0_6 : Value) (h0_7 : Value) (h0_8 : Value) (cn : Int32) (sh_0 : Value) (sh_1 : Value) (sh_2 : Value) (sh_4 : Value) (sh_5 : Value) (sh_6 : Value) (sh_7 : Value) (sh_8 : Value) (sh_9 : Value) (sh_10 : Value) (g : Int32) (hh : Int32) (hn : ¬ g < 0) (hm : cn ≤ g) : Met l y_ProofDesk_leans (zc y_ProofDesk_leans b_ProofDesk_leans 3 (some .boolean)) ({ frames := 1, cells := 0, slots := 0, locals := 21 }) (zPc D (zty cI cB cZ cS) [(h0, .inr (11, [h0_0, h0_1, .ref sh, h0_3, h0_4, h0_5, h0_6, h0_7, h0_8])), (sh, .inr (5, [sh_0, sh_1, sh_2, .int cn, sh_4, sh_5, sh_6, sh_7, sh_8, sh_9, sh_10]))] sz [.ref h0, .int g, .int hh]) (va_Qi (fun (r : Int32) (_ : Unit) => r = 0) (fun _ t => va_P D zcl [(h0, .inr (11, [h0_0, h0_1, .ref sh, h0_3, h0_4, h0_5, h0_6, h0_7, h0_8])), (sh, .inr (5, [sh_0, sh_1, sh_2, .int cn, sh_4, sh_5, sh_6, sh_7, sh_8, sh_9, sh_10]))] t.heap ∧ va_D (va_A [(h0, .inr (11, [h0_0, h0_1, .ref sh, h0_3, h0_4, h0_5, h0_6, h0_7, h0_8])), (sh, .inr (5, [sh_0, sh_1, sh_2, .int cn, sh_4, sh_5, sh_6, sh_7, sh_8, sh_9, sh_10]))] sz) [(h0, .inr (11, [h0_0, h0_1, .ref sh, h0_3, h0_4, h0_5, h0_6, h0_7, h0_8])), (sh, .inr (5, [sh_0, sh_1, sh_2, .int cn, sh_4, sh_5, sh_6, sh_7, sh_8, sh_9, sh_10]))]) (va_A [(h0, .inr (11, [h0_0, h0_1, .ref sh, h0_3, h0_4, h0_5, h0_6, h0_7, h0_8])), (sh, .inr (5, [sh_0, sh_1, sh_2, .int cn, sh_4, sh_5, sh_6, sh_7, sh_8, sh_9, sh_10]))] sz)) 0 0 (va_A [(h0, .inr (11, [h0_0, h0_1, .ref sh, h0_3, h0_4, h0_5, h0_6, h0_7, h0_8])), (sh, .inr (5, [sh_0, sh_1, sh_2, .int cn, sh_4, sh_5, sh_6, sh_7, sh_8, sh_9, sh_10]))] sz) := by
  refine Met.ofW (cc := b_ProofDesk_leans) (maxL := 3) (ret := (some .boolean)) (by decide) rfl ?_
  intro p e s m args below meth c s₁ B hml hv
  obtain ⟨rfl, hsz, hP, ⟨hK, hN⟩, hD0⟩ := hv
  have hx := B.exec
  have hb := B.bytes
  have hr := B.returns
  have hts0 := atoms_spec (ws := zc y_ProofDesk_leans b_ProofDesk_leans 3 (some .boolean)) B.pre
  have hts : ∀ w ∈ zw, w.before _ s = true := fun w hw => hts0 w (List.mem_cons_of_mem _ hw)
  have hown : s.vm.findClass "ProofDesk" = some m.cls := findClass_of_methodNamed B.named
  have hlocks := B.notSynchronized
  subst hsz
  have hD := hD0.self (sz := s.heap.size)
  generalize hAe : va_A [(h0, .inr (11, [h0_0, h0_1, .ref sh, h0_3, h0_4, h0_5, h0_6, h0_7, h0_8])), (sh, .inr (5, [sh_0, sh_1, sh_2, .int cn, sh_4, sh_5, sh_6, sh_7, sh_8, sh_9, sh_10]))] s.heap.size = A at hD ⊢
  have hA : ∀ q : Nat, s.heap.size ≤ q → A q := fun q h => by rw [← hAe]; exact Or.inr h
  have hS : va_S A s.heap s.heap [] := va_S.rf
  have hP : va_P D zcl [(h0, .inr (11, [h0_0, h0_1, .ref sh, h0_3, h0_4, h0_5, h0_6, h0_7, h0_8])), (sh, .inr (5, [sh_0, sh_1, sh_2, .int cn, sh_4, sh_5, sh_6, sh_7, sh_8, sh_9, sh_10]))] s.heap := hP
  have hl := lv_entry ([.ref h0, .int g, .int hh]) (n := 3) (Nat.le_of_ble_eq_true rfl)
  rw [lg_entry_eq]
  generalize (lg_sl ([.ref h0, .int g, .int hh]) ++ List.replicate (3 - (lg_sl ([.ref h0, .int g, .int hh])).length) Slot.unset).toArray = ls at hl ⊢
  have hl : lv_has ls 3 [(0, .ref h0), (1, .int g), (2, .int hh)] := hl
  refine lv_aload_n hx hb d_ProofDesk_leans_0 rfl (lv_at hl 0 rfl) ?_
  refine va_get (D := D) (ci := 11) (v := .ref sh) (C := "ProofDesk") (T := F_ProofDesk) (N := 9) hx hb hts in_ProofDesk hown hK hP 0 rfl rfl 2 (by decide) (hts _ kw_560) (fun _ h9 => h9) rfl d_ProofDesk_leans_1 ?_
  refine lv_iload_n hx hb d_ProofDesk_leans_4 rfl (lv_at hl 1 rfl) ?_
  have hPc := hP.sub (ws' := [(sh, .inr (5, [sh_0, sh_1, sh_2, .int cn, sh_4, sh_5, sh_6, sh_7, sh_8, sh_9, sh_10]))]) [1] rfl
  have hDc := hD.sub (ws' := [(sh, .inr (5, [sh_0, sh_1, sh_2, .int cn, sh_4, sh_5, sh_6, sh_7, sh_8, sh_9, sh_10]))]) [1] (by decide +kernel) rfl
  have hFc := va_free (wc := [(sh, .inr (5, [sh_0, sh_1, sh_2, .int cn, sh_4, sh_5, sh_6, sh_7, sh_8, sh_9, sh_10]))]) hD hS hA [1] rfl
  have hkc : 0 + 0 ≤ 0 := by omega
  have hks : 0 + 0 ≤ 0 := by omega
  refine va_calli (va_runV (As := [.int g]) (rest := []) ⟨hx, hb, hml, hown, hts⟩ (c_has_no l D cI cB cZ cS s.heap.size sh cn sh_0 sh_1 sh_2 sh_4 sh_5 sh_6 sh_7 sh_8 sh_9 sh_10 g hn hm) (⟨callB_of 1 hts (zgood kw_896) rfl rfl rfl (hts _ kw_8) (hts _ kw_1671) (by decide +kernel) ⟨Nat.le_of_ble_eq_true rfl, Nat.le_of_ble_eq_true rfl⟩, hts _ kw_894, hts _ kw_895⟩) (zPreV hPc hK hN hDc (va_recv (q := ("ProofDesk$Shelf", F_Shelf, 11)) hK hP rfl (q0 := 1) rfl)) rfl rfl hl.1 rfl (lv_room (Nat.le_of_ble_eq_true rfl)) d_ProofDesk_leans_5 ⟨hkc, hks⟩) hS (fun q _ h => hFc q h) hFc (fun r u t H1 locs ht hvm hw hB hz1 hk1 hS => ?_)
  obtain ⟨hP1, hD1⟩ := hB
  rw [ht] at hP1
  obtain ⟨hP, hD⟩ := va_join (wr := [(h0, .inr (11, [h0_0, h0_1, .ref sh, h0_3, h0_4, h0_5, h0_6, h0_7, h0_8]))]) (w1 := [(sh, .inr (5, [sh_0, sh_1, sh_2, .int cn, sh_4, sh_5, sh_6, sh_7, sh_8, sh_9, sh_10]))]) hP hD [1] [0] rfl rfl (by decide +kernel) (by decide +kernel) hk1 hFc hP1 hD1
  generalize H1 = H at hP hS ⊢
  have hP : va_P D zcl [(h0, .inr (11, [h0_0, h0_1, .ref sh, h0_3, h0_4, h0_5, h0_6, h0_7, h0_8])), (sh, .inr (5, [sh_0, sh_1, sh_2, .int cn, sh_4, sh_5, sh_6, sh_7, sh_8, sh_9, sh_10]))] H := hP
  have hD : va_D A [(h0, .inr (11, [h0_0, h0_1, .ref sh, h0_3, h0_4, h0_5, h0_6, h0_7, h0_8])), (sh, .inr (5, [sh_0, sh_1, sh_2, .int cn, sh_4, sh_5, sh_6, sh_7, sh_8, sh_9, sh_10]))] := hD
  subst hw
  refine W.widen (k := 0) (n := 0) (by omega) (by omega) ?_
  have hc_1 : (0 : Int32) = 0 := by decide +kernel
  refine lv_if_eq hx hb d_ProofDesk_leans_8 rfl (fun _ => ?_) (fun h => absurd hc_1 h)
  refine lv_iconst (v := 0) hx hb d_ProofDesk_leans_38 (by decide) ?_
  have hP9 := hP.sub (ws' := [(h0, .inr (11, [h0_0, h0_1, .ref sh, h0_3, h0_4, h0_5, h0_6, h0_7, h0_8])), (sh, .inr (5, [sh_0, sh_1, sh_2, .int cn, sh_4, sh_5, sh_6, sh_7, sh_8, sh_9, sh_10]))]) [0, 1] rfl
  have hD9 := hD.sub (ws' := [(h0, .inr (11, [h0_0, h0_1, .ref sh, h0_3, h0_4, h0_5, h0_6, h0_7, h0_8])), (sh, .inr (5, [sh_0, sh_1, sh_2, .int cn, sh_4, sh_5, sh_6, sh_7, sh_8, sh_9, sh_10]))]) [0, 1] (by decide +kernel) rfl
  refine W.widen (k := 0) (n := 0) (by omega) (by omega) ?_
  exact W.zret (v := 0) hx hb hr rfl (fun t ht hW => ⟨⟨0, (), rfl, rfl, by rw [ht]; exact hP9, hD9⟩, hS.F ht⟩) hS.2.2 d_ProofDesk_leans_39
abbrev b_ProofDesk_show : ByteArray := prog_1_method_14_code
abbrev y_ProofDesk_show : MethodName := ⟨"ProofDesk", "show", "(I)I"⟩
theorem d_ProofDesk_show_0 : decode b_ProofDesk_show 0 = .ok (.aload_n 0, 1) := by decide +kernel
theorem d_ProofDesk_show_1 : decode b_ProofDesk_show 1 = .ok (.getfield 31, 3) := by decide +kernel
theorem d_ProofDesk_show_4 : decode b_ProofDesk_show 4 = .ok (.iload_n 1, 1) := by decide +kernel
theorem d_ProofDesk_show_5 : decode b_ProofDesk_show 5 = .ok (.invokevirtual 159, 3) := by decide +kernel
theorem d_ProofDesk_show_8 : decode b_ProofDesk_show 8 = .ok (.ifCond .eq 21, 3) := by decide +kernel
theorem d_ProofDesk_show_29 : decode b_ProofDesk_show 29 = .ok (.iconst (-1), 1) := by decide +kernel
theorem d_ProofDesk_show_30 : decode b_ProofDesk_show 30 = .ok (.ireturn, 1) := by decide +kernel
set_option maxHeartbeats 4000000 in
set_option maxRecDepth 100000 in
theorem c_show_lo (l : Launch) (D : va_G) (cI cB cZ cS : ClassId) (sz : Nat) (h0 : Nat) (sh : Nat) (h0_0 : Value) (h0_1 : Value) (h0_3 : Value) (h0_4 : Value) (h0_5 : Value) (h0_6 : Value) (h0_7 : Value) (h0_8 : Value) (sh_0 : Value) (sh_1 : Value) (sh_2 : Value) (sh_3 : Value) (sh_4 : Value) (sh_5 : Value) (sh_6 : Value) (sh_7 : Value) (sh_8 : Value) (sh_9 : Value) (sh_10 : Value) (g : Int32) (hn : g < 0) : Met l y_ProofDesk_show (zc y_ProofDesk_show b_ProofDesk_show 2 (some .int)) ({ frames := 1, cells := 0, slots := 0, locals := 21 }) (zPc D (zty cI cB cZ cS) [(h0, .inr (11, [h0_0, h0_1, .ref sh, h0_3, h0_4, h0_5, h0_6, h0_7, h0_8])), (sh, .inr (5, [sh_0, sh_1, sh_2, sh_3, sh_4, sh_5, sh_6, sh_7, sh_8, sh_9, sh_10]))] sz [.ref h0, .int g]) (va_Qi (fun (r : Int32) (_ : Unit) => r = (-1)) (fun _ t => va_P D zcl [(h0, .inr (11, [h0_0, h0_1, .ref sh, h0_3, h0_4, h0_5, h0_6, h0_7, h0_8])), (sh, .inr (5, [sh_0, sh_1, sh_2, sh_3, sh_4, sh_5, sh_6, sh_7, sh_8, sh_9, sh_10]))] t.heap ∧ va_D (va_A [(h0, .inr (11, [h0_0, h0_1, .ref sh, h0_3, h0_4, h0_5, h0_6, h0_7, h0_8])), (sh, .inr (5, [sh_0, sh_1, sh_2, sh_3, sh_4, sh_5, sh_6, sh_7, sh_8, sh_9, sh_10]))] sz) [(h0, .inr (11, [h0_0, h0_1, .ref sh, h0_3, h0_4, h0_5, h0_6, h0_7, h0_8])), (sh, .inr (5, [sh_0, sh_1, sh_2, sh_3, sh_4, sh_5, sh_6, sh_7, sh_8, sh_9, sh_10]))]) (va_A [(h0, .inr (11, [h0_0, h0_1, .ref sh, h0_3, h0_4, h0_5, h0_6, h0_7, h0_8])), (sh, .inr (5, [sh_0, sh_1, sh_2, sh_3, sh_4, sh_5, sh_6, sh_7, sh_8, sh_9, sh_10]))] sz)) 0 0 (va_A [(h0, .inr (11, [h0_0, h0_1, .ref sh, h0_3, h0_4, h0_5, h0_6, h0_7, h0_8])), (sh, .inr (5, [sh_0, sh_1, sh_2, sh_3, sh_4, sh_5, sh_6, sh_7, sh_8, sh_9, sh_10]))] sz) := by
  refine Met.ofW (cc := b_ProofDesk_show) (maxL := 2) (ret := (some .int)) (by decide) rfl ?_
  intro p e s m args below meth c s₁ B hml hv
  obtain ⟨rfl, hsz, hP, ⟨hK, hN⟩, hD0⟩ := hv
  have hx := B.exec
  have hb := B.bytes
  have hr := B.returns
  have hts0 := atoms_spec (ws := zc y_ProofDesk_show b_ProofDesk_show 2 (some .int)) B.pre
  have hts : ∀ w ∈ zw, w.before _ s = true := fun w hw => hts0 w (List.mem_cons_of_mem _ hw)
  have hown : s.vm.findClass "ProofDesk" = some m.cls := findClass_of_methodNamed B.named
  have hlocks := B.notSynchronized
  subst hsz
  have hD := hD0.self (sz := s.heap.size)
  generalize hAe : va_A [(h0, .inr (11, [h0_0, h0_1, .ref sh, h0_3, h0_4, h0_5, h0_6, h0_7, h0_8])), (sh, .inr (5, [sh_0, sh_1, sh_2, sh_3, sh_4, sh_5, sh_6, sh_7, sh_8, sh_9, sh_10]))] s.heap.size = A at hD ⊢
  have hA : ∀ q : Nat, s.heap.size ≤ q → A q := fun q h => by rw [← hAe]; exact Or.inr h
  have hS : va_S A s.heap s.heap [] := va_S.rf
  have hP : va_P D zcl [(h0, .inr (11, [h0_0, h0_1, .ref sh, h0_3, h0_4, h0_5, h0_6, h0_7, h0_8])), (sh, .inr (5, [sh_0, sh_1, sh_2, sh_3, sh_4, sh_5, sh_6, sh_7, sh_8, sh_9, sh_10]))] s.heap := hP
  have hl := lv_entry ([.ref h0, .int g]) (n := 2) (Nat.le_of_ble_eq_true rfl)
  rw [lg_entry_eq]
  generalize (lg_sl ([.ref h0, .int g]) ++ List.replicate (2 - (lg_sl ([.ref h0, .int g])).length) Slot.unset).toArray = ls at hl ⊢
  have hl : lv_has ls 2 [(0, .ref h0), (1, .int g)] := hl
  refine lv_aload_n hx hb d_ProofDesk_show_0 rfl (lv_at hl 0 rfl) ?_
  refine va_get (D := D) (ci := 11) (v := .ref sh) (C := "ProofDesk") (T := F_ProofDesk) (N := 9) hx hb hts in_ProofDesk hown hK hP 0 rfl rfl 2 (by decide) (hts _ kw_560) (fun _ h9 => h9) rfl d_ProofDesk_show_1 ?_
  refine lv_iload_n hx hb d_ProofDesk_show_4 rfl (lv_at hl 1 rfl) ?_
  have hPc := hP.sub (ws' := [(sh, .inr (5, [sh_0, sh_1, sh_2, sh_3, sh_4, sh_5, sh_6, sh_7, sh_8, sh_9, sh_10]))]) [1] rfl
  have hDc := hD.sub (ws' := [(sh, .inr (5, [sh_0, sh_1, sh_2, sh_3, sh_4, sh_5, sh_6, sh_7, sh_8, sh_9, sh_10]))]) [1] (by decide +kernel) rfl
  have hFc := va_free (wc := [(sh, .inr (5, [sh_0, sh_1, sh_2, sh_3, sh_4, sh_5, sh_6, sh_7, sh_8, sh_9, sh_10]))]) hD hS hA [1] rfl
  have hkc : 0 + 0 ≤ 0 := by omega
  have hks : 0 + 0 ≤ 0 := by omega
  refine va_calli (va_runV (As := [.int g]) (rest := []) ⟨hx, hb, hml, hown, hts⟩ (c_has_lo l D cI cB cZ cS s.heap.size sh sh_0 sh_1 sh_2 sh_3 sh_4 sh_5 sh_6 sh_7 sh_8 sh_9 sh_10 g hn) (⟨callB_of 1 hts (zgood kw_896) rfl rfl rfl (hts _ kw_8) (hts _ kw_1671) (by decide +kernel) ⟨Nat.le_of_ble_eq_true rfl, Nat.le_of_ble_eq_true rfl⟩, hts _ kw_894, hts _ kw_895⟩) (zPreV hPc hK hN hDc (va_recv (q := ("ProofDesk$Shelf", F_Shelf, 11)) hK hP rfl (q0 := 1) rfl)) rfl rfl hl.1 rfl (lv_room (Nat.le_of_ble_eq_true rfl)) d_ProofDesk_show_5 ⟨hkc, hks⟩) hS (fun q _ h => hFc q h) hFc (fun r u t H1 locs ht hvm hw hB hz1 hk1 hS => ?_)
  obtain ⟨hP1, hD1⟩ := hB
  rw [ht] at hP1
  obtain ⟨hP, hD⟩ := va_join (wr := [(h0, .inr (11, [h0_0, h0_1, .ref sh, h0_3, h0_4, h0_5, h0_6, h0_7, h0_8]))]) (w1 := [(sh, .inr (5, [sh_0, sh_1, sh_2, sh_3, sh_4, sh_5, sh_6, sh_7, sh_8, sh_9, sh_10]))]) hP hD [1] [0] rfl rfl (by decide +kernel) (by decide +kernel) hk1 hFc hP1 hD1
  generalize H1 = H at hP hS ⊢
  have hP : va_P D zcl [(h0, .inr (11, [h0_0, h0_1, .ref sh, h0_3, h0_4, h0_5, h0_6, h0_7, h0_8])), (sh, .inr (5, [sh_0, sh_1, sh_2, sh_3, sh_4, sh_5, sh_6, sh_7, sh_8, sh_9, sh_10]))] H := hP
  have hD : va_D A [(h0, .inr (11, [h0_0, h0_1, .ref sh, h0_3, h0_4, h0_5, h0_6, h0_7, h0_8])), (sh, .inr (5, [sh_0, sh_1, sh_2, sh_3, sh_4, sh_5, sh_6, sh_7, sh_8, sh_9, sh_10]))] := hD
  subst hw
  refine W.widen (k := 0) (n := 0) (by omega) (by omega) ?_
  have hc_1 : (0 : Int32) = 0 := by decide +kernel
  refine lv_if_eq hx hb d_ProofDesk_show_8 rfl (fun _ => ?_) (fun h => absurd hc_1 h)
  refine lv_iconst (v := (-1)) hx hb d_ProofDesk_show_29 (by decide) ?_
  have hP9 := hP.sub (ws' := [(h0, .inr (11, [h0_0, h0_1, .ref sh, h0_3, h0_4, h0_5, h0_6, h0_7, h0_8])), (sh, .inr (5, [sh_0, sh_1, sh_2, sh_3, sh_4, sh_5, sh_6, sh_7, sh_8, sh_9, sh_10]))]) [0, 1] rfl
  have hD9 := hD.sub (ws' := [(h0, .inr (11, [h0_0, h0_1, .ref sh, h0_3, h0_4, h0_5, h0_6, h0_7, h0_8])), (sh, .inr (5, [sh_0, sh_1, sh_2, sh_3, sh_4, sh_5, sh_6, sh_7, sh_8, sh_9, sh_10]))]) [0, 1] (by decide +kernel) rfl
  refine W.widen (k := 0) (n := 0) (by omega) (by omega) ?_
  exact W.iret (v := (-1)) hx hb hr (fun t ht hW => ⟨⟨(-1), (), rfl, rfl, by rw [ht]; exact hP9, hD9⟩, hS.F ht⟩) hS.2.2 d_ProofDesk_show_30
set_option maxHeartbeats 4000000 in
set_option maxRecDepth 100000 in
theorem c_show_no (l : Launch) (D : va_G) (cI cB cZ cS : ClassId) (sz : Nat) (h0 : Nat) (sh : Nat) (h0_0 : Value) (h0_1 : Value) (h0_3 : Value) (h0_4 : Value) (h0_5 : Value) (h0_6 : Value) (h0_7 : Value) (h0_8 : Value) (cn : Int32) (sh_0 : Value) (sh_1 : Value) (sh_2 : Value) (sh_4 : Value) (sh_5 : Value) (sh_6 : Value) (sh_7 : Value) (sh_8 : Value) (sh_9 : Value) (sh_10 : Value) (g : Int32) (hn : ¬ g < 0) (hm : cn ≤ g) : Met l y_ProofDesk_show (zc y_ProofDesk_show b_ProofDesk_show 2 (some .int)) ({ frames := 1, cells := 0, slots := 0, locals := 21 }) (zPc D (zty cI cB cZ cS) [(h0, .inr (11, [h0_0, h0_1, .ref sh, h0_3, h0_4, h0_5, h0_6, h0_7, h0_8])), (sh, .inr (5, [sh_0, sh_1, sh_2, .int cn, sh_4, sh_5, sh_6, sh_7, sh_8, sh_9, sh_10]))] sz [.ref h0, .int g]) (va_Qi (fun (r : Int32) (_ : Unit) => r = (-1)) (fun _ t => va_P D zcl [(h0, .inr (11, [h0_0, h0_1, .ref sh, h0_3, h0_4, h0_5, h0_6, h0_7, h0_8])), (sh, .inr (5, [sh_0, sh_1, sh_2, .int cn, sh_4, sh_5, sh_6, sh_7, sh_8, sh_9, sh_10]))] t.heap ∧ va_D (va_A [(h0, .inr (11, [h0_0, h0_1, .ref sh, h0_3, h0_4, h0_5, h0_6, h0_7, h0_8])), (sh, .inr (5, [sh_0, sh_1, sh_2, .int cn, sh_4, sh_5, sh_6, sh_7, sh_8, sh_9, sh_10]))] sz) [(h0, .inr (11, [h0_0, h0_1, .ref sh, h0_3, h0_4, h0_5, h0_6, h0_7, h0_8])), (sh, .inr (5, [sh_0, sh_1, sh_2, .int cn, sh_4, sh_5, sh_6, sh_7, sh_8, sh_9, sh_10]))]) (va_A [(h0, .inr (11, [h0_0, h0_1, .ref sh, h0_3, h0_4, h0_5, h0_6, h0_7, h0_8])), (sh, .inr (5, [sh_0, sh_1, sh_2, .int cn, sh_4, sh_5, sh_6, sh_7, sh_8, sh_9, sh_10]))] sz)) 0 0 (va_A [(h0, .inr (11, [h0_0, h0_1, .ref sh, h0_3, h0_4, h0_5, h0_6, h0_7, h0_8])), (sh, .inr (5, [sh_0, sh_1, sh_2, .int cn, sh_4, sh_5, sh_6, sh_7, sh_8, sh_9, sh_10]))] sz) := by
  refine Met.ofW (cc := b_ProofDesk_show) (maxL := 2) (ret := (some .int)) (by decide) rfl ?_
  intro p e s m args below meth c s₁ B hml hv
  obtain ⟨rfl, hsz, hP, ⟨hK, hN⟩, hD0⟩ := hv
  have hx := B.exec
  have hb := B.bytes
  have hr := B.returns
  have hts0 := atoms_spec (ws := zc y_ProofDesk_show b_ProofDesk_show 2 (some .int)) B.pre
  have hts : ∀ w ∈ zw, w.before _ s = true := fun w hw => hts0 w (List.mem_cons_of_mem _ hw)
  have hown : s.vm.findClass "ProofDesk" = some m.cls := findClass_of_methodNamed B.named
  have hlocks := B.notSynchronized
  subst hsz
  have hD := hD0.self (sz := s.heap.size)
  generalize hAe : va_A [(h0, .inr (11, [h0_0, h0_1, .ref sh, h0_3, h0_4, h0_5, h0_6, h0_7, h0_8])), (sh, .inr (5, [sh_0, sh_1, sh_2, .int cn, sh_4, sh_5, sh_6, sh_7, sh_8, sh_9, sh_10]))] s.heap.size = A at hD ⊢
  have hA : ∀ q : Nat, s.heap.size ≤ q → A q := fun q h => by rw [← hAe]; exact Or.inr h
  have hS : va_S A s.heap s.heap [] := va_S.rf
  have hP : va_P D zcl [(h0, .inr (11, [h0_0, h0_1, .ref sh, h0_3, h0_4, h0_5, h0_6, h0_7, h0_8])), (sh, .inr (5, [sh_0, sh_1, sh_2, .int cn, sh_4, sh_5, sh_6, sh_7, sh_8, sh_9, sh_10]))] s.heap := hP
  have hl := lv_entry ([.ref h0, .int g]) (n := 2) (Nat.le_of_ble_eq_true rfl)
  rw [lg_entry_eq]
  generalize (lg_sl ([.ref h0, .int g]) ++ List.replicate (2 - (lg_sl ([.ref h0, .int g])).length) Slot.unset).toArray = ls at hl ⊢
  have hl : lv_has ls 2 [(0, .ref h0), (1, .int g)] := hl
  refine lv_aload_n hx hb d_ProofDesk_show_0 rfl (lv_at hl 0 rfl) ?_
  refine va_get (D := D) (ci := 11) (v := .ref sh) (C := "ProofDesk") (T := F_ProofDesk) (N := 9) hx hb hts in_ProofDesk hown hK hP 0 rfl rfl 2 (by decide) (hts _ kw_560) (fun _ h9 => h9) rfl d_ProofDesk_show_1 ?_
  refine lv_iload_n hx hb d_ProofDesk_show_4 rfl (lv_at hl 1 rfl) ?_
  have hPc := hP.sub (ws' := [(sh, .inr (5, [sh_0, sh_1, sh_2, .int cn, sh_4, sh_5, sh_6, sh_7, sh_8, sh_9, sh_10]))]) [1] rfl
  have hDc := hD.sub (ws' := [(sh, .inr (5, [sh_0, sh_1, sh_2, .int cn, sh_4, sh_5, sh_6, sh_7, sh_8, sh_9, sh_10]))]) [1] (by decide +kernel) rfl
  have hFc := va_free (wc := [(sh, .inr (5, [sh_0, sh_1, sh_2, .int cn, sh_4, sh_5, sh_6, sh_7, sh_8, sh_9, sh_10]))]) hD hS hA [1] rfl
  have hkc : 0 + 0 ≤ 0 := by omega
  have hks : 0 + 0 ≤ 0 := by omega
  refine va_calli (va_runV (As := [.int g]) (rest := []) ⟨hx, hb, hml, hown, hts⟩ (c_has_no l D cI cB cZ cS s.heap.size sh cn sh_0 sh_1 sh_2 sh_4 sh_5 sh_6 sh_7 sh_8 sh_9 sh_10 g hn hm) (⟨callB_of 1 hts (zgood kw_896) rfl rfl rfl (hts _ kw_8) (hts _ kw_1671) (by decide +kernel) ⟨Nat.le_of_ble_eq_true rfl, Nat.le_of_ble_eq_true rfl⟩, hts _ kw_894, hts _ kw_895⟩) (zPreV hPc hK hN hDc (va_recv (q := ("ProofDesk$Shelf", F_Shelf, 11)) hK hP rfl (q0 := 1) rfl)) rfl rfl hl.1 rfl (lv_room (Nat.le_of_ble_eq_true rfl)) d_ProofDesk_show_5 ⟨hkc, hks⟩) hS (fun q _ h => hFc q h) hFc (fun r u t H1 locs ht hvm hw hB hz1 hk1 hS => ?_)
  obtain ⟨hP1, hD1⟩ := hB
  rw [ht] at hP1
  obtain ⟨hP, hD⟩ := va_join (wr := [(h0, .inr (11, [h0_0, h0_1, .ref sh, h0_3, h0_4, h0_5, h0_6, h0_7, h0_8]))]) (w1 := [(sh, .inr (5, [sh_0, sh_1, sh_2, .int cn, sh_4, sh_5, sh_6, sh_7, sh_8, sh_9, sh_10]))]) hP hD [1] [0] rfl rfl (by decide +kernel) (by decide +kernel) hk1 hFc hP1 hD1
  generalize H1 = H at hP hS ⊢
  have hP : va_P D zcl [(h0, .inr (11, [h0_0, h0_1, .ref sh, h0_3, h0_4, h0_5, h0_6, h0_7, h0_8])), (sh, .inr (5, [sh_0, sh_1, sh_2, .int cn, sh_4, sh_5, sh_6, sh_7, sh_8, sh_9, sh_10]))] H := hP
  have hD : va_D A [(h0, .inr (11, [h0_0, h0_1, .ref sh, h0_3, h0_4, h0_5, h0_6, h0_7, h0_8])), (sh, .inr (5, [sh_0, sh_1, sh_2, .int cn, sh_4, sh_5, sh_6, sh_7, sh_8, sh_9, sh_10]))] := hD
  subst hw
  refine W.widen (k := 0) (n := 0) (by omega) (by omega) ?_
  have hc_1 : (0 : Int32) = 0 := by decide +kernel
  refine lv_if_eq hx hb d_ProofDesk_show_8 rfl (fun _ => ?_) (fun h => absurd hc_1 h)
  refine lv_iconst (v := (-1)) hx hb d_ProofDesk_show_29 (by decide) ?_
  have hP9 := hP.sub (ws' := [(h0, .inr (11, [h0_0, h0_1, .ref sh, h0_3, h0_4, h0_5, h0_6, h0_7, h0_8])), (sh, .inr (5, [sh_0, sh_1, sh_2, .int cn, sh_4, sh_5, sh_6, sh_7, sh_8, sh_9, sh_10]))]) [0, 1] rfl
  have hD9 := hD.sub (ws' := [(h0, .inr (11, [h0_0, h0_1, .ref sh, h0_3, h0_4, h0_5, h0_6, h0_7, h0_8])), (sh, .inr (5, [sh_0, sh_1, sh_2, .int cn, sh_4, sh_5, sh_6, sh_7, sh_8, sh_9, sh_10]))]) [0, 1] (by decide +kernel) rfl
  refine W.widen (k := 0) (n := 0) (by omega) (by omega) ?_
  exact W.iret (v := (-1)) hx hb hr (fun t ht hW => ⟨⟨(-1), (), rfl, rfl, by rw [ht]; exact hP9, hD9⟩, hS.F ht⟩) hS.2.2 d_ProofDesk_show_30
abbrev b_ProofDesk_forget : ByteArray := prog_1_method_15_code
abbrev y_ProofDesk_forget : MethodName := ⟨"ProofDesk", "forget", "(I)I"⟩
theorem d_ProofDesk_forget_0 : decode b_ProofDesk_forget 0 = .ok (.iload_n 1, 1) := by decide +kernel
theorem d_ProofDesk_forget_1 : decode b_ProofDesk_forget 1 = .ok (.ifCond .lt 37, 3) := by decide +kernel
theorem d_ProofDesk_forget_38 : decode b_ProofDesk_forget 38 = .ok (.iconst (-1), 1) := by decide +kernel
theorem d_ProofDesk_forget_39 : decode b_ProofDesk_forget 39 = .ok (.ireturn, 1) := by decide +kernel
set_option maxHeartbeats 4000000 in
set_option maxRecDepth 100000 in
theorem c_forget_lo (l : Launch) (D : va_G) (cI cB cZ cS : ClassId) (sz : Nat) (h0 : Nat) (h0_0 : Value) (h0_1 : Value) (h0_2 : Value) (h0_3 : Value) (h0_4 : Value) (h0_5 : Value) (h0_6 : Value) (h0_7 : Value) (h0_8 : Value) (g : Int32) (hn : g < 0) : Met l y_ProofDesk_forget (zc y_ProofDesk_forget b_ProofDesk_forget 2 (some .int)) ({ frames := 0, cells := 0, slots := 0, locals := 0 }) (zPc D (zty cI cB cZ cS) [(h0, .inr (11, [h0_0, h0_1, h0_2, h0_3, h0_4, h0_5, h0_6, h0_7, h0_8]))] sz [.ref h0, .int g]) (va_Qi (fun (r : Int32) (_ : Unit) => r = (-1)) (fun _ t => va_P D zcl [(h0, .inr (11, [h0_0, h0_1, h0_2, h0_3, h0_4, h0_5, h0_6, h0_7, h0_8]))] t.heap ∧ va_D (va_A [(h0, .inr (11, [h0_0, h0_1, h0_2, h0_3, h0_4, h0_5, h0_6, h0_7, h0_8]))] sz) [(h0, .inr (11, [h0_0, h0_1, h0_2, h0_3, h0_4, h0_5, h0_6, h0_7, h0_8]))]) (va_A [(h0, .inr (11, [h0_0, h0_1, h0_2, h0_3, h0_4, h0_5, h0_6, h0_7, h0_8]))] sz)) 0 0 (va_A [(h0, .inr (11, [h0_0, h0_1, h0_2, h0_3, h0_4, h0_5, h0_6, h0_7, h0_8]))] sz) := by
  refine Met.ofW (cc := b_ProofDesk_forget) (maxL := 2) (ret := (some .int)) (by decide) rfl ?_
  intro p e s m args below meth c s₁ B hml hv
  obtain ⟨rfl, hsz, hP, ⟨hK, hN⟩, hD0⟩ := hv
  have hx := B.exec
  have hb := B.bytes
  have hr := B.returns
  have hts0 := atoms_spec (ws := zc y_ProofDesk_forget b_ProofDesk_forget 2 (some .int)) B.pre
  have hts : ∀ w ∈ zw, w.before _ s = true := fun w hw => hts0 w (List.mem_cons_of_mem _ hw)
  have hown : s.vm.findClass "ProofDesk" = some m.cls := findClass_of_methodNamed B.named
  have hlocks := B.notSynchronized
  subst hsz
  have hD := hD0.self (sz := s.heap.size)
  generalize hAe : va_A [(h0, .inr (11, [h0_0, h0_1, h0_2, h0_3, h0_4, h0_5, h0_6, h0_7, h0_8]))] s.heap.size = A at hD ⊢
  have hA : ∀ q : Nat, s.heap.size ≤ q → A q := fun q h => by rw [← hAe]; exact Or.inr h
  have hS : va_S A s.heap s.heap [] := va_S.rf
  have hP : va_P D zcl [(h0, .inr (11, [h0_0, h0_1, h0_2, h0_3, h0_4, h0_5, h0_6, h0_7, h0_8]))] s.heap := hP
  have hl := lv_entry ([.ref h0, .int g]) (n := 2) (Nat.le_of_ble_eq_true rfl)
  rw [lg_entry_eq]
  generalize (lg_sl ([.ref h0, .int g]) ++ List.replicate (2 - (lg_sl ([.ref h0, .int g])).length) Slot.unset).toArray = ls at hl ⊢
  have hl : lv_has ls 2 [(0, .ref h0), (1, .int g)] := hl
  refine lv_iload_n hx hb d_ProofDesk_forget_0 rfl (lv_at hl 1 rfl) ?_
  have hc_1 : (g : Int32) < 0 := hn
  refine lv_if_lt hx hb d_ProofDesk_forget_1 rfl (fun _ => ?_) (fun h => absurd hc_1 h)
  refine lv_iconst (v := (-1)) hx hb d_ProofDesk_forget_38 (by decide) ?_
  have hP9 := hP.sub (ws' := [(h0, .inr (11, [h0_0, h0_1, h0_2, h0_3, h0_4, h0_5, h0_6, h0_7, h0_8]))]) [0] rfl
  have hD9 := hD.sub (ws' := [(h0, .inr (11, [h0_0, h0_1, h0_2, h0_3, h0_4, h0_5, h0_6, h0_7, h0_8]))]) [0] (by decide +kernel) rfl
  refine W.widen (k := 0) (n := 0) (by omega) (by omega) ?_
  exact W.iret (v := (-1)) hx hb hr (fun t ht hW => ⟨⟨(-1), (), rfl, rfl, by rw [ht]; exact hP9, hD9⟩, hS.F ht⟩) hS.2.2 d_ProofDesk_forget_39
theorem d_ProofDesk_forget_4 : decode b_ProofDesk_forget 4 = .ok (.iload_n 1, 1) := by decide +kernel
theorem d_ProofDesk_forget_5 : decode b_ProofDesk_forget 5 = .ok (.aload_n 0, 1) := by decide +kernel
theorem d_ProofDesk_forget_6 : decode b_ProofDesk_forget 6 = .ok (.getfield 31, 3) := by decide +kernel
theorem d_ProofDesk_forget_9 : decode b_ProofDesk_forget 9 = .ok (.getfield 150, 3) := by decide +kernel
theorem d_ProofDesk_forget_12 : decode b_ProofDesk_forget 12 = .ok (.if_icmp .gt 26, 3) := by decide +kernel
set_option maxHeartbeats 4000000 in
set_option maxRecDepth 100000 in
theorem c_forget_no (l : Launch) (D : va_G) (cI cB cZ cS : ClassId) (sz : Nat) (h0 : Nat) (sh : Nat) (h0_0 : Value) (h0_1 : Value) (h0_3 : Value) (h0_4 : Value) (h0_5 : Value) (h0_6 : Value) (h0_7 : Value) (h0_8 : Value) (cn : Int32) (sh_0 : Value) (sh_1 : Value) (sh_2 : Value) (sh_4 : Value) (sh_5 : Value) (sh_6 : Value) (sh_7 : Value) (sh_8 : Value) (sh_9 : Value) (sh_10 : Value) (g : Int32) (hn : ¬ g < 0) (hm : cn < g) : Met l y_ProofDesk_forget (zc y_ProofDesk_forget b_ProofDesk_forget 2 (some .int)) ({ frames := 0, cells := 0, slots := 0, locals := 0 }) (zPc D (zty cI cB cZ cS) [(h0, .inr (11, [h0_0, h0_1, .ref sh, h0_3, h0_4, h0_5, h0_6, h0_7, h0_8])), (sh, .inr (5, [sh_0, sh_1, sh_2, .int cn, sh_4, sh_5, sh_6, sh_7, sh_8, sh_9, sh_10]))] sz [.ref h0, .int g]) (va_Qi (fun (r : Int32) (_ : Unit) => r = (-1)) (fun _ t => va_P D zcl [(h0, .inr (11, [h0_0, h0_1, .ref sh, h0_3, h0_4, h0_5, h0_6, h0_7, h0_8])), (sh, .inr (5, [sh_0, sh_1, sh_2, .int cn, sh_4, sh_5, sh_6, sh_7, sh_8, sh_9, sh_10]))] t.heap ∧ va_D (va_A [(h0, .inr (11, [h0_0, h0_1, .ref sh, h0_3, h0_4, h0_5, h0_6, h0_7, h0_8])), (sh, .inr (5, [sh_0, sh_1, sh_2, .int cn, sh_4, sh_5, sh_6, sh_7, sh_8, sh_9, sh_10]))] sz) [(h0, .inr (11, [h0_0, h0_1, .ref sh, h0_3, h0_4, h0_5, h0_6, h0_7, h0_8])), (sh, .inr (5, [sh_0, sh_1, sh_2, .int cn, sh_4, sh_5, sh_6, sh_7, sh_8, sh_9, sh_10]))]) (va_A [(h0, .inr (11, [h0_0, h0_1, .ref sh, h0_3, h0_4, h0_5, h0_6, h0_7, h0_8])), (sh, .inr (5, [sh_0, sh_1, sh_2, .int cn, sh_4, sh_5, sh_6, sh_7, sh_8, sh_9, sh_10]))] sz)) 0 0 (va_A [(h0, .inr (11, [h0_0, h0_1, .ref sh, h0_3, h0_4, h0_5, h0_6, h0_7, h0_8])), (sh, .inr (5, [sh_0, sh_1, sh_2, .int cn, sh_4, sh_5, sh_6, sh_7, sh_8, sh_9, sh_10]))] sz) := by
  refine Met.ofW (cc := b_ProofDesk_forget) (maxL := 2) (ret := (some .int)) (by decide) rfl ?_
  intro p e s m args below meth c s₁ B hml hv
  obtain ⟨rfl, hsz, hP, ⟨hK, hN⟩, hD0⟩ := hv
  have hx := B.exec
  have hb := B.bytes
  have hr := B.returns
  have hts0 := atoms_spec (ws := zc y_ProofDesk_forget b_ProofDesk_forget 2 (some .int)) B.pre
  have hts : ∀ w ∈ zw, w.before _ s = true := fun w hw => hts0 w (List.mem_cons_of_mem _ hw)
  have hown : s.vm.findClass "ProofDesk" = some m.cls := findClass_of_methodNamed B.named
  have hlocks := B.notSynchronized
  subst hsz
  have hD := hD0.self (sz := s.heap.size)
  generalize hAe : va_A [(h0, .inr (11, [h0_0, h0_1, .ref sh, h0_3, h0_4, h0_5, h0_6, h0_7, h0_8])), (sh, .inr (5, [sh_0, sh_1, sh_2, .int cn, sh_4, sh_5, sh_6, sh_7, sh_8, sh_9, sh_10]))] s.heap.size = A at hD ⊢
  have hA : ∀ q : Nat, s.heap.size ≤ q → A q := fun q h => by rw [← hAe]; exact Or.inr h
  have hS : va_S A s.heap s.heap [] := va_S.rf
  have hP : va_P D zcl [(h0, .inr (11, [h0_0, h0_1, .ref sh, h0_3, h0_4, h0_5, h0_6, h0_7, h0_8])), (sh, .inr (5, [sh_0, sh_1, sh_2, .int cn, sh_4, sh_5, sh_6, sh_7, sh_8, sh_9, sh_10]))] s.heap := hP
  have hl := lv_entry ([.ref h0, .int g]) (n := 2) (Nat.le_of_ble_eq_true rfl)
  rw [lg_entry_eq]
  generalize (lg_sl ([.ref h0, .int g]) ++ List.replicate (2 - (lg_sl ([.ref h0, .int g])).length) Slot.unset).toArray = ls at hl ⊢
  have hl : lv_has ls 2 [(0, .ref h0), (1, .int g)] := hl
  refine lv_iload_n hx hb d_ProofDesk_forget_0 rfl (lv_at hl 1 rfl) ?_
  have hc_1 : ¬ (g : Int32) < 0 := hn
  refine lv_if_lt hx hb d_ProofDesk_forget_1 rfl (fun h => absurd h hc_1) (fun _ => ?_)
  refine lv_iload_n hx hb d_ProofDesk_forget_4 rfl (lv_at hl 1 rfl) ?_
  refine lv_aload_n hx hb d_ProofDesk_forget_5 rfl (lv_at hl 0 rfl) ?_
  refine va_get (D := D) (ci := 11) (v := .ref sh) (C := "ProofDesk") (T := F_ProofDesk) (N := 9) hx hb hts in_ProofDesk hown hK hP 0 rfl rfl 2 (by decide) (hts _ kw_560) (fun _ h9 => h9) rfl d_ProofDesk_forget_6 ?_
  refine va_getN (D := D) (ci := 5) (v := .int cn) (C := "ProofDesk$Shelf") (T := F_Shelf) (N := 11) hx hb hts in_Shelf hown hK hP 1 rfl rfl 3 (by decide) (va_Nw.use rfl (hN _ kw_222)) (fun _ h9 => h9) rfl d_ProofDesk_forget_9 ?_
  have hc_2 : (cn : Int32) < g := hm
  refine lv_icmp_gt hx hb d_ProofDesk_forget_12 rfl (fun _ => ?_) (fun h => absurd hc_2 h)
  refine lv_iconst (v := (-1)) hx hb d_ProofDesk_forget_38 (by decide) ?_
  have hP9 := hP.sub (ws' := [(h0, .inr (11, [h0_0, h0_1, .ref sh, h0_3, h0_4, h0_5, h0_6, h0_7, h0_8])), (sh, .inr (5, [sh_0, sh_1, sh_2, .int cn, sh_4, sh_5, sh_6, sh_7, sh_8, sh_9, sh_10]))]) [0, 1] rfl
  have hD9 := hD.sub (ws' := [(h0, .inr (11, [h0_0, h0_1, .ref sh, h0_3, h0_4, h0_5, h0_6, h0_7, h0_8])), (sh, .inr (5, [sh_0, sh_1, sh_2, .int cn, sh_4, sh_5, sh_6, sh_7, sh_8, sh_9, sh_10]))]) [0, 1] (by decide +kernel) rfl
  refine W.widen (k := 0) (n := 0) (by omega) (by omega) ?_
  exact W.iret (v := (-1)) hx hb hr (fun t ht hW => ⟨⟨(-1), (), rfl, rfl, by rw [ht]; exact hP9, hD9⟩, hS.F ht⟩) hS.2.2 d_ProofDesk_forget_39
abbrev b_Shelf_cutTo : ByteArray := prog_10_method_16_code
abbrev y_Shelf_cutTo : MethodName := ⟨"ProofDesk$Shelf", "cutTo", "(I)I"⟩
theorem d_Shelf_cutTo_0 : decode b_Shelf_cutTo 0 = .ok (.aload_n 0, 1) := by decide +kernel
theorem d_Shelf_cutTo_1 : decode b_Shelf_cutTo 1 = .ok (.getfield 54, 3) := by decide +kernel
theorem d_Shelf_cutTo_4 : decode b_Shelf_cutTo 4 = .ok (.iload_n 1, 1) := by decide +kernel
theorem d_Shelf_cutTo_5 : decode b_Shelf_cutTo 5 = .ok (.isub, 1) := by decide +kernel
theorem d_Shelf_cutTo_6 : decode b_Shelf_cutTo 6 = .ok (.istore_n 2, 1) := by decide +kernel
theorem d_Shelf_cutTo_7 : decode b_Shelf_cutTo 7 = .ok (.iload_n 2, 1) := by decide +kernel
theorem d_Shelf_cutTo_8 : decode b_Shelf_cutTo 8 = .ok (.ifCond .le 87, 3) := by decide +kernel
theorem d_Shelf_cutTo_95 : decode b_Shelf_cutTo 95 = .ok (.iload_n 2, 1) := by decide +kernel
theorem d_Shelf_cutTo_96 : decode b_Shelf_cutTo 96 = .ok (.ireturn, 1) := by decide +kernel
set_option maxHeartbeats 4000000 in
set_option maxRecDepth 100000 in
theorem c_cutTo_0 (l : Launch) (D : va_G) (cI cB cZ cS : ClassId) (sz : Nat) (sh : Nat) (sh_0 : Value) (sh_1 : Value) (sh_2 : Value) (sh_4 : Value) (sh_5 : Value) (sh_6 : Value) (sh_7 : Value) (sh_8 : Value) (sh_9 : Value) (sh_10 : Value) : Met l y_Shelf_cutTo (zc y_Shelf_cutTo b_Shelf_cutTo 4 (some .int)) ({ frames := 0, cells := 0, slots := 0, locals := 0 }) (zPc D (zty cI cB cZ cS) [(sh, .inr (5, [sh_0, sh_1, sh_2, .int 0, sh_4, sh_5, sh_6, sh_7, sh_8, sh_9, sh_10]))] sz [.ref sh, .int 0]) (va_Qi (fun (r : Int32) (_ : Unit) => r = 0) (fun _ t => va_P D zcl [(sh, .inr (5, [sh_0, sh_1, sh_2, .int 0, sh_4, sh_5, sh_6, sh_7, sh_8, sh_9, sh_10]))] t.heap ∧ va_D (va_A [(sh, .inr (5, [sh_0, sh_1, sh_2, .int 0, sh_4, sh_5, sh_6, sh_7, sh_8, sh_9, sh_10]))] sz) [(sh, .inr (5, [sh_0, sh_1, sh_2, .int 0, sh_4, sh_5, sh_6, sh_7, sh_8, sh_9, sh_10]))]) (va_A [(sh, .inr (5, [sh_0, sh_1, sh_2, .int 0, sh_4, sh_5, sh_6, sh_7, sh_8, sh_9, sh_10]))] sz)) 0 0 (va_A [(sh, .inr (5, [sh_0, sh_1, sh_2, .int 0, sh_4, sh_5, sh_6, sh_7, sh_8, sh_9, sh_10]))] sz) := by
  refine Met.ofW (cc := b_Shelf_cutTo) (maxL := 4) (ret := (some .int)) (by decide) rfl ?_
  intro p e s m args below meth c s₁ B hml hv
  obtain ⟨rfl, hsz, hP, ⟨hK, hN⟩, hD0⟩ := hv
  have hx := B.exec
  have hb := B.bytes
  have hr := B.returns
  have hts0 := atoms_spec (ws := zc y_Shelf_cutTo b_Shelf_cutTo 4 (some .int)) B.pre
  have hts : ∀ w ∈ zw, w.before _ s = true := fun w hw => hts0 w (List.mem_cons_of_mem _ hw)
  have hown : s.vm.findClass "ProofDesk$Shelf" = some m.cls := findClass_of_methodNamed B.named
  have hlocks := B.notSynchronized
  subst hsz
  have hD := hD0.self (sz := s.heap.size)
  generalize hAe : va_A [(sh, .inr (5, [sh_0, sh_1, sh_2, .int 0, sh_4, sh_5, sh_6, sh_7, sh_8, sh_9, sh_10]))] s.heap.size = A at hD ⊢
  have hA : ∀ q : Nat, s.heap.size ≤ q → A q := fun q h => by rw [← hAe]; exact Or.inr h
  have hS : va_S A s.heap s.heap [] := va_S.rf
  have hP : va_P D zcl [(sh, .inr (5, [sh_0, sh_1, sh_2, .int 0, sh_4, sh_5, sh_6, sh_7, sh_8, sh_9, sh_10]))] s.heap := hP
  have hl := lv_entry ([.ref sh, .int 0]) (n := 4) (Nat.le_of_ble_eq_true rfl)
  rw [lg_entry_eq]
  generalize (lg_sl ([.ref sh, .int 0]) ++ List.replicate (4 - (lg_sl ([.ref sh, .int 0])).length) Slot.unset).toArray = ls at hl ⊢
  have hl : lv_has ls 4 [(0, .ref sh), (1, .int 0)] := hl
  refine lv_aload_n hx hb d_Shelf_cutTo_0 rfl (lv_at hl 0 rfl) ?_
  refine va_get (D := D) (ci := 5) (v := .int 0) (C := "ProofDesk$Shelf") (T := F_Shelf) (N := 11) hx hb hts in_Shelf hown hK hP 0 rfl rfl 3 (by decide) (hts _ kw_220) (fun _ h9 => h9) rfl d_Shelf_cutTo_1 ?_
  refine lv_iload_n hx hb d_Shelf_cutTo_4 rfl (lv_at hl 1 rfl) ?_
  refine lv_isub hx hb d_Shelf_cutTo_5 ?_
  refine zz_i (y := 0) (by decide +kernel) ?_
  refine lv_istore_n (lv' := [(2, .int 0), (0, .ref sh), (1, .int 0)]) hx hb d_Shelf_cutTo_6 rfl hl (by decide) rfl (fun ls hl => ?_)
  refine lv_iload_n hx hb d_Shelf_cutTo_7 rfl (lv_at hl 0 rfl) ?_
  have hc_1 : (0 : Int32) ≤ 0 := by decide +kernel
  refine lv_if_le hx hb d_Shelf_cutTo_8 rfl (fun _ => ?_) (fun h => absurd hc_1 h)
  refine lv_iload_n hx hb d_Shelf_cutTo_95 rfl (lv_at hl 0 rfl) ?_
  have hP9 := hP.sub (ws' := [(sh, .inr (5, [sh_0, sh_1, sh_2, .int 0, sh_4, sh_5, sh_6, sh_7, sh_8, sh_9, sh_10]))]) [0] rfl
  have hD9 := hD.sub (ws' := [(sh, .inr (5, [sh_0, sh_1, sh_2, .int 0, sh_4, sh_5, sh_6, sh_7, sh_8, sh_9, sh_10]))]) [0] (by decide +kernel) rfl
  refine W.widen (k := 0) (n := 0) (by omega) (by omega) ?_
  exact W.iret (v := 0) hx hb hr (fun t ht hW => ⟨⟨0, (), rfl, rfl, by rw [ht]; exact hP9, hD9⟩, hS.F ht⟩) hS.2.2 d_Shelf_cutTo_96
theorem d_ProofDesk_forget_15 : decode b_ProofDesk_forget 15 = .ok (.iload_n 1, 1) := by decide +kernel
theorem d_ProofDesk_forget_16 : decode b_ProofDesk_forget 16 = .ok (.aload_n 0, 1) := by decide +kernel
theorem d_ProofDesk_forget_17 : decode b_ProofDesk_forget 17 = .ok (.getfield 31, 3) := by decide +kernel
theorem d_ProofDesk_forget_20 : decode b_ProofDesk_forget 20 = .ok (.getfield 150, 3) := by decide +kernel
theorem d_ProofDesk_forget_23 : decode b_ProofDesk_forget 23 = .ok (.if_icmp .ge 17, 3) := by decide +kernel
theorem d_ProofDesk_forget_40 : decode b_ProofDesk_forget 40 = .ok (.aload_n 0, 1) := by decide +kernel
theorem d_ProofDesk_forget_41 : decode b_ProofDesk_forget 41 = .ok (.getfield 31, 3) := by decide +kernel
theorem d_ProofDesk_forget_44 : decode b_ProofDesk_forget 44 = .ok (.iload_n 1, 1) := by decide +kernel
theorem d_ProofDesk_forget_45 : decode b_ProofDesk_forget 45 = .ok (.invokevirtual 177, 3) := by decide +kernel
set_option maxRecDepth 100000 in
theorem kw_1703 : (Jvm.Cond.code ({ cls := "ProofDesk$Shelf", name := "cutTo", desc := "(I)I" } : Jvm.MethodName) prog_10_method_16_code (4 : Nat) (Option.some Jvm.ClassFile.FieldType.int)) ∈ zw := List.mem_filter.mpr ⟨List.mem_append_right _ (List.mem_of_getElem? (i := 1703) rfl), by decide +kernel⟩
theorem kw_1700 : (Jvm.Cond.methodLink "ProofDesk" (177 : Nat) ({ cls := "ProofDesk$Shelf", name := "cutTo", desc := "(I)I" } : Jvm.MethodName)) ∈ zw := List.mem_filter.mpr ⟨List.mem_append_right _ (List.mem_of_getElem? (i := 1700) (by decide +kernel)), by decide +kernel⟩
theorem kw_1701 : (Jvm.Cond.instanceMethod ({ cls := "ProofDesk$Shelf", name := "cutTo", desc := "(I)I" } : Jvm.MethodName)) ∈ zw := List.mem_filter.mpr ⟨List.mem_append_right _ (List.mem_of_getElem? (i := 1701) (by decide +kernel)), by decide +kernel⟩
theorem kw_1702 : (Jvm.Cond.selects "ProofDesk$Shelf" ({ cls := "ProofDesk$Shelf", name := "cutTo", desc := "(I)I" } : Jvm.MethodName) ({ cls := "ProofDesk$Shelf", name := "cutTo", desc := "(I)I" } : Jvm.MethodName)) ∈ zw := List.mem_filter.mpr ⟨List.mem_append_right _ (List.mem_of_getElem? (i := 1702) (by decide +kernel)), by decide +kernel⟩
theorem d_ProofDesk_forget_48 : decode b_ProofDesk_forget 48 = .ok (.ireturn, 1) := by decide +kernel
set_option maxHeartbeats 4000000 in
set_option maxRecDepth 100000 in
theorem c_forget_0 (l : Launch) (D : va_G) (cI cB cZ cS : ClassId) (sz : Nat) (h0 : Nat) (sh : Nat) (h0_0 : Value) (h0_1 : Value) (h0_3 : Value) (h0_4 : Value) (h0_5 : Value) (h0_6 : Value) (h0_7 : Value) (h0_8 : Value) (sh_0 : Value) (sh_1 : Value) (sh_2 : Value) (sh_4 : Value) (sh_5 : Value) (sh_6 : Value) (sh_7 : Value) (sh_8 : Value) (sh_9 : Value) (sh_10 : Value) : Met l y_ProofDesk_forget (zc y_ProofDesk_forget b_ProofDesk_forget 2 (some .int)) ({ frames := 1, cells := 0, slots := 0, locals := 23 }) (zPc D (zty cI cB cZ cS) [(h0, .inr (11, [h0_0, h0_1, .ref sh, h0_3, h0_4, h0_5, h0_6, h0_7, h0_8])), (sh, .inr (5, [sh_0, sh_1, sh_2, .int 0, sh_4, sh_5, sh_6, sh_7, sh_8, sh_9, sh_10]))] sz [.ref h0, .int 0]) (va_Qi (fun (r : Int32) (_ : Unit) => r = 0) (fun _ t => va_P D zcl [(h0, .inr (11, [h0_0, h0_1, .ref sh, h0_3, h0_4, h0_5, h0_6, h0_7, h0_8])), (sh, .inr (5, [sh_0, sh_1, sh_2, .int 0, sh_4, sh_5, sh_6, sh_7, sh_8, sh_9, sh_10]))] t.heap ∧ va_D (va_A [(h0, .inr (11, [h0_0, h0_1, .ref sh, h0_3, h0_4, h0_5, h0_6, h0_7, h0_8])), (sh, .inr (5, [sh_0, sh_1, sh_2, .int 0, sh_4, sh_5, sh_6, sh_7, sh_8, sh_9, sh_10]))] sz) [(h0, .inr (11, [h0_0, h0_1, .ref sh, h0_3, h0_4, h0_5, h0_6, h0_7, h0_8])), (sh, .inr (5, [sh_0, sh_1, sh_2, .int 0, sh_4, sh_5, sh_6, sh_7, sh_8, sh_9, sh_10]))]) (va_A [(h0, .inr (11, [h0_0, h0_1, .ref sh, h0_3, h0_4, h0_5, h0_6, h0_7, h0_8])), (sh, .inr (5, [sh_0, sh_1, sh_2, .int 0, sh_4, sh_5, sh_6, sh_7, sh_8, sh_9, sh_10]))] sz)) 0 0 (va_A [(h0, .inr (11, [h0_0, h0_1, .ref sh, h0_3, h0_4, h0_5, h0_6, h0_7, h0_8])), (sh, .inr (5, [sh_0, sh_1, sh_2, .int 0, sh_4, sh_5, sh_6, sh_7, sh_8, sh_9, sh_10]))] sz) := by
  refine Met.ofW (cc := b_ProofDesk_forget) (maxL := 2) (ret := (some .int)) (by decide) rfl ?_
  intro p e s m args below meth c s₁ B hml hv
  obtain ⟨rfl, hsz, hP, ⟨hK, hN⟩, hD0⟩ := hv
  have hx := B.exec
  have hb := B.bytes
  have hr := B.returns
  have hts0 := atoms_spec (ws := zc y_ProofDesk_forget b_ProofDesk_forget 2 (some .int)) B.pre
  have hts : ∀ w ∈ zw, w.before _ s = true := fun w hw => hts0 w (List.mem_cons_of_mem _ hw)
  have hown : s.vm.findClass "ProofDesk" = some m.cls := findClass_of_methodNamed B.named
  have hlocks := B.notSynchronized
  subst hsz
  have hD := hD0.self (sz := s.heap.size)
  generalize hAe : va_A [(h0, .inr (11, [h0_0, h0_1, .ref sh, h0_3, h0_4, h0_5, h0_6, h0_7, h0_8])), (sh, .inr (5, [sh_0, sh_1, sh_2, .int 0, sh_4, sh_5, sh_6, sh_7, sh_8, sh_9, sh_10]))] s.heap.size = A at hD ⊢
  have hA : ∀ q : Nat, s.heap.size ≤ q → A q := fun q h => by rw [← hAe]; exact Or.inr h
  have hS : va_S A s.heap s.heap [] := va_S.rf
  have hP : va_P D zcl [(h0, .inr (11, [h0_0, h0_1, .ref sh, h0_3, h0_4, h0_5, h0_6, h0_7, h0_8])), (sh, .inr (5, [sh_0, sh_1, sh_2, .int 0, sh_4, sh_5, sh_6, sh_7, sh_8, sh_9, sh_10]))] s.heap := hP
  have hl := lv_entry ([.ref h0, .int 0]) (n := 2) (Nat.le_of_ble_eq_true rfl)
  rw [lg_entry_eq]
  generalize (lg_sl ([.ref h0, .int 0]) ++ List.replicate (2 - (lg_sl ([.ref h0, .int 0])).length) Slot.unset).toArray = ls at hl ⊢
  have hl : lv_has ls 2 [(0, .ref h0), (1, .int 0)] := hl
  refine lv_iload_n hx hb d_ProofDesk_forget_0 rfl (lv_at hl 1 rfl) ?_
  have hc_1 : ¬ (0 : Int32) < 0 := by decide +kernel
  refine lv_if_lt hx hb d_ProofDesk_forget_1 rfl (fun h => absurd h hc_1) (fun _ => ?_)
  refine lv_iload_n hx hb d_ProofDesk_forget_4 rfl (lv_at hl 1 rfl) ?_
  refine lv_aload_n hx hb d_ProofDesk_forget_5 rfl (lv_at hl 0 rfl) ?_
  refine va_get (D := D) (ci := 11) (v := .ref sh) (C := "ProofDesk") (T := F_ProofDesk) (N := 9) hx hb hts in_ProofDesk hown hK hP 0 rfl rfl 2 (by decide) (hts _ kw_560) (fun _ h9 => h9) rfl d_ProofDesk_forget_6 ?_
  refine va_getN (D := D) (ci := 5) (v := .int 0) (C := "ProofDesk$Shelf") (T := F_Shelf) (N := 11) hx hb hts in_Shelf hown hK hP 1 rfl rfl 3 (by decide) (va_Nw.use rfl (hN _ kw_222)) (fun _ h9 => h9) rfl d_ProofDesk_forget_9 ?_
  have hc_2 : ¬ (0 : Int32) < 0 := by decide +kernel
  refine lv_icmp_gt hx hb d_ProofDesk_forget_12 rfl (fun h => absurd h hc_2) (fun _ => ?_)
  refine lv_iload_n hx hb d_ProofDesk_forget_15 rfl (lv_at hl 1 rfl) ?_
  refine lv_aload_n hx hb d_ProofDesk_forget_16 rfl (lv_at hl 0 rfl) ?_
  refine va_get (D := D) (ci := 11) (v := .ref sh) (C := "ProofDesk") (T := F_ProofDesk) (N := 9) hx hb hts in_ProofDesk hown hK hP 0 rfl rfl 2 (by decide) (hts _ kw_560) (fun _ h9 => h9) rfl d_ProofDesk_forget_17 ?_
  refine va_getN (D := D) (ci := 5) (v := .int 0) (C := "ProofDesk$Shelf") (T := F_Shelf) (N := 11) hx hb hts in_Shelf hown hK hP 1 rfl rfl 3 (by decide) (va_Nw.use rfl (hN _ kw_222)) (fun _ h9 => h9) rfl d_ProofDesk_forget_20 ?_
  have hc_3 : (0 : Int32) ≤ 0 := by decide +kernel
  refine lv_icmp_ge hx hb d_ProofDesk_forget_23 rfl (fun _ => ?_) (fun h => absurd hc_3 h)
  refine lv_aload_n hx hb d_ProofDesk_forget_40 rfl (lv_at hl 0 rfl) ?_
  refine va_get (D := D) (ci := 11) (v := .ref sh) (C := "ProofDesk") (T := F_ProofDesk) (N := 9) hx hb hts in_ProofDesk hown hK hP 0 rfl rfl 2 (by decide) (hts _ kw_560) (fun _ h9 => h9) rfl d_ProofDesk_forget_41 ?_
  refine lv_iload_n hx hb d_ProofDesk_forget_44 rfl (lv_at hl 1 rfl) ?_
  have hPc := hP.sub (ws' := [(sh, .inr (5, [sh_0, sh_1, sh_2, .int 0, sh_4, sh_5, sh_6, sh_7, sh_8, sh_9, sh_10]))]) [1] rfl
  have hDc := hD.sub (ws' := [(sh, .inr (5, [sh_0, sh_1, sh_2, .int 0, sh_4, sh_5, sh_6, sh_7, sh_8, sh_9, sh_10]))]) [1] (by decide +kernel) rfl
  have hFc := va_free (wc := [(sh, .inr (5, [sh_0, sh_1, sh_2, .int 0, sh_4, sh_5, sh_6, sh_7, sh_8, sh_9, sh_10]))]) hD hS hA [1] rfl
  have hkc : 0 + 0 ≤ 0 := by omega
  have hks : 0 + 0 ≤ 0 := by omega
  refine va_calli (va_runV (As := [.int 0]) (rest := []) ⟨hx, hb, hml, hown, hts⟩ (c_cutTo_0 l D cI cB cZ cS s.heap.size sh sh_0 sh_1 sh_2 sh_4 sh_5 sh_6 sh_7 sh_8 sh_9 sh_10) (⟨callB_of 1 hts (zgood kw_1703) rfl rfl rfl (hts _ kw_8) (hts _ kw_1700) (by decide +kernel) ⟨Nat.le_of_ble_eq_true rfl, Nat.le_of_ble_eq_true rfl⟩, hts _ kw_1701, hts _ kw_1702⟩) (zPreV hPc hK hN hDc (va_recv (q := ("ProofDesk$Shelf", F_Shelf, 11)) hK hP rfl (q0 := 1) rfl)) rfl rfl hl.1 rfl (lv_room (Nat.le_of_ble_eq_true rfl)) d_ProofDesk_forget_45 ⟨hkc, hks⟩) hS (fun q _ h => hFc q h) hFc (fun r u t H1 locs ht hvm hw hB hz1 hk1 hS => ?_)
  obtain ⟨hP1, hD1⟩ := hB
  rw [ht] at hP1
  obtain ⟨hP, hD⟩ := va_join (wr := [(h0, .inr (11, [h0_0, h0_1, .ref sh, h0_3, h0_4, h0_5, h0_6, h0_7, h0_8]))]) (w1 := [(sh, .inr (5, [sh_0, sh_1, sh_2, .int 0, sh_4, sh_5, sh_6, sh_7, sh_8, sh_9, sh_10]))]) hP hD [1] [0] rfl rfl (by decide +kernel) (by decide +kernel) hk1 hFc hP1 hD1
  generalize H1 = H at hP hS ⊢
  have hP : va_P D zcl [(h0, .inr (11, [h0_0, h0_1, .ref sh, h0_3, h0_4, h0_5, h0_6, h0_7, h0_8])), (sh, .inr (5, [sh_0, sh_1, sh_2, .int 0, sh_4, sh_5, sh_6, sh_7, sh_8, sh_9, sh_10]))] H := hP
  have hD : va_D A [(h0, .inr (11, [h0_0, h0_1, .ref sh, h0_3, h0_4, h0_5, h0_6, h0_7, h0_8])), (sh, .inr (5, [sh_0, sh_1, sh_2, .int 0, sh_4, sh_5, sh_6, sh_7, sh_8, sh_9, sh_10]))] := hD
  subst hw
  refine W.widen (k := 0) (n := 0) (by omega) (by omega) ?_
  have hP9 := hP.sub (ws' := [(h0, .inr (11, [h0_0, h0_1, .ref sh, h0_3, h0_4, h0_5, h0_6, h0_7, h0_8])), (sh, .inr (5, [sh_0, sh_1, sh_2, .int 0, sh_4, sh_5, sh_6, sh_7, sh_8, sh_9, sh_10]))]) [0, 1] rfl
  have hD9 := hD.sub (ws' := [(h0, .inr (11, [h0_0, h0_1, .ref sh, h0_3, h0_4, h0_5, h0_6, h0_7, h0_8])), (sh, .inr (5, [sh_0, sh_1, sh_2, .int 0, sh_4, sh_5, sh_6, sh_7, sh_8, sh_9, sh_10]))]) [0, 1] (by decide +kernel) rfl
  refine W.widen (k := 0) (n := 0) (by omega) (by omega) ?_
  exact W.iret (v := 0) hx hb hr (fun t ht hW => ⟨⟨0, (), rfl, rfl, by rw [ht]; exact hP9, hD9⟩, hS.F ht⟩) hS.2.2 d_ProofDesk_forget_48
abbrev b_ProofDesk_end : ByteArray := prog_1_method_4_code
abbrev y_ProofDesk_end : MethodName := ⟨"ProofDesk", "end", "(I)I"⟩
theorem d_ProofDesk_end_0 : decode b_ProofDesk_end 0 = .ok (.iload_n 1, 1) := by decide +kernel
theorem d_ProofDesk_end_1 : decode b_ProofDesk_end 1 = .ok (.ifCond .lt 18, 3) := by decide +kernel
theorem d_ProofDesk_end_19 : decode b_ProofDesk_end 19 = .ok (.iconst (-1), 1) := by decide +kernel
theorem d_ProofDesk_end_20 : decode b_ProofDesk_end 20 = .ok (.ireturn, 1) := by decide +kernel
set_option maxHeartbeats 4000000 in
set_option maxRecDepth 100000 in
theorem c_end_lo (l : Launch) (D : va_G) (cI cB cZ cS : ClassId) (sz : Nat) (h0 : Nat) (h0_0 : Value) (h0_1 : Value) (h0_2 : Value) (h0_3 : Value) (h0_4 : Value) (h0_5 : Value) (h0_6 : Value) (h0_7 : Value) (h0_8 : Value) (n : Int32) (hn : n < 0) : Met l y_ProofDesk_end (zc y_ProofDesk_end b_ProofDesk_end 3 (some .int)) ({ frames := 0, cells := 0, slots := 0, locals := 0 }) (zPc D (zty cI cB cZ cS) [(h0, .inr (11, [h0_0, h0_1, h0_2, h0_3, h0_4, h0_5, h0_6, h0_7, h0_8]))] sz [.ref h0, .int n]) (va_Qi (fun (r : Int32) (_ : Unit) => r = (-1)) (fun _ t => va_P D zcl [(h0, .inr (11, [h0_0, h0_1, h0_2, h0_3, h0_4, h0_5, h0_6, h0_7, h0_8]))] t.heap ∧ va_D (va_A [(h0, .inr (11, [h0_0, h0_1, h0_2, h0_3, h0_4, h0_5, h0_6, h0_7, h0_8]))] sz) [(h0, .inr (11, [h0_0, h0_1, h0_2, h0_3, h0_4, h0_5, h0_6, h0_7, h0_8]))]) (va_A [(h0, .inr (11, [h0_0, h0_1, h0_2, h0_3, h0_4, h0_5, h0_6, h0_7, h0_8]))] sz)) 0 0 (va_A [(h0, .inr (11, [h0_0, h0_1, h0_2, h0_3, h0_4, h0_5, h0_6, h0_7, h0_8]))] sz) := by
  refine Met.ofW (cc := b_ProofDesk_end) (maxL := 3) (ret := (some .int)) (by decide) rfl ?_
  intro p e s m args below meth c s₁ B hml hv
  obtain ⟨rfl, hsz, hP, ⟨hK, hN⟩, hD0⟩ := hv
  have hx := B.exec
  have hb := B.bytes
  have hr := B.returns
  have hts0 := atoms_spec (ws := zc y_ProofDesk_end b_ProofDesk_end 3 (some .int)) B.pre
  have hts : ∀ w ∈ zw, w.before _ s = true := fun w hw => hts0 w (List.mem_cons_of_mem _ hw)
  have hown : s.vm.findClass "ProofDesk" = some m.cls := findClass_of_methodNamed B.named
  have hlocks := B.notSynchronized
  subst hsz
  have hD := hD0.self (sz := s.heap.size)
  generalize hAe : va_A [(h0, .inr (11, [h0_0, h0_1, h0_2, h0_3, h0_4, h0_5, h0_6, h0_7, h0_8]))] s.heap.size = A at hD ⊢
  have hA : ∀ q : Nat, s.heap.size ≤ q → A q := fun q h => by rw [← hAe]; exact Or.inr h
  have hS : va_S A s.heap s.heap [] := va_S.rf
  have hP : va_P D zcl [(h0, .inr (11, [h0_0, h0_1, h0_2, h0_3, h0_4, h0_5, h0_6, h0_7, h0_8]))] s.heap := hP
  have hl := lv_entry ([.ref h0, .int n]) (n := 3) (Nat.le_of_ble_eq_true rfl)
  rw [lg_entry_eq]
  generalize (lg_sl ([.ref h0, .int n]) ++ List.replicate (3 - (lg_sl ([.ref h0, .int n])).length) Slot.unset).toArray = ls at hl ⊢
  have hl : lv_has ls 3 [(0, .ref h0), (1, .int n)] := hl
  refine lv_iload_n hx hb d_ProofDesk_end_0 rfl (lv_at hl 1 rfl) ?_
  have hc_1 : (n : Int32) < 0 := hn
  refine lv_if_lt hx hb d_ProofDesk_end_1 rfl (fun _ => ?_) (fun h => absurd hc_1 h)
  refine lv_iconst (v := (-1)) hx hb d_ProofDesk_end_19 (by decide) ?_
  have hP9 := hP.sub (ws' := [(h0, .inr (11, [h0_0, h0_1, h0_2, h0_3, h0_4, h0_5, h0_6, h0_7, h0_8]))]) [0] rfl
  have hD9 := hD.sub (ws' := [(h0, .inr (11, [h0_0, h0_1, h0_2, h0_3, h0_4, h0_5, h0_6, h0_7, h0_8]))]) [0] (by decide +kernel) rfl
  refine W.widen (k := 0) (n := 0) (by omega) (by omega) ?_
  exact W.iret (v := (-1)) hx hb hr (fun t ht hW => ⟨⟨(-1), (), rfl, rfl, by rw [ht]; exact hP9, hD9⟩, hS.F ht⟩) hS.2.2 d_ProofDesk_end_20
theorem d_ProofDesk_end_4 : decode b_ProofDesk_end 4 = .ok (.iload_n 1, 1) := by decide +kernel
theorem d_ProofDesk_end_5 : decode b_ProofDesk_end 5 = .ok (.aload_n 0, 1) := by decide +kernel
theorem d_ProofDesk_end_6 : decode b_ProofDesk_end 6 = .ok (.getfield 83, 3) := by decide +kernel
theorem d_ProofDesk_end_9 : decode b_ProofDesk_end 9 = .ok (.if_icmp .gt 10, 3) := by decide +kernel
set_option maxHeartbeats 4000000 in
set_option maxRecDepth 100000 in
theorem c_end_no (l : Launch) (D : va_G) (cI cB cZ cS : ClassId) (sz : Nat) (h0 : Nat) (bc : Int32) (h0_0 : Value) (h0_1 : Value) (h0_2 : Value) (h0_3 : Value) (h0_4 : Value) (h0_5 : Value) (h0_6 : Value) (h0_7 : Value) (n : Int32) (hn : ¬ n < 0) (hm : bc < n) : Met l y_ProofDesk_end (zc y_ProofDesk_end b_ProofDesk_end 3 (some .int)) ({ frames := 0, cells := 0, slots := 0, locals := 0 }) (zPc D (zty cI cB cZ cS) [(h0, .inr (11, [h0_0, h0_1, h0_2, h0_3, h0_4, h0_5, h0_6, h0_7, .int bc]))] sz [.ref h0, .int n]) (va_Qi (fun (r : Int32) (_ : Unit) => r = (-1)) (fun _ t => va_P D zcl [(h0, .inr (11, [h0_0, h0_1, h0_2, h0_3, h0_4, h0_5, h0_6, h0_7, .int bc]))] t.heap ∧ va_D (va_A [(h0, .inr (11, [h0_0, h0_1, h0_2, h0_3, h0_4, h0_5, h0_6, h0_7, .int bc]))] sz) [(h0, .inr (11, [h0_0, h0_1, h0_2, h0_3, h0_4, h0_5, h0_6, h0_7, .int bc]))]) (va_A [(h0, .inr (11, [h0_0, h0_1, h0_2, h0_3, h0_4, h0_5, h0_6, h0_7, .int bc]))] sz)) 0 0 (va_A [(h0, .inr (11, [h0_0, h0_1, h0_2, h0_3, h0_4, h0_5, h0_6, h0_7, .int bc]))] sz) := by
  refine Met.ofW (cc := b_ProofDesk_end) (maxL := 3) (ret := (some .int)) (by decide) rfl ?_
  intro p e s m args below meth c s₁ B hml hv
  obtain ⟨rfl, hsz, hP, ⟨hK, hN⟩, hD0⟩ := hv
  have hx := B.exec
  have hb := B.bytes
  have hr := B.returns
  have hts0 := atoms_spec (ws := zc y_ProofDesk_end b_ProofDesk_end 3 (some .int)) B.pre
  have hts : ∀ w ∈ zw, w.before _ s = true := fun w hw => hts0 w (List.mem_cons_of_mem _ hw)
  have hown : s.vm.findClass "ProofDesk" = some m.cls := findClass_of_methodNamed B.named
  have hlocks := B.notSynchronized
  subst hsz
  have hD := hD0.self (sz := s.heap.size)
  generalize hAe : va_A [(h0, .inr (11, [h0_0, h0_1, h0_2, h0_3, h0_4, h0_5, h0_6, h0_7, .int bc]))] s.heap.size = A at hD ⊢
  have hA : ∀ q : Nat, s.heap.size ≤ q → A q := fun q h => by rw [← hAe]; exact Or.inr h
  have hS : va_S A s.heap s.heap [] := va_S.rf
  have hP : va_P D zcl [(h0, .inr (11, [h0_0, h0_1, h0_2, h0_3, h0_4, h0_5, h0_6, h0_7, .int bc]))] s.heap := hP
  have hl := lv_entry ([.ref h0, .int n]) (n := 3) (Nat.le_of_ble_eq_true rfl)
  rw [lg_entry_eq]
  generalize (lg_sl ([.ref h0, .int n]) ++ List.replicate (3 - (lg_sl ([.ref h0, .int n])).length) Slot.unset).toArray = ls at hl ⊢
  have hl : lv_has ls 3 [(0, .ref h0), (1, .int n)] := hl
  refine lv_iload_n hx hb d_ProofDesk_end_0 rfl (lv_at hl 1 rfl) ?_
  have hc_1 : ¬ (n : Int32) < 0 := hn
  refine lv_if_lt hx hb d_ProofDesk_end_1 rfl (fun h => absurd h hc_1) (fun _ => ?_)
  refine lv_iload_n hx hb d_ProofDesk_end_4 rfl (lv_at hl 1 rfl) ?_
  refine lv_aload_n hx hb d_ProofDesk_end_5 rfl (lv_at hl 0 rfl) ?_
  refine va_get (D := D) (ci := 11) (v := .int bc) (C := "ProofDesk") (T := F_ProofDesk) (N := 9) hx hb hts in_ProofDesk hown hK hP 0 rfl rfl 8 (by decide) (hts _ kw_566) (fun _ h9 => h9) rfl d_ProofDesk_end_6 ?_
  have hc_2 : (bc : Int32) < n := hm
  refine lv_icmp_gt hx hb d_ProofDesk_end_9 rfl (fun _ => ?_) (fun h => absurd hc_2 h)
  refine lv_iconst (v := (-1)) hx hb d_ProofDesk_end_19 (by decide) ?_
  have hP9 := hP.sub (ws' := [(h0, .inr (11, [h0_0, h0_1, h0_2, h0_3, h0_4, h0_5, h0_6, h0_7, .int bc]))]) [0] rfl
  have hD9 := hD.sub (ws' := [(h0, .inr (11, [h0_0, h0_1, h0_2, h0_3, h0_4, h0_5, h0_6, h0_7, .int bc]))]) [0] (by decide +kernel) rfl
  refine W.widen (k := 0) (n := 0) (by omega) (by omega) ?_
  exact W.iret (v := (-1)) hx hb hr (fun t ht hW => ⟨⟨(-1), (), rfl, rfl, by rw [ht]; exact hP9, hD9⟩, hS.F ht⟩) hS.2.2 d_ProofDesk_end_20
