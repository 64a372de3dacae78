abbrev b_ProofDeskModel_isAt : ByteArray := prog_14_method_4_code
abbrev y_ProofDeskModel_isAt : MethodName := ⟨"ProofDeskModel", "isAt", "(III)Z"⟩
theorem d_ProofDeskModel_isAt_0 : decode b_ProofDeskModel_isAt 0 = .ok (.iload_n 1, 1) := by decide +kernel
theorem d_ProofDeskModel_isAt_1 : decode b_ProofDeskModel_isAt 1 = .ok (.iconst 1, 1) := by decide +kernel
theorem d_ProofDeskModel_isAt_2 : decode b_ProofDeskModel_isAt 2 = .ok (.iadd, 1) := by decide +kernel
theorem d_ProofDeskModel_isAt_3 : decode b_ProofDeskModel_isAt 3 = .ok (.aload_n 0, 1) := by decide +kernel
theorem d_ProofDeskModel_isAt_4 : decode b_ProofDeskModel_isAt 4 = .ok (.getfield 39, 3) := by decide +kernel
theorem d_ProofDeskModel_isAt_7 : decode b_ProofDeskModel_isAt 7 = .ok (.if_icmp .ge 29, 3) := by decide +kernel
theorem d_ProofDeskModel_isAt_36 : decode b_ProofDeskModel_isAt 36 = .ok (.iconst 0, 1) := by decide +kernel
theorem d_ProofDeskModel_isAt_37 : decode b_ProofDeskModel_isAt 37 = .ok (.ireturn, 1) := by decide +kernel
set_option maxHeartbeats 4000000 in
set_option maxRecDepth 100000 in
theorem e_isAt_end (l : Launch) (D : va_G) (cI cB cZ cS : ClassId) (sz : Nat) (h0 : Nat) (q : Nat) (n : Nat) (f : Nat → Int32) (g0 : Value) (g2 : Value) (g4 : Value) (g5 : Value) (g6 : Value) (g7 : Value) (g8 : Value) (g9 : Value) (g10 : Value) (g11 : Value) (g12 : Value) (g13 : Value) (g14 : Value) (g15 : Value) (g16 : Value) (g17 : Value) (g18 : Value) (g19 : Value) (g20 : Value) (g21 : Value) (g22 : Value) (g23 : Value) (g24 : Value) (g25 : Value) (g26 : Value) (g27 : Value) (g28 : Value) (g29 : Value) (g30 : Value) (g31 : Value) (g32 : Value) (g33 : Value) (g34 : Value) (g35 : Value) (g36 : Value) (g37 : Value) (g38 : Value) (g39 : Value) (g40 : Value) (g41 : Value) (g42 : Value) (g43 : Value) (g44 : Value) (g45 : Value) (g46 : Value) (g47 : Value) (g48 : Value) (g49 : Value) (g50 : Value) (g51 : Value) (g52 : Value) (g53 : Value) (g54 : Value) (g55 : Value) (L : Nat) (x : Nat) (ua : Int32) (ub : Int32) (hL : L ≤ n) (hM : n ≤ 33554432) (hx9 : L ≤ x + 1) (hx8 : x ≤ 33554432) : Met l y_ProofDeskModel_isAt (zc y_ProofDeskModel_isAt b_ProofDeskModel_isAt 4 (some .boolean)) ({ frames := 0, cells := 0, slots := 0, locals := 0 }) (zPc D (zty cI cB cZ cS) [(h0, .inr (16, [g0, .ref q, g2, .int (nI L), g4, g5, g6, g7, g8, g9, g10, g11, g12, g13, g14, g15, g16, g17, g18, g19, g20, g21, g22, g23, g24, g25, g26, g27, g28, g29, g30, g31, g32, g33, g34, g35, g36, g37, g38, g39, g40, g41, g42, g43, g44, g45, g46, g47, g48, g49, g50, g51, g52, g53, g54, g55])), (q, .inl (cI, n, .inl f))] sz [.ref h0, .int (nI x), .int ua, .int ub]) (va_Qi (fun (r : Int32) (_ : Unit) => r = 0) (fun _ t => va_P D zcl [(h0, .inr (16, [g0, .ref q, g2, .int (nI L), g4, g5, g6, g7, g8, g9, g10, g11, g12, g13, g14, g15, g16, g17, g18, g19, g20, g21, g22, g23, g24, g25, g26, g27, g28, g29, g30, g31, g32, g33, g34, g35, g36, g37, g38, g39, g40, g41, g42, g43, g44, g45, g46, g47, g48, g49, g50, g51, g52, g53, g54, g55])), (q, .inl (cI, n, .inl f))] t.heap ∧ va_D (va_A [(h0, .inr (16, [g0, .ref q, g2, .int (nI L), g4, g5, g6, g7, g8, g9, g10, g11, g12, g13, g14, g15, g16, g17, g18, g19, g20, g21, g22, g23, g24, g25, g26, g27, g28, g29, g30, g31, g32, g33, g34, g35, g36, g37, g38, g39, g40, g41, g42, g43, g44, g45, g46, g47, g48, g49, g50, g51, g52, g53, g54, g55])), (q, .inl (cI, n, .inl f))] sz) [(h0, .inr (16, [g0, .ref q, g2, .int (nI L), g4, g5, g6, g7, g8, g9, g10, g11, g12, g13, g14, g15, g16, g17, g18, g19, g20, g21, g22, g23, g24, g25, g26, g27, g28, g29, g30, g31, g32, g33, g34, g35, g36, g37, g38, g39, g40, g41, g42, g43, g44, g45, g46, g47, g48, g49, g50, g51, g52, g53, g54, g55])), (q, .inl (cI, n, .inl f))]) (va_A [(h0, .inr (16, [g0, .ref q, g2, .int (nI L), g4, g5, g6, g7, g8, g9, g10, g11, g12, g13, g14, g15, g16, g17, g18, g19, g20, g21, g22, g23, g24, g25, g26, g27, g28, g29, g30, g31, g32, g33, g34, g35, g36, g37, g38, g39, g40, g41, g42, g43, g44, g45, g46, g47, g48, g49, g50, g51, g52, g53, g54, g55])), (q, .inl (cI, n, .inl f))] sz)) 0 0 (va_A [(h0, .inr (16, [g0, .ref q, g2, .int (nI L), g4, g5, g6, g7, g8, g9, g10, g11, g12, g13, g14, g15, g16, g17, g18, g19, g20, g21, g22, g23, g24, g25, g26, g27, g28, g29, g30, g31, g32, g33, g34, g35, g36, g37, g38, g39, g40, g41, g42, g43, g44, g45, g46, g47, g48, g49, g50, g51, g52, g53, g54, g55])), (q, .inl (cI, n, .inl f))] sz) := by
  refine Met.ofW (cc := b_ProofDeskModel_isAt) (maxL := 4) (ret := (some .boolean)) (by decide) rfl ?_
  intro p e s m args below meth c s₁ B hml hv
  obtain ⟨rfl, hsz, hP, ⟨hK, hN⟩, hD0⟩ := hv
  have hx := B.exec
  have hb := B.bytes
  have hr := B.returns
  have hts0 := atoms_spec (ws := zc y_ProofDeskModel_isAt b_ProofDeskModel_isAt 4 (some .boolean)) B.pre
  have hts : ∀ w ∈ zw, w.before _ s = true := fun w hw => hts0 w (List.mem_cons_of_mem _ hw)
  have hown : s.vm.findClass "ProofDeskModel" = some m.cls := findClass_of_methodNamed B.named
  have hlocks := B.notSynchronized
  subst hsz
  have hD := hD0.self (sz := s.heap.size)
  generalize hAe : va_A [(h0, .inr (16, [g0, .ref q, g2, .int (nI L), g4, g5, g6, g7, g8, g9, g10, g11, g12, g13, g14, g15, g16, g17, g18, g19, g20, g21, g22, g23, g24, g25, g26, g27, g28, g29, g30, g31, g32, g33, g34, g35, g36, g37, g38, g39, g40, g41, g42, g43, g44, g45, g46, g47, g48, g49, g50, g51, g52, g53, g54, g55])), (q, .inl (cI, n, .inl f))] s.heap.size = A at hD ⊢
  have hA : ∀ q : Nat, s.heap.size ≤ q → A q := fun q h => by rw [← hAe]; exact Or.inr h
  have hS : va_S A s.heap s.heap [] := va_S.rf
  have hP : va_P D zcl [(h0, .inr (16, [g0, .ref q, g2, .int (nI L), g4, g5, g6, g7, g8, g9, g10, g11, g12, g13, g14, g15, g16, g17, g18, g19, g20, g21, g22, g23, g24, g25, g26, g27, g28, g29, g30, g31, g32, g33, g34, g35, g36, g37, g38, g39, g40, g41, g42, g43, g44, g45, g46, g47, g48, g49, g50, g51, g52, g53, g54, g55])), (q, .inl (cI, n, .inl f))] s.heap := hP
  have hl := lv_entry ([.ref h0, .int (nI x), .int ua, .int ub]) (n := 4) (Nat.le_of_ble_eq_true rfl)
  rw [lg_entry_eq]
  generalize (lg_sl ([.ref h0, .int (nI x), .int ua, .int ub]) ++ List.replicate (4 - (lg_sl ([.ref h0, .int (nI x), .int ua, .int ub])).length) Slot.unset).toArray = ls at hl ⊢
  have hl : lv_has ls 4 [(0, .ref h0), (1, .int (nI x)), (2, .int ua), (3, .int ub)] := hl
  refine lv_iload_n hx hb d_ProofDeskModel_isAt_0 rfl (lv_at hl 1 rfl) ?_
  refine lv_iconst (v := 1) hx hb d_ProofDeskModel_isAt_1 (by decide) ?_
  refine lv_iadd hx hb d_ProofDeskModel_isAt_2 ?_
  refine zz_i (y := nI (x + 1)) (nI_add x 1) ?_
  refine lv_aload_n hx hb d_ProofDeskModel_isAt_3 rfl (lv_at hl 0 rfl) ?_
  refine va_get (D := D) (ci := 16) (v := .int (nI L)) (C := "ProofDeskModel") (T := F_ProofDeskModel) (N := 56) hx hb hts in_ProofDeskModel hown hK hP 0 rfl rfl 3 (by decide) (hts _ kw_2127) (fun _ h9 => h9) rfl d_ProofDeskModel_isAt_4 ?_
  have hc_1 : ((nI L) : Int32) ≤ (nI (x + 1)) := nI_le (by omega) (by omega)
  refine lv_icmp_ge hx hb d_ProofDeskModel_isAt_7 rfl (fun _ => ?_) (fun h => absurd hc_1 h)
  refine lv_iconst (v := 0) hx hb d_ProofDeskModel_isAt_36 (by decide) ?_
  have hP9 := hP.sub (ws' := [(h0, .inr (16, [g0, .ref q, g2, .int (nI L), g4, g5, g6, g7, g8, g9, g10, g11, g12, g13, g14, g15, g16, g17, g18, g19, g20, g21, g22, g23, g24, g25, g26, g27, g28, g29, g30, g31, g32, g33, g34, g35, g36, g37, g38, g39, g40, g41, g42, g43, g44, g45, g46, g47, g48, g49, g50, g51, g52, g53, g54, g55])), (q, .inl (cI, n, .inl f))]) [0, 1] rfl
  have hD9 := hD.sub (ws' := [(h0, .inr (16, [g0, .ref q, g2, .int (nI L), g4, g5, g6, g7, g8, g9, g10, g11, g12, g13, g14, g15, g16, g17, g18, g19, g20, g21, g22, g23, g24, g25, g26, g27, g28, g29, g30, g31, g32, g33, g34, g35, g36, g37, g38, g39, g40, g41, g42, g43, g44, g45, g46, g47, g48, g49, g50, g51, g52, g53, g54, g55])), (q, .inl (cI, n, .inl f))]) [0, 1] (by decide +kernel) rfl
  refine W.widen (k := 0) (n := 0) (by omega) (by omega) ?_
  exact W.zret (v := 0) hx hb hr rfl (fun t ht hW => ⟨⟨0, (), rfl, rfl, by rw [ht]; exact hP9, hD9⟩, hS.F ht⟩) hS.2.2 d_ProofDeskModel_isAt_37
theorem d_ProofDeskModel_isAt_10 : decode b_ProofDeskModel_isAt 10 = .ok (.aload_n 0, 1) := by decide +kernel
theorem d_ProofDeskModel_isAt_11 : decode b_ProofDeskModel_isAt 11 = .ok (.getfield 36, 3) := by decide +kernel
theorem d_ProofDeskModel_isAt_14 : decode b_ProofDeskModel_isAt 14 = .ok (.iload_n 1, 1) := by decide +kernel
theorem d_ProofDeskModel_isAt_15 : decode b_ProofDeskModel_isAt 15 = .ok (.iaload, 1) := by decide +kernel
theorem d_ProofDeskModel_isAt_16 : decode b_ProofDeskModel_isAt 16 = .ok (.iload_n 2, 1) := by decide +kernel
theorem d_ProofDeskModel_isAt_17 : decode b_ProofDeskModel_isAt 17 = .ok (.if_icmp .ne 19, 3) := by decide +kernel
set_option maxHeartbeats 4000000 in
set_option maxRecDepth 100000 in
theorem e_isAt_a (l : Launch) (D : va_G) (cI cB cZ cS : ClassId) (sz : Nat) (h0 : Nat) (q : Nat) (n : Nat) (f : Nat → Int32) (g0 : Value) (g2 : Value) (g4 : Value) (g5 : Value) (g6 : Value) (g7 : Value) (g8 : Value) (g9 : Value) (g10 : Value) (g11 : Value) (g12 : Value) (g13 : Value) (g14 : Value) (g15 : Value) (g16 : Value) (g17 : Value) (g18 : Value) (g19 : Value) (g20 : Value) (g21 : Value) (g22 : Value) (g23 : Value) (g24 : Value) (g25 : Value) (g26 : Value) (g27 : Value) (g28 : Value) (g29 : Value) (g30 : Value) (g31 : Value) (g32 : Value) (g33 : Value) (g34 : Value) (g35 : Value) (g36 : Value) (g37 : Value) (g38 : Value) (g39 : Value) (g40 : Value) (g41 : Value) (g42 : Value) (g43 : Value) (g44 : Value) (g45 : Value) (g46 : Value) (g47 : Value) (g48 : Value) (g49 : Value) (g50 : Value) (g51 : Value) (g52 : Value) (g53 : Value) (g54 : Value) (g55 : Value) (L : Nat) (x : Nat) (ua : Int32) (ub : Int32) (hL : L ≤ n) (hM : n ≤ 33554432) (hx9 : x + 1 < L) (ha : ¬ f x = ua) : Met l y_ProofDeskModel_isAt (zc y_ProofDeskModel_isAt b_ProofDeskModel_isAt 4 (some .boolean)) ({ frames := 0, cells := 0, slots := 0, locals := 0 }) (zPc D (zty cI cB cZ cS) [(h0, .inr (16, [g0, .ref q, g2, .int (nI L), g4, g5, g6, g7, g8, g9, g10, g11, g12, g13, g14, g15, g16, g17, g18, g19, g20, g21, g22, g23, g24, g25, g26, g27, g28, g29, g30, g31, g32, g33, g34, g35, g36, g37, g38, g39, g40, g41, g42, g43, g44, g45, g46, g47, g48, g49, g50, g51, g52, g53, g54, g55])), (q, .inl (cI, n, .inl f))] sz [.ref h0, .int (nI x), .int ua, .int ub]) (va_Qi (fun (r : Int32) (_ : Unit) => r = 0) (fun _ t => va_P D zcl [(h0, .inr (16, [g0, .ref q, g2, .int (nI L), g4, g5, g6, g7, g8, g9, g10, g11, g12, g13, g14, g15, g16, g17, g18, g19, g20, g21, g22, g23, g24, g25, g26, g27, g28, g29, g30, g31, g32, g33, g34, g35, g36, g37, g38, g39, g40, g41, g42, g43, g44, g45, g46, g47, g48, g49, g50, g51, g52, g53, g54, g55])), (q, .inl (cI, n, .inl f))] t.heap ∧ va_D (va_A [(h0, .inr (16, [g0, .ref q, g2, .int (nI L), g4, g5, g6, g7, g8, g9, g10, g11, g12, g13, g14, g15, g16, g17, g18, g19, g20, g21, g22, g23, g24, g25, g26, g27, g28, g29, g30, g31, g32, g33, g34, g35, g36, g37, g38, g39, g40, g41, g42, g43, g44, g45, g46, g47, g48, g49, g50, g51, g52, g53, g54, g55])), (q, .inl (cI, n, .inl f))] sz) [(h0, .inr (16, [g0, .ref q, g2, .int (nI L), g4, g5, g6, g7, g8, g9, g10, g11, g12, g13, g14, g15, g16, g17, g18, g19, g20, g21, g22, g23, g24, g25, g26, g27, g28, g29, g30, g31, g32, g33, g34, g35, g36, g37, g38, g39, g40, g41, g42, g43, g44, g45, g46, g47, g48, g49, g50, g51, g52, g53, g54, g55])), (q, .inl (cI, n, .inl f))]) (va_A [(h0, .inr (16, [g0, .ref q, g2, .int (nI L), g4, g5, g6, g7, g8, g9, g10, g11, g12, g13, g14, g15, g16, g17, g18, g19, g20, g21, g22, g23, g24, g25, g26, g27, g28, g29, g30, g31, g32, g33, g34, g35, g36, g37, g38, g39, g40, g41, g42, g43, g44, g45, g46, g47, g48, g49, g50, g51, g52, g53, g54, g55])), (q, .inl (cI, n, .inl f))] sz)) 0 0 (va_A [(h0, .inr (16, [g0, .ref q, g2, .int (nI L), g4, g5, g6, g7, g8, g9, g10, g11, g12, g13, g14, g15, g16, g17, g18, g19, g20, g21, g22, g23, g24, g25, g26, g27, g28, g29, g30, g31, g32, g33, g34, g35, g36, g37, g38, g39, g40, g41, g42, g43, g44, g45, g46, g47, g48, g49, g50, g51, g52, g53, g54, g55])), (q, .inl (cI, n, .inl f))] sz) := by
  refine Met.ofW (cc := b_ProofDeskModel_isAt) (maxL := 4) (ret := (some .boolean)) (by decide) rfl ?_
  intro p e s m args below meth c s₁ B hml hv
  obtain ⟨rfl, hsz, hP, ⟨hK, hN⟩, hD0⟩ := hv
  have hx := B.exec
  have hb := B.bytes
  have hr := B.returns
  have hts0 := atoms_spec (ws := zc y_ProofDeskModel_isAt b_ProofDeskModel_isAt 4 (some .boolean)) B.pre
  have hts : ∀ w ∈ zw, w.before _ s = true := fun w hw => hts0 w (List.mem_cons_of_mem _ hw)
  have hown : s.vm.findClass "ProofDeskModel" = some m.cls := findClass_of_methodNamed B.named
  have hlocks := B.notSynchronized
  subst hsz
  have hD := hD0.self (sz := s.heap.size)
  generalize hAe : va_A [(h0, .inr (16, [g0, .ref q, g2, .int (nI L), g4, g5, g6, g7, g8, g9, g10, g11, g12, g13, g14, g15, g16, g17, g18, g19, g20, g21, g22, g23, g24, g25, g26, g27, g28, g29, g30, g31, g32, g33, g34, g35, g36, g37, g38, g39, g40, g41, g42, g43, g44, g45, g46, g47, g48, g49, g50, g51, g52, g53, g54, g55])), (q, .inl (cI, n, .inl f))] s.heap.size = A at hD ⊢
  have hA : ∀ q : Nat, s.heap.size ≤ q → A q := fun q h => by rw [← hAe]; exact Or.inr h
  have hS : va_S A s.heap s.heap [] := va_S.rf
  have hP : va_P D zcl [(h0, .inr (16, [g0, .ref q, g2, .int (nI L), g4, g5, g6, g7, g8, g9, g10, g11, g12, g13, g14, g15, g16, g17, g18, g19, g20, g21, g22, g23, g24, g25, g26, g27, g28, g29, g30, g31, g32, g33, g34, g35, g36, g37, g38, g39, g40, g41, g42, g43, g44, g45, g46, g47, g48, g49, g50, g51, g52, g53, g54, g55])), (q, .inl (cI, n, .inl f))] s.heap := hP
  have hl := lv_entry ([.ref h0, .int (nI x), .int ua, .int ub]) (n := 4) (Nat.le_of_ble_eq_true rfl)
  rw [lg_entry_eq]
  generalize (lg_sl ([.ref h0, .int (nI x), .int ua, .int ub]) ++ List.replicate (4 - (lg_sl ([.ref h0, .int (nI x), .int ua, .int ub])).length) Slot.unset).toArray = ls at hl ⊢
  have hl : lv_has ls 4 [(0, .ref h0), (1, .int (nI x)), (2, .int ua), (3, .int ub)] := hl
  refine lv_iload_n hx hb d_ProofDeskModel_isAt_0 rfl (lv_at hl 1 rfl) ?_
  refine lv_iconst (v := 1) hx hb d_ProofDeskModel_isAt_1 (by decide) ?_
  refine lv_iadd hx hb d_ProofDeskModel_isAt_2 ?_
  refine zz_i (y := nI (x + 1)) (nI_add x 1) ?_
  refine lv_aload_n hx hb d_ProofDeskModel_isAt_3 rfl (lv_at hl 0 rfl) ?_
  refine va_get (D := D) (ci := 16) (v := .int (nI L)) (C := "ProofDeskModel") (T := F_ProofDeskModel) (N := 56) hx hb hts in_ProofDeskModel hown hK hP 0 rfl rfl 3 (by decide) (hts _ kw_2127) (fun _ h9 => h9) rfl d_ProofDeskModel_isAt_4 ?_
  have hc_1 : ¬ ((nI L) : Int32) ≤ (nI (x + 1)) := nI_ge (by omega) (by omega)
  refine lv_icmp_ge hx hb d_ProofDeskModel_isAt_7 rfl (fun h => absurd h hc_1) (fun _ => ?_)
  refine lv_aload_n hx hb d_ProofDeskModel_isAt_10 rfl (lv_at hl 0 rfl) ?_
  refine va_get (D := D) (ci := 16) (v := .ref q) (C := "ProofDeskModel") (T := F_ProofDeskModel) (N := 56) hx hb hts in_ProofDeskModel hown hK hP 0 rfl rfl 1 (by decide) (hts _ kw_2125) (fun _ h9 => h9) rfl d_ProofDeskModel_isAt_11 ?_
  refine lv_iload_n hx hb d_ProofDeskModel_isAt_14 rfl (lv_at hl 1 rfl) ?_
  refine zz_iald (v := (f x)) hx hb hK hP 1 0 rfl rfl (i := (nI x)) x (zix_nI (by omega) (by omega)) (rfl) d_ProofDeskModel_isAt_15 ?_
  refine lv_iload_n hx hb d_ProofDeskModel_isAt_16 rfl (lv_at hl 2 rfl) ?_
  have hc_2 : ¬ ((f x) : Int32) = ua := ha
  refine lv_icmp_ne hx hb d_ProofDeskModel_isAt_17 rfl (fun _ => ?_) (fun h => absurd h hc_2)
  refine lv_iconst (v := 0) hx hb d_ProofDeskModel_isAt_36 (by decide) ?_
  have hP9 := hP.sub (ws' := [(h0, .inr (16, [g0, .ref q, g2, .int (nI L), g4, g5, g6, g7, g8, g9, g10, g11, g12, g13, g14, g15, g16, g17, g18, g19, g20, g21, g22, g23, g24, g25, g26, g27, g28, g29, g30, g31, g32, g33, g34, g35, g36, g37, g38, g39, g40, g41, g42, g43, g44, g45, g46, g47, g48, g49, g50, g51, g52, g53, g54, g55])), (q, .inl (cI, n, .inl f))]) [0, 1] rfl
  have hD9 := hD.sub (ws' := [(h0, .inr (16, [g0, .ref q, g2, .int (nI L), g4, g5, g6, g7, g8, g9, g10, g11, g12, g13, g14, g15, g16, g17, g18, g19, g20, g21, g22, g23, g24, g25, g26, g27, g28, g29, g30, g31, g32, g33, g34, g35, g36, g37, g38, g39, g40, g41, g42, g43, g44, g45, g46, g47, g48, g49, g50, g51, g52, g53, g54, g55])), (q, .inl (cI, n, .inl f))]) [0, 1] (by decide +kernel) rfl
  refine W.widen (k := 0) (n := 0) (by omega) (by omega) ?_
  exact W.zret (v := 0) hx hb hr rfl (fun t ht hW => ⟨⟨0, (), rfl, rfl, by rw [ht]; exact hP9, hD9⟩, hS.F ht⟩) hS.2.2 d_ProofDeskModel_isAt_37
theorem d_ProofDeskModel_isAt_20 : decode b_ProofDeskModel_isAt 20 = .ok (.aload_n 0, 1) := by decide +kernel
theorem d_ProofDeskModel_isAt_21 : decode b_ProofDeskModel_isAt 21 = .ok (.getfield 36, 3) := by decide +kernel
theorem d_ProofDeskModel_isAt_24 : decode b_ProofDeskModel_isAt 24 = .ok (.iload_n 1, 1) := by decide +kernel
theorem d_ProofDeskModel_isAt_25 : decode b_ProofDeskModel_isAt 25 = .ok (.iconst 1, 1) := by decide +kernel
theorem d_ProofDeskModel_isAt_26 : decode b_ProofDeskModel_isAt 26 = .ok (.iadd, 1) := by decide +kernel
theorem d_ProofDeskModel_isAt_27 : decode b_ProofDeskModel_isAt 27 = .ok (.iaload, 1) := by decide +kernel
theorem d_ProofDeskModel_isAt_28 : decode b_ProofDeskModel_isAt 28 = .ok (.iload_n 3, 1) := by decide +kernel
theorem d_ProofDeskModel_isAt_29 : decode b_ProofDeskModel_isAt 29 = .ok (.if_icmp .ne 7, 3) := by decide +kernel
set_option maxHeartbeats 4000000 in
set_option maxRecDepth 100000 in
theorem e_isAt_b (l : Launch) (D : va_G) (cI cB cZ cS : ClassId) (sz : Nat) (h0 : Nat) (q : Nat) (n : Nat) (f : Nat → Int32) (g0 : Value) (g2 : Value) (g4 : Value) (g5 : Value) (g6 : Value) (g7 : Value) (g8 : Value) (g9 : Value) (g10 : Value) (g11 : Value) (g12 : Value) (g13 : Value) (g14 : Value) (g15 : Value) (g16 : Value) (g17 : Value) (g18 : Value) (g19 : Value) (g20 : Value) (g21 : Value) (g22 : Value) (g23 : Value) (g24 : Value) (g25 : Value) (g26 : Value) (g27 : Value) (g28 : Value) (g29 : Value) (g30 : Value) (g31 : Value) (g32 : Value) (g33 : Value) (g34 : Value) (g35 : Value) (g36 : Value) (g37 : Value) (g38 : Value) (g39 : Value) (g40 : Value) (g41 : Value) (g42 : Value) (g43 : Value) (g44 : Value) (g45 : Value) (g46 : Value) (g47 : Value) (g48 : Value) (g49 : Value) (g50 : Value) (g51 : Value) (g52 : Value) (g53 : Value) (g54 : Value) (g55 : Value) (L : Nat) (x : Nat) (ua : Int32) (ub : Int32) (hL : L ≤ n) (hM : n ≤ 33554432) (hx9 : x + 1 < L) (ha : f x = ua) (hb9 : ¬ f (x + 1) = ub) : Met l y_ProofDeskModel_isAt (zc y_ProofDeskModel_isAt b_ProofDeskModel_isAt 4 (some .boolean)) ({ frames := 0, cells := 0, slots := 0, locals := 0 }) (zPc D (zty cI cB cZ cS) [(h0, .inr (16, [g0, .ref q, g2, .int (nI L), g4, g5, g6, g7, g8, g9, g10, g11, g12, g13, g14, g15, g16, g17, g18, g19, g20, g21, g22, g23, g24, g25, g26, g27, g28, g29, g30, g31, g32, g33, g34, g35, g36, g37, g38, g39, g40, g41, g42, g43, g44, g45, g46, g47, g48, g49, g50, g51, g52, g53, g54, g55])), (q, .inl (cI, n, .inl f))] sz [.ref h0, .int (nI x), .int ua, .int ub]) (va_Qi (fun (r : Int32) (_ : Unit) => r = 0) (fun _ t => va_P D zcl [(h0, .inr (16, [g0, .ref q, g2, .int (nI L), g4, g5, g6, g7, g8, g9, g10, g11, g12, g13, g14, g15, g16, g17, g18, g19, g20, g21, g22, g23, g24, g25, g26, g27, g28, g29, g30, g31, g32, g33, g34, g35, g36, g37, g38, g39, g40, g41, g42, g43, g44, g45, g46, g47, g48, g49, g50, g51, g52, g53, g54, g55])), (q, .inl (cI, n, .inl f))] t.heap ∧ va_D (va_A [(h0, .inr (16, [g0, .ref q, g2, .int (nI L), g4, g5, g6, g7, g8, g9, g10, g11, g12, g13, g14, g15, g16, g17, g18, g19, g20, g21, g22, g23, g24, g25, g26, g27, g28, g29, g30, g31, g32, g33, g34, g35, g36, g37, g38, g39, g40, g41, g42, g43, g44, g45, g46, g47, g48, g49, g50, g51, g52, g53, g54, g55])), (q, .inl (cI, n, .inl f))] sz) [(h0, .inr (16, [g0, .ref q, g2, .int (nI L), g4, g5, g6, g7, g8, g9, g10, g11, g12, g13, g14, g15, g16, g17, g18, g19, g20, g21, g22, g23, g24, g25, g26, g27, g28, g29, g30, g31, g32, g33, g34, g35, g36, g37, g38, g39, g40, g41, g42, g43, g44, g45, g46, g47, g48, g49, g50, g51, g52, g53, g54, g55])), (q, .inl (cI, n, .inl f))]) (va_A [(h0, .inr (16, [g0, .ref q, g2, .int (nI L), g4, g5, g6, g7, g8, g9, g10, g11, g12, g13, g14, g15, g16, g17, g18, g19, g20, g21, g22, g23, g24, g25, g26, g27, g28, g29, g30, g31, g32, g33, g34, g35, g36, g37, g38, g39, g40, g41, g42, g43, g44, g45, g46, g47, g48, g49, g50, g51, g52, g53, g54, g55])), (q, .inl (cI, n, .inl f))] sz)) 0 0 (va_A [(h0, .inr (16, [g0, .ref q, g2, .int (nI L), g4, g5, g6, g7, g8, g9, g10, g11, g12, g13, g14, g15, g16, g17, g18, g19, g20, g21, g22, g23, g24, g25, g26, g27, g28, g29, g30, g31, g32, g33, g34, g35, g36, g37, g38, g39, g40, g41, g42, g43, g44, g45, g46, g47, g48, g49, g50, g51, g52, g53, g54, g55])), (q, .inl (cI, n, .inl f))] sz) := by
  refine Met.ofW (cc := b_ProofDeskModel_isAt) (maxL := 4) (ret := (some .boolean)) (by decide) rfl ?_
  intro p e s m args below meth c s₁ B hml hv
  obtain ⟨rfl, hsz, hP, ⟨hK, hN⟩, hD0⟩ := hv
  have hx := B.exec
  have hb := B.bytes
  have hr := B.returns
  have hts0 := atoms_spec (ws := zc y_ProofDeskModel_isAt b_ProofDeskModel_isAt 4 (some .boolean)) B.pre
  have hts : ∀ w ∈ zw, w.before _ s = true := fun w hw => hts0 w (List.mem_cons_of_mem _ hw)
  have hown : s.vm.findClass "ProofDeskModel" = some m.cls := findClass_of_methodNamed B.named
  have hlocks := B.notSynchronized
  subst hsz
  have hD := hD0.self (sz := s.heap.size)
  generalize hAe : va_A [(h0, .inr (16, [g0, .ref q, g2, .int (nI L), g4, g5, g6, g7, g8, g9, g10, g11, g12, g13, g14, g15, g16, g17, g18, g19, g20, g21, g22, g23, g24, g25, g26, g27, g28, g29, g30, g31, g32, g33, g34, g35, g36, g37, g38, g39, g40, g41, g42, g43, g44, g45, g46, g47, g48, g49, g50, g51, g52, g53, g54, g55])), (q, .inl (cI, n, .inl f))] s.heap.size = A at hD ⊢
  have hA : ∀ q : Nat, s.heap.size ≤ q → A q := fun q h => by rw [← hAe]; exact Or.inr h
  have hS : va_S A s.heap s.heap [] := va_S.rf
  have hP : va_P D zcl [(h0, .inr (16, [g0, .ref q, g2, .int (nI L), g4, g5, g6, g7, g8, g9, g10, g11, g12, g13, g14, g15, g16, g17, g18, g19, g20, g21, g22, g23, g24, g25, g26, g27, g28, g29, g30, g31, g32, g33, g34, g35, g36, g37, g38, g39, g40, g41, g42, g43, g44, g45, g46, g47, g48, g49, g50, g51, g52, g53, g54, g55])), (q, .inl (cI, n, .inl f))] s.heap := hP
  have hl := lv_entry ([.ref h0, .int (nI x), .int ua, .int ub]) (n := 4) (Nat.le_of_ble_eq_true rfl)
  rw [lg_entry_eq]
  generalize (lg_sl ([.ref h0, .int (nI x), .int ua, .int ub]) ++ List.replicate (4 - (lg_sl ([.ref h0, .int (nI x), .int ua, .int ub])).length) Slot.unset).toArray = ls at hl ⊢
  have hl : lv_has ls 4 [(0, .ref h0), (1, .int (nI x)), (2, .int ua), (3, .int ub)] := hl
  refine lv_iload_n hx hb d_ProofDeskModel_isAt_0 rfl (lv_at hl 1 rfl) ?_
  refine lv_iconst (v := 1) hx hb d_ProofDeskModel_isAt_1 (by decide) ?_
  refine lv_iadd hx hb d_ProofDeskModel_isAt_2 ?_
  refine zz_i (y := nI (x + 1)) (nI_add x 1) ?_
  refine lv_aload_n hx hb d_ProofDeskModel_isAt_3 rfl (lv_at hl 0 rfl) ?_
  refine va_get (D := D) (ci := 16) (v := .int (nI L)) (C := "ProofDeskModel") (T := F_ProofDeskModel) (N := 56) hx hb hts in_ProofDeskModel hown hK hP 0 rfl rfl 3 (by decide) (hts _ kw_2127) (fun _ h9 => h9) rfl d_ProofDeskModel_isAt_4 ?_
  have hc_1 : ¬ ((nI L) : Int32) ≤ (nI (x + 1)) := nI_ge (by omega) (by omega)
  refine lv_icmp_ge hx hb d_ProofDeskModel_isAt_7 rfl (fun h => absurd h hc_1) (fun _ => ?_)
  refine lv_aload_n hx hb d_ProofDeskModel_isAt_10 rfl (lv_at hl 0 rfl) ?_
  refine va_get (D := D) (ci := 16) (v := .ref q) (C := "ProofDeskModel") (T := F_ProofDeskModel) (N := 56) hx hb hts in_ProofDeskModel hown hK hP 0 rfl rfl 1 (by decide) (hts _ kw_2125) (fun _ h9 => h9) rfl d_ProofDeskModel_isAt_11 ?_
  refine lv_iload_n hx hb d_ProofDeskModel_isAt_14 rfl (lv_at hl 1 rfl) ?_
  refine zz_iald (v := (f x)) hx hb hK hP 1 0 rfl rfl (i := (nI x)) x (zix_nI (by omega) (by omega)) (rfl) d_ProofDeskModel_isAt_15 ?_
  refine lv_iload_n hx hb d_ProofDeskModel_isAt_16 rfl (lv_at hl 2 rfl) ?_
  have hc_2 : ((f x) : Int32) = ua := ha
  refine lv_icmp_ne hx hb d_ProofDeskModel_isAt_17 rfl (fun h => absurd hc_2 h) (fun _ => ?_)
  refine lv_aload_n hx hb d_ProofDeskModel_isAt_20 rfl (lv_at hl 0 rfl) ?_
  refine va_get (D := D) (ci := 16) (v := .ref q) (C := "ProofDeskModel") (T := F_ProofDeskModel) (N := 56) hx hb hts in_ProofDeskModel hown hK hP 0 rfl rfl 1 (by decide) (hts _ kw_2125) (fun _ h9 => h9) rfl d_ProofDeskModel_isAt_21 ?_
  refine lv_iload_n hx hb d_ProofDeskModel_isAt_24 rfl (lv_at hl 1 rfl) ?_
  refine lv_iconst (v := 1) hx hb d_ProofDeskModel_isAt_25 (by decide) ?_
  refine lv_iadd hx hb d_ProofDeskModel_isAt_26 ?_
  refine zz_i (y := nI (x + 1)) (nI_add x 1) ?_
  refine zz_iald (v := (f (x + 1))) hx hb hK hP 1 0 rfl rfl (i := (nI (x + 1))) (x + 1) (zix_nI (by omega) (by omega)) (rfl) d_ProofDeskModel_isAt_27 ?_
  refine lv_iload_n hx hb d_ProofDeskModel_isAt_28 rfl (lv_at hl 3 rfl) ?_
  have hc_3 : ¬ ((f (x + 1)) : Int32) = ub := hb9
  refine lv_icmp_ne hx hb d_ProofDeskModel_isAt_29 rfl (fun _ => ?_) (fun h => absurd h hc_3)
  refine lv_iconst (v := 0) hx hb d_ProofDeskModel_isAt_36 (by decide) ?_
  have hP9 := hP.sub (ws' := [(h0, .inr (16, [g0, .ref q, g2, .int (nI L), g4, g5, g6, g7, g8, g9, g10, g11, g12, g13, g14, g15, g16, g17, g18, g19, g20, g21, g22, g23, g24, g25, g26, g27, g28, g29, g30, g31, g32, g33, g34, g35, g36, g37, g38, g39, g40, g41, g42, g43, g44, g45, g46, g47, g48, g49, g50, g51, g52, g53, g54, g55])), (q, .inl (cI, n, .inl f))]) [0, 1] rfl
  have hD9 := hD.sub (ws' := [(h0, .inr (16, [g0, .ref q, g2, .int (nI L), g4, g5, g6, g7, g8, g9, g10, g11, g12, g13, g14, g15, g16, g17, g18, g19, g20, g21, g22, g23, g24, g25, g26, g27, g28, g29, g30, g31, g32, g33, g34, g35, g36, g37, g38, g39, g40, g41, g42, g43, g44, g45, g46, g47, g48, g49, g50, g51, g52, g53, g54, g55])), (q, .inl (cI, n, .inl f))]) [0, 1] (by decide +kernel) rfl
  refine W.widen (k := 0) (n := 0) (by omega) (by omega) ?_
  exact W.zret (v := 0) hx hb hr rfl (fun t ht hW => ⟨⟨0, (), rfl, rfl, by rw [ht]; exact hP9, hD9⟩, hS.F ht⟩) hS.2.2 d_ProofDeskModel_isAt_37
theorem d_ProofDeskModel_isAt_32 : decode b_ProofDeskModel_isAt 32 = .ok (.iconst 1, 1) := by decide +kernel
theorem d_ProofDeskModel_isAt_33 : decode b_ProofDeskModel_isAt 33 = .ok (.goto 4, 3) := by decide +kernel
set_option maxHeartbeats 4000000 in
set_option maxRecDepth 100000 in
theorem e_isAt_y (l : Launch) (D : va_G) (cI cB cZ cS : ClassId) (sz : Nat) (h0 : Nat) (q : Nat) (n : Nat) (f : Nat → Int32) (g0 : Value) (g2 : Value) (g4 : Value) (g5 : Value) (g6 : Value) (g7 : Value) (g8 : Value) (g9 : Value) (g10 : Value) (g11 : Value) (g12 : Value) (g13 : Value) (g14 : Value) (g15 : Value) (g16 : Value) (g17 : Value) (g18 : Value) (g19 : Value) (g20 : Value) (g21 : Value) (g22 : Value) (g23 : Value) (g24 : Value) (g25 : Value) (g26 : Value) (g27 : Value) (g28 : Value) (g29 : Value) (g30 : Value) (g31 : Value) (g32 : Value) (g33 : Value) (g34 : Value) (g35 : Value) (g36 : Value) (g37 : Value) (g38 : Value) (g39 : Value) (g40 : Value) (g41 : Value) (g42 : Value) (g43 : Value) (g44 : Value) (g45 : Value) (g46 : Value) (g47 : Value) (g48 : Value) (g49 : Value) (g50 : Value) (g51 : Value) (g52 : Value) (g53 : Value) (g54 : Value) (g55 : Value) (L : Nat) (x : Nat) (ua : Int32) (ub : Int32) (hL : L ≤ n) (hM : n ≤ 33554432) (hx9 : x + 1 < L) (ha : f x = ua) (hb9 : f (x + 1) = ub) : Met l y_ProofDeskModel_isAt (zc y_ProofDeskModel_isAt b_ProofDeskModel_isAt 4 (some .boolean)) ({ frames := 0, cells := 0, slots := 0, locals := 0 }) (zPc D (zty cI cB cZ cS) [(h0, .inr (16, [g0, .ref q, g2, .int (nI L), g4, g5, g6, g7, g8, g9, g10, g11, g12, g13, g14, g15, g16, g17, g18, g19, g20, g21, g22, g23, g24, g25, g26, g27, g28, g29, g30, g31, g32, g33, g34, g35, g36, g37, g38, g39, g40, g41, g42, g43, g44, g45, g46, g47, g48, g49, g50, g51, g52, g53, g54, g55])), (q, .inl (cI, n, .inl f))] sz [.ref h0, .int (nI x), .int ua, .int ub]) (va_Qi (fun (r : Int32) (_ : Unit) => r = 1) (fun _ t => va_P D zcl [(h0, .inr (16, [g0, .ref q, g2, .int (nI L), g4, g5, g6, g7, g8, g9, g10, g11, g12, g13, g14, g15, g16, g17, g18, g19, g20, g21, g22, g23, g24, g25, g26, g27, g28, g29, g30, g31, g32, g33, g34, g35, g36, g37, g38, g39, g40, g41, g42, g43, g44, g45, g46, g47, g48, g49, g50, g51, g52, g53, g54, g55])), (q, .inl (cI, n, .inl f))] t.heap ∧ va_D (va_A [(h0, .inr (16, [g0, .ref q, g2, .int (nI L), g4, g5, g6, g7, g8, g9, g10, g11, g12, g13, g14, g15, g16, g17, g18, g19, g20, g21, g22, g23, g24, g25, g26, g27, g28, g29, g30, g31, g32, g33, g34, g35, g36, g37, g38, g39, g40, g41, g42, g43, g44, g45, g46, g47, g48, g49, g50, g51, g52, g53, g54, g55])), (q, .inl (cI, n, .inl f))] sz) [(h0, .inr (16, [g0, .ref q, g2, .int (nI L), g4, g5, g6, g7, g8, g9, g10, g11, g12, g13, g14, g15, g16, g17, g18, g19, g20, g21, g22, g23, g24, g25, g26, g27, g28, g29, g30, g31, g32, g33, g34, g35, g36, g37, g38, g39, g40, g41, g42, g43, g44, g45, g46, g47, g48, g49, g50, g51, g52, g53, g54, g55])), (q, .inl (cI, n, .inl f))]) (va_A [(h0, .inr (16, [g0, .ref q, g2, .int (nI L), g4, g5, g6, g7, g8, g9, g10, g11, g12, g13, g14, g15, g16, g17, g18, g19, g20, g21, g22, g23, g24, g25, g26, g27, g28, g29, g30, g31, g32, g33, g34, g35, g36, g37, g38, g39, g40, g41, g42, g43, g44, g45, g46, g47, g48, g49, g50, g51, g52, g53, g54, g55])), (q, .inl (cI, n, .inl f))] sz)) 0 0 (va_A [(h0, .inr (16, [g0, .ref q, g2, .int (nI L), g4, g5, g6, g7, g8, g9, g10, g11, g12, g13, g14, g15, g16, g17, g18, g19, g20, g21, g22, g23, g24, g25, g26, g27, g28, g29, g30, g31, g32, g33, g34, g35, g36, g37, g38, g39, g40, g41, g42, g43, g44, g45, g46, g47, g48, g49, g50, g51, g52, g53, g54, g55])), (q, .inl (cI, n, .inl f))] sz) := by
  refine Met.ofW (cc := b_ProofDeskModel_isAt) (maxL := 4) (ret := (some .boolean)) (by decide) rfl ?_
  intro p e s m args below meth c s₁ B hml hv
  obtain ⟨rfl, hsz, hP, ⟨hK, hN⟩, hD0⟩ := hv
  have hx := B.exec
  have hb := B.bytes
  have hr := B.returns
  have hts0 := atoms_spec (ws := zc y_ProofDeskModel_isAt b_ProofDeskModel_isAt 4 (some .boolean)) B.pre
  have hts : ∀ w ∈ zw, w.before _ s = true := fun w hw => hts0 w (List.mem_cons_of_mem _ hw)
  have hown : s.vm.findClass "ProofDeskModel" = some m.cls := findClass_of_methodNamed B.named
  have hlocks := B.notSynchronized
  subst hsz
  have hD := hD0.self (sz := s.heap.size)
  generalize hAe : va_A [(h0, .inr (16, [g0, .ref q, g2, .int (nI L), g4, g5, g6, g7, g8, g9, g10, g11, g12, g13, g14, g15, g16, g17, g18, g19, g20, g21, g22, g23, g24, g25, g26, g27, g28, g29, g30, g31, g32, g33, g34, g35, g36, g37, g38, g39, g40, g41, g42, g43, g44, g45, g46, g47, g48, g49, g50, g51, g52, g53, g54, g55])), (q, .inl (cI, n, .inl f))] s.heap.size = A at hD ⊢
  have hA : ∀ q : Nat, s.heap.size ≤ q → A q := fun q h => by rw [← hAe]; exact Or.inr h
  have hS : va_S A s.heap s.heap [] := va_S.rf
  have hP : va_P D zcl [(h0, .inr (16, [g0, .ref q, g2, .int (nI L), g4, g5, g6, g7, g8, g9, g10, g11, g12, g13, g14, g15, g16, g17, g18, g19, g20, g21, g22, g23, g24, g25, g26, g27, g28, g29, g30, g31, g32, g33, g34, g35, g36, g37, g38, g39, g40, g41, g42, g43, g44, g45, g46, g47, g48, g49, g50, g51, g52, g53, g54, g55])), (q, .inl (cI, n, .inl f))] s.heap := hP
  have hl := lv_entry ([.ref h0, .int (nI x), .int ua, .int ub]) (n := 4) (Nat.le_of_ble_eq_true rfl)
  rw [lg_entry_eq]
  generalize (lg_sl ([.ref h0, .int (nI x), .int ua, .int ub]) ++ List.replicate (4 - (lg_sl ([.ref h0, .int (nI x), .int ua, .int ub])).length) Slot.unset).toArray = ls at hl ⊢
  have hl : lv_has ls 4 [(0, .ref h0), (1, .int (nI x)), (2, .int ua), (3, .int ub)] := hl
  refine lv_iload_n hx hb d_ProofDeskModel_isAt_0 rfl (lv_at hl 1 rfl) ?_
  refine lv_iconst (v := 1) hx hb d_ProofDeskModel_isAt_1 (by decide) ?_
  refine lv_iadd hx hb d_ProofDeskModel_isAt_2 ?_
  refine zz_i (y := nI (x + 1)) (nI_add x 1) ?_
  refine lv_aload_n hx hb d_ProofDeskModel_isAt_3 rfl (lv_at hl 0 rfl) ?_
  refine va_get (D := D) (ci := 16) (v := .int (nI L)) (C := "ProofDeskModel") (T := F_ProofDeskModel) (N := 56) hx hb hts in_ProofDeskModel hown hK hP 0 rfl rfl 3 (by decide) (hts _ kw_2127) (fun _ h9 => h9) rfl d_ProofDeskModel_isAt_4 ?_
  have hc_1 : ¬ ((nI L) : Int32) ≤ (nI (x + 1)) := nI_ge (by omega) (by omega)
  refine lv_icmp_ge hx hb d_ProofDeskModel_isAt_7 rfl (fun h => absurd h hc_1) (fun _ => ?_)
  refine lv_aload_n hx hb d_ProofDeskModel_isAt_10 rfl (lv_at hl 0 rfl) ?_
  refine va_get (D := D) (ci := 16) (v := .ref q) (C := "ProofDeskModel") (T := F_ProofDeskModel) (N := 56) hx hb hts in_ProofDeskModel hown hK hP 0 rfl rfl 1 (by decide) (hts _ kw_2125) (fun _ h9 => h9) rfl d_ProofDeskModel_isAt_11 ?_
  refine lv_iload_n hx hb d_ProofDeskModel_isAt_14 rfl (lv_at hl 1 rfl) ?_
  refine zz_iald (v := (f x)) hx hb hK hP 1 0 rfl rfl (i := (nI x)) x (zix_nI (by omega) (by omega)) (rfl) d_ProofDeskModel_isAt_15 ?_
  refine lv_iload_n hx hb d_ProofDeskModel_isAt_16 rfl (lv_at hl 2 rfl) ?_
  have hc_2 : ((f x) : Int32) = ua := ha
  refine lv_icmp_ne hx hb d_ProofDeskModel_isAt_17 rfl (fun h => absurd hc_2 h) (fun _ => ?_)
  refine lv_aload_n hx hb d_ProofDeskModel_isAt_20 rfl (lv_at hl 0 rfl) ?_
  refine va_get (D := D) (ci := 16) (v := .ref q) (C := "ProofDeskModel") (T := F_ProofDeskModel) (N := 56) hx hb hts in_ProofDeskModel hown hK hP 0 rfl rfl 1 (by decide) (hts _ kw_2125) (fun _ h9 => h9) rfl d_ProofDeskModel_isAt_21 ?_
  refine lv_iload_n hx hb d_ProofDeskModel_isAt_24 rfl (lv_at hl 1 rfl) ?_
  refine lv_iconst (v := 1) hx hb d_ProofDeskModel_isAt_25 (by decide) ?_
  refine lv_iadd hx hb d_ProofDeskModel_isAt_26 ?_
  refine zz_i (y := nI (x + 1)) (nI_add x 1) ?_
  refine zz_iald (v := (f (x + 1))) hx hb hK hP 1 0 rfl rfl (i := (nI (x + 1))) (x + 1) (zix_nI (by omega) (by omega)) (rfl) d_ProofDeskModel_isAt_27 ?_
  refine lv_iload_n hx hb d_ProofDeskModel_isAt_28 rfl (lv_at hl 3 rfl) ?_
  have hc_3 : ((f (x + 1)) : Int32) = ub := hb9
  refine lv_icmp_ne hx hb d_ProofDeskModel_isAt_29 rfl (fun h => absurd hc_3 h) (fun _ => ?_)
  refine lv_iconst (v := 1) hx hb d_ProofDeskModel_isAt_32 (by decide) ?_
  refine lv_goto hx hb d_ProofDeskModel_isAt_33 rfl ?_
  have hP9 := hP.sub (ws' := [(h0, .inr (16, [g0, .ref q, g2, .int (nI L), g4, g5, g6, g7, g8, g9, g10, g11, g12, g13, g14, g15, g16, g17, g18, g19, g20, g21, g22, g23, g24, g25, g26, g27, g28, g29, g30, g31, g32, g33, g34, g35, g36, g37, g38, g39, g40, g41, g42, g43, g44, g45, g46, g47, g48, g49, g50, g51, g52, g53, g54, g55])), (q, .inl (cI, n, .inl f))]) [0, 1] rfl
  have hD9 := hD.sub (ws' := [(h0, .inr (16, [g0, .ref q, g2, .int (nI L), g4, g5, g6, g7, g8, g9, g10, g11, g12, g13, g14, g15, g16, g17, g18, g19, g20, g21, g22, g23, g24, g25, g26, g27, g28, g29, g30, g31, g32, g33, g34, g35, g36, g37, g38, g39, g40, g41, g42, g43, g44, g45, g46, g47, g48, g49, g50, g51, g52, g53, g54, g55])), (q, .inl (cI, n, .inl f))]) [0, 1] (by decide +kernel) rfl
  refine W.widen (k := 0) (n := 0) (by omega) (by omega) ?_
  exact W.zret (v := 1) hx hb hr rfl (fun t ht hW => ⟨⟨1, (), rfl, rfl, by rw [ht]; exact hP9, hD9⟩, hS.F ht⟩) hS.2.2 d_ProofDeskModel_isAt_37
abbrev b_Shelf_allowsRec : ByteArray := prog_10_method_9_code
abbrev y_Shelf_allowsRec : MethodName := ⟨"ProofDesk$Shelf", "allowsRec", "(II)Z"⟩
theorem d_Shelf_allowsRec_0 : decode b_Shelf_allowsRec 0 = .ok (.iload_n 2, 1) := by decide +kernel
theorem d_Shelf_allowsRec_1 : decode b_Shelf_allowsRec 1 = .ok (.ifCond .eq 14, 3) := by decide +kernel
theorem d_Shelf_allowsRec_15 : decode b_Shelf_allowsRec 15 = .ok (.iconst 1, 1) := by decide +kernel
theorem d_Shelf_allowsRec_16 : decode b_Shelf_allowsRec 16 = .ok (.goto 4, 3) := by decide +kernel
theorem d_Shelf_allowsRec_20 : decode b_Shelf_allowsRec 20 = .ok (.ireturn, 1) := by decide +kernel
set_option maxHeartbeats 4000000 in
set_option maxRecDepth 100000 in
theorem g_Shelf_allowsRecP (l : Launch) (D : va_G) (cI cB cZ cS : ClassId) (sz : Nat) (h0 : Nat) (q : Nat) (n : Nat) (f : Nat → Int32) (g0 : Value) (g1 : Value) (g3 : Value) (g4 : Value) (g5 : Value) (g6 : Value) (g7 : Value) (g8 : Value) (g9 : Value) (g10 : Value) (x : Nat) (hx9 : 20 * x + 7 < n) (hM : n ≤ 33554432) : Met l y_Shelf_allowsRec (zc y_Shelf_allowsRec b_Shelf_allowsRec 3 (some .boolean)) ({ frames := 0, cells := 0, slots := 0, locals := 0 }) (zPc D (zty cI cB cZ cS) [(h0, .inr (5, [g0, g1, .ref q, g3, g4, g5, g6, g7, g8, g9, g10])), (q, .inl (cI, n, .inl f))] sz [.ref h0, .int (nI x), .int 0]) (va_Qi (fun (r : Int32) (_ : Unit) => r = 1) (fun _ t => va_P D zcl [(h0, .inr (5, [g0, g1, .ref q, g3, g4, g5, g6, g7, g8, g9, g10])), (q, .inl (cI, n, .inl f))] t.heap ∧ va_D (va_A [(h0, .inr (5, [g0, g1, .ref q, g3, g4, g5, g6, g7, g8, g9, g10])), (q, .inl (cI, n, .inl f))] sz) [(h0, .inr (5, [g0, g1, .ref q, g3, g4, g5, g6, g7, g8, g9, g10])), (q, .inl (cI, n, .inl f))]) (va_A [(h0, .inr (5, [g0, g1, .ref q, g3, g4, g5, g6, g7, g8, g9, g10])), (q, .inl (cI, n, .inl f))] sz)) 0 0 (va_A [(h0, .inr (5, [g0, g1, .ref q, g3, g4, g5, g6, g7, g8, g9, g10])), (q, .inl (cI, n, .inl f))] sz) := by
  refine Met.ofW (cc := b_Shelf_allowsRec) (maxL := 3) (ret := (some .boolean)) (by decide) rfl ?_
  intro p e s m args below meth c s₁ B hml hv
  obtain ⟨rfl, hsz, hP, ⟨hK, hN⟩, hD0⟩ := hv
  have hx := B.exec
  have hb := B.bytes
  have hr := B.returns
  have hts0 := atoms_spec (ws := zc y_Shelf_allowsRec b_Shelf_allowsRec 3 (some .boolean)) B.pre
  have hts : ∀ w ∈ zw, w.before _ s = true := fun w hw => hts0 w (List.mem_cons_of_mem _ hw)
  have hown : s.vm.findClass "ProofDesk$Shelf" = some m.cls := findClass_of_methodNamed B.named
  have hlocks := B.notSynchronized
  subst hsz
  have hD := hD0.self (sz := s.heap.size)
  generalize hAe : va_A [(h0, .inr (5, [g0, g1, .ref q, g3, g4, g5, g6, g7, g8, g9, g10])), (q, .inl (cI, n, .inl f))] s.heap.size = A at hD ⊢
  have hA : ∀ q : Nat, s.heap.size ≤ q → A q := fun q h => by rw [← hAe]; exact Or.inr h
  have hS : va_S A s.heap s.heap [] := va_S.rf
  have hP : va_P D zcl [(h0, .inr (5, [g0, g1, .ref q, g3, g4, g5, g6, g7, g8, g9, g10])), (q, .inl (cI, n, .inl f))] s.heap := hP
  have hl := lv_entry ([.ref h0, .int (nI x), .int 0]) (n := 3) (Nat.le_of_ble_eq_true rfl)
  rw [lg_entry_eq]
  generalize (lg_sl ([.ref h0, .int (nI x), .int 0]) ++ List.replicate (3 - (lg_sl ([.ref h0, .int (nI x), .int 0])).length) Slot.unset).toArray = ls at hl ⊢
  have hl : lv_has ls 3 [(0, .ref h0), (1, .int (nI x)), (2, .int 0)] := hl
  refine lv_iload_n hx hb d_Shelf_allowsRec_0 rfl (lv_at hl 2 rfl) ?_
  have hc_1 : (0 : Int32) = 0 := by decide +kernel
  refine lv_if_eq hx hb d_Shelf_allowsRec_1 rfl (fun _ => ?_) (fun h => absurd hc_1 h)
  refine lv_iconst (v := 1) hx hb d_Shelf_allowsRec_15 (by decide) ?_
  refine lv_goto hx hb d_Shelf_allowsRec_16 rfl ?_
  have hP9 := hP.sub (ws' := [(h0, .inr (5, [g0, g1, .ref q, g3, g4, g5, g6, g7, g8, g9, g10])), (q, .inl (cI, n, .inl f))]) [0, 1] rfl
  have hD9 := hD.sub (ws' := [(h0, .inr (5, [g0, g1, .ref q, g3, g4, g5, g6, g7, g8, g9, g10])), (q, .inl (cI, n, .inl f))]) [0, 1] (by decide +kernel) rfl
  refine W.widen (k := 0) (n := 0) (by omega) (by omega) ?_
  exact W.zret (v := 1) hx hb hr rfl (fun t ht hW => ⟨⟨1, (), rfl, rfl, by rw [ht]; exact hP9, hD9⟩, hS.F ht⟩) hS.2.2 d_Shelf_allowsRec_20
theorem d_Shelf_allowsRec_4 : decode b_Shelf_allowsRec 4 = .ok (.aload_n 0, 1) := by decide +kernel
theorem d_Shelf_allowsRec_5 : decode b_Shelf_allowsRec 5 = .ok (.iload_n 1, 1) := by decide +kernel
theorem d_Shelf_allowsRec_6 : decode b_Shelf_allowsRec 6 = .ok (.bipush 7, 2) := by decide +kernel
theorem d_Shelf_allowsRec_8 : decode b_Shelf_allowsRec 8 = .ok (.invokevirtual 67, 3) := by decide +kernel
set_option maxRecDepth 100000 in
theorem kw_1063 : (Jvm.Cond.code ({ cls := "ProofDesk$Shelf", name := "get", desc := "(II)I" } : Jvm.MethodName) prog_10_method_3_code (3 : Nat) (Option.some Jvm.ClassFile.FieldType.int)) ∈ zw := List.mem_filter.mpr ⟨List.mem_append_right _ (List.mem_of_getElem? (i := 1063) rfl), by decide +kernel⟩
theorem kw_1060 : (Jvm.Cond.methodLink "ProofDesk$Shelf" (67 : Nat) ({ cls := "ProofDesk$Shelf", name := "get", desc := "(II)I" } : Jvm.MethodName)) ∈ zw := List.mem_filter.mpr ⟨List.mem_append_right _ (List.mem_of_getElem? (i := 1060) (by decide +kernel)), by decide +kernel⟩
theorem kw_1061 : (Jvm.Cond.instanceMethod ({ cls := "ProofDesk$Shelf", name := "get", desc := "(II)I" } : Jvm.MethodName)) ∈ zw := List.mem_filter.mpr ⟨List.mem_append_right _ (List.mem_of_getElem? (i := 1061) (by decide +kernel)), by decide +kernel⟩
theorem kw_1062 : (Jvm.Cond.selects "ProofDesk$Shelf" ({ cls := "ProofDesk$Shelf", name := "get", desc := "(II)I" } : Jvm.MethodName) ({ cls := "ProofDesk$Shelf", name := "get", desc := "(II)I" } : Jvm.MethodName)) ∈ zw := List.mem_filter.mpr ⟨List.mem_append_right _ (List.mem_of_getElem? (i := 1062) (by decide +kernel)), by decide +kernel⟩
theorem d_Shelf_allowsRec_11 : decode b_Shelf_allowsRec 11 = .ok (.iconst 1, 1) := by decide +kernel
theorem d_Shelf_allowsRec_12 : decode b_Shelf_allowsRec 12 = .ok (.if_icmp .ne 7, 3) := by decide +kernel
set_option maxHeartbeats 4000000 in
set_option maxRecDepth 100000 in
theorem g_Shelf_allowsRec1 (l : Launch) (D : va_G) (cI cB cZ cS : ClassId) (sz : Nat) (h0 : Nat) (q : Nat) (n : Nat) (f : Nat → Int32) (g0 : Value) (g1 : Value) (g3 : Value) (g4 : Value) (g5 : Value) (g6 : Value) (g7 : Value) (g8 : Value) (g9 : Value) (g10 : Value) (x : Nat) (lv9 : Int32) (hx9 : 20 * x + 7 < n) (hM : n ≤ 33554432) (hl9 : ¬ lv9 = 0) (hf : f (20 * x + 7) = 1) : Met l y_Shelf_allowsRec (zc y_Shelf_allowsRec b_Shelf_allowsRec 3 (some .boolean)) ({ frames := 1, cells := 0, slots := 0, locals := 22 }) (zPc D (zty cI cB cZ cS) [(h0, .inr (5, [g0, g1, .ref q, g3, g4, g5, g6, g7, g8, g9, g10])), (q, .inl (cI, n, .inl f))] sz [.ref h0, .int (nI x), .int lv9]) (va_Qi (fun (r : Int32) (_ : Unit) => r = 1) (fun _ t => va_P D zcl [(h0, .inr (5, [g0, g1, .ref q, g3, g4, g5, g6, g7, g8, g9, g10])), (q, .inl (cI, n, .inl f))] t.heap ∧ va_D (va_A [(h0, .inr (5, [g0, g1, .ref q, g3, g4, g5, g6, g7, g8, g9, g10])), (q, .inl (cI, n, .inl f))] sz) [(h0, .inr (5, [g0, g1, .ref q, g3, g4, g5, g6, g7, g8, g9, g10])), (q, .inl (cI, n, .inl f))]) (va_A [(h0, .inr (5, [g0, g1, .ref q, g3, g4, g5, g6, g7, g8, g9, g10])), (q, .inl (cI, n, .inl f))] sz)) 0 0 (va_A [(h0, .inr (5, [g0, g1, .ref q, g3, g4, g5, g6, g7, g8, g9, g10])), (q, .inl (cI, n, .inl f))] sz) := by
  refine Met.ofW (cc := b_Shelf_allowsRec) (maxL := 3) (ret := (some .boolean)) (by decide) rfl ?_
  intro p e s m args below meth c s₁ B hml hv
  obtain ⟨rfl, hsz, hP, ⟨hK, hN⟩, hD0⟩ := hv
  have hx := B.exec
  have hb := B.bytes
  have hr := B.returns
  have hts0 := atoms_spec (ws := zc y_Shelf_allowsRec b_Shelf_allowsRec 3 (some .boolean)) B.pre
  have hts : ∀ w ∈ zw, w.before _ s = true := fun w hw => hts0 w (List.mem_cons_of_mem _ hw)
  have hown : s.vm.findClass "ProofDesk$Shelf" = some m.cls := findClass_of_methodNamed B.named
  have hlocks := B.notSynchronized
  subst hsz
  have hD := hD0.self (sz := s.heap.size)
  generalize hAe : va_A [(h0, .inr (5, [g0, g1, .ref q, g3, g4, g5, g6, g7, g8, g9, g10])), (q, .inl (cI, n, .inl f))] s.heap.size = A at hD ⊢
  have hA : ∀ q : Nat, s.heap.size ≤ q → A q := fun q h => by rw [← hAe]; exact Or.inr h
  have hS : va_S A s.heap s.heap [] := va_S.rf
  have hP : va_P D zcl [(h0, .inr (5, [g0, g1, .ref q, g3, g4, g5, g6, g7, g8, g9, g10])), (q, .inl (cI, n, .inl f))] s.heap := hP
  have hl := lv_entry ([.ref h0, .int (nI x), .int lv9]) (n := 3) (Nat.le_of_ble_eq_true rfl)
  rw [lg_entry_eq]
  generalize (lg_sl ([.ref h0, .int (nI x), .int lv9]) ++ List.replicate (3 - (lg_sl ([.ref h0, .int (nI x), .int lv9])).length) Slot.unset).toArray = ls at hl ⊢
  have hl : lv_has ls 3 [(0, .ref h0), (1, .int (nI x)), (2, .int lv9)] := hl
  refine lv_iload_n hx hb d_Shelf_allowsRec_0 rfl (lv_at hl 2 rfl) ?_
  have hc_1 : ¬ (lv9 : Int32) = 0 := hl9
  refine lv_if_eq hx hb d_Shelf_allowsRec_1 rfl (fun h => absurd h hc_1) (fun _ => ?_)
  refine lv_aload_n hx hb d_Shelf_allowsRec_4 rfl (lv_at hl 0 rfl) ?_
  refine lv_iload_n hx hb d_Shelf_allowsRec_5 rfl (lv_at hl 1 rfl) ?_
  refine lv_bipush (v := 7) hx hb d_Shelf_allowsRec_6 (by decide) ?_
  have hPc := hP.sub (ws' := [(h0, .inr (5, [g0, g1, .ref q, g3, g4, g5, g6, g7, g8, g9, g10])), (q, .inl (cI, n, .inl f))]) [0, 1] rfl
  have hDc := hD.sub (ws' := [(h0, .inr (5, [g0, g1, .ref q, g3, g4, g5, g6, g7, g8, g9, g10])), (q, .inl (cI, n, .inl f))]) [0, 1] (by decide +kernel) rfl
  have hFc := va_free (wc := [(h0, .inr (5, [g0, g1, .ref q, g3, g4, g5, g6, g7, g8, g9, g10])), (q, .inl (cI, n, .inl f))]) hD hS hA [0, 1] rfl
  have hkc : 0 + 0 ≤ 0 := by omega
  have hks : 0 + 0 ≤ 0 := by omega
  refine va_calli (va_runV (As := [.int (nI x), .int 7]) (rest := []) ⟨hx, hb, hml, hown, hts⟩ (g_Shelf_get l D cI cB cZ cS s.heap.size h0 q n f g0 g1 g3 g4 g5 g6 g7 g8 g9 g10 x 7 (by omega) (by omega)) (⟨callB_of 2 hts (zgood kw_1063) rfl rfl rfl (hts _ kw_8) (hts _ kw_1060) (by decide +kernel) ⟨Nat.le_of_ble_eq_true rfl, Nat.le_of_ble_eq_true rfl⟩, hts _ kw_1061, hts _ kw_1062⟩) (zPreV hPc hK hN hDc (va_recv (q := ("ProofDesk$Shelf", F_Shelf, 11)) hK hP rfl (q0 := 0) rfl)) rfl rfl hl.1 rfl (lv_room (Nat.le_of_ble_eq_true rfl)) d_Shelf_allowsRec_8 ⟨hkc, hks⟩) hS (fun q _ h => hFc q h) hFc (fun r u t H1 locs ht hvm hw hB hz1 hk1 hS => ?_)
  obtain ⟨hP1, hD1⟩ := hB
  rw [ht] at hP1
  obtain ⟨hP, hD⟩ := va_join (wr := []) (w1 := [(h0, .inr (5, [g0, g1, .ref q, g3, g4, g5, g6, g7, g8, g9, g10])), (q, .inl (cI, n, .inl f))]) hP hD [0, 1] [] rfl rfl (by decide +kernel) (by decide +kernel) hk1 hFc hP1 hD1
  generalize H1 = H at hP hS ⊢
  have hP : va_P D zcl [(h0, .inr (5, [g0, g1, .ref q, g3, g4, g5, g6, g7, g8, g9, g10])), (q, .inl (cI, n, .inl f))] H := hP
  have hD : va_D A [(h0, .inr (5, [g0, g1, .ref q, g3, g4, g5, g6, g7, g8, g9, g10])), (q, .inl (cI, n, .inl f))] := hD
  subst hw
  refine W.widen (k := 0) (n := 0) (by omega) (by omega) ?_
  refine lv_iconst (v := 1) hx hb d_Shelf_allowsRec_11 (by decide) ?_
  have hc_2 : ((f (20 * x + 7)) : Int32) = 1 := hf
  refine lv_icmp_ne hx hb d_Shelf_allowsRec_12 rfl (fun h => absurd hc_2 h) (fun _ => ?_)
  refine lv_iconst (v := 1) hx hb d_Shelf_allowsRec_15 (by decide) ?_
  refine lv_goto hx hb d_Shelf_allowsRec_16 rfl ?_
  have hP9 := hP.sub (ws' := [(h0, .inr (5, [g0, g1, .ref q, g3, g4, g5, g6, g7, g8, g9, g10])), (q, .inl (cI, n, .inl f))]) [0, 1] rfl
  have hD9 := hD.sub (ws' := [(h0, .inr (5, [g0, g1, .ref q, g3, g4, g5, g6, g7, g8, g9, g10])), (q, .inl (cI, n, .inl f))]) [0, 1] (by decide +kernel) rfl
  refine W.widen (k := 0) (n := 0) (by omega) (by omega) ?_
  exact W.zret (v := 1) hx hb hr rfl (fun t ht hW => ⟨⟨1, (), rfl, rfl, by rw [ht]; exact hP9, hD9⟩, hS.F ht⟩) hS.2.2 d_Shelf_allowsRec_20
theorem d_Shelf_allowsRec_19 : decode b_Shelf_allowsRec 19 = .ok (.iconst 0, 1) := by decide +kernel
set_option maxHeartbeats 4000000 in
set_option maxRecDepth 100000 in
theorem g_Shelf_allowsRec0 (l : Launch) (D : va_G) (cI cB cZ cS : ClassId) (sz : Nat) (h0 : Nat) (q : Nat) (n : Nat) (f : Nat → Int32) (g0 : Value) (g1 : Value) (g3 : Value) (g4 : Value) (g5 : Value) (g6 : Value) (g7 : Value) (g8 : Value) (g9 : Value) (g10 : Value) (x : Nat) (lv9 : Int32) (hx9 : 20 * x + 7 < n) (hM : n ≤ 33554432) (hl9 : ¬ lv9 = 0) (hf : ¬ f (20 * x + 7) = 1) : Met l y_Shelf_allowsRec (zc y_Shelf_allowsRec b_Shelf_allowsRec 3 (some .boolean)) ({ frames := 1, cells := 0, slots := 0, locals := 22 }) (zPc D (zty cI cB cZ cS) [(h0, .inr (5, [g0, g1, .ref q, g3, g4, g5, g6, g7, g8, g9, g10])), (q, .inl (cI, n, .inl f))] sz [.ref h0, .int (nI x), .int lv9]) (va_Qi (fun (r : Int32) (_ : Unit) => r = 0) (fun _ t => va_P D zcl [(h0, .inr (5, [g0, g1, .ref q, g3, g4, g5, g6, g7, g8, g9, g10])), (q, .inl (cI, n, .inl f))] t.heap ∧ va_D (va_A [(h0, .inr (5, [g0, g1, .ref q, g3, g4, g5, g6, g7, g8, g9, g10])), (q, .inl (cI, n, .inl f))] sz) [(h0, .inr (5, [g0, g1, .ref q, g3, g4, g5, g6, g7, g8, g9, g10])), (q, .inl (cI, n, .inl f))]) (va_A [(h0, .inr (5, [g0, g1, .ref q, g3, g4, g5, g6, g7, g8, g9, g10])), (q, .inl (cI, n, .inl f))] sz)) 0 0 (va_A [(h0, .inr (5, [g0, g1, .ref q, g3, g4, g5, g6, g7, g8, g9, g10])), (q, .inl (cI, n, .inl f))] sz) := by
  refine Met.ofW (cc := b_Shelf_allowsRec) (maxL := 3) (ret := (some .boolean)) (by decide) rfl ?_
  intro p e s m args below meth c s₁ B hml hv
  obtain ⟨rfl, hsz, hP, ⟨hK, hN⟩, hD0⟩ := hv
  have hx := B.exec
  have hb := B.bytes
  have hr := B.returns
  have hts0 := atoms_spec (ws := zc y_Shelf_allowsRec b_Shelf_allowsRec 3 (some .boolean)) B.pre
  have hts : ∀ w ∈ zw, w.before _ s = true := fun w hw => hts0 w (List.mem_cons_of_mem _ hw)
  have hown : s.vm.findClass "ProofDesk$Shelf" = some m.cls := findClass_of_methodNamed B.named
  have hlocks := B.notSynchronized
  subst hsz
  have hD := hD0.self (sz := s.heap.size)
  generalize hAe : va_A [(h0, .inr (5, [g0, g1, .ref q, g3, g4, g5, g6, g7, g8, g9, g10])), (q, .inl (cI, n, .inl f))] s.heap.size = A at hD ⊢
  have hA : ∀ q : Nat, s.heap.size ≤ q → A q := fun q h => by rw [← hAe]; exact Or.inr h
  have hS : va_S A s.heap s.heap [] := va_S.rf
  have hP : va_P D zcl [(h0, .inr (5, [g0, g1, .ref q, g3, g4, g5, g6, g7, g8, g9, g10])), (q, .inl (cI, n, .inl f))] s.heap := hP
  have hl := lv_entry ([.ref h0, .int (nI x), .int lv9]) (n := 3) (Nat.le_of_ble_eq_true rfl)
  rw [lg_entry_eq]
  generalize (lg_sl ([.ref h0, .int (nI x), .int lv9]) ++ List.replicate (3 - (lg_sl ([.ref h0, .int (nI x), .int lv9])).length) Slot.unset).toArray = ls at hl ⊢
  have hl : lv_has ls 3 [(0, .ref h0), (1, .int (nI x)), (2, .int lv9)] := hl
  refine lv_iload_n hx hb d_Shelf_allowsRec_0 rfl (lv_at hl 2 rfl) ?_
  have hc_1 : ¬ (lv9 : Int32) = 0 := hl9
  refine lv_if_eq hx hb d_Shelf_allowsRec_1 rfl (fun h => absurd h hc_1) (fun _ => ?_)
  refine lv_aload_n hx hb d_Shelf_allowsRec_4 rfl (lv_at hl 0 rfl) ?_
  refine lv_iload_n hx hb d_Shelf_allowsRec_5 rfl (lv_at hl 1 rfl) ?_
  refine lv_bipush (v := 7) hx hb d_Shelf_allowsRec_6 (by decide) ?_
  have hPc := hP.sub (ws' := [(h0, .inr (5, [g0, g1, .ref q, g3, g4, g5, g6, g7, g8, g9, g10])), (q, .inl (cI, n, .inl f))]) [0, 1] rfl
  have hDc := hD.sub (ws' := [(h0, .inr (5, [g0, g1, .ref q, g3, g4, g5, g6, g7, g8, g9, g10])), (q, .inl (cI, n, .inl f))]) [0, 1] (by decide +kernel) rfl
  have hFc := va_free (wc := [(h0, .inr (5, [g0, g1, .ref q, g3, g4, g5, g6, g7, g8, g9, g10])), (q, .inl (cI, n, .inl f))]) hD hS hA [0, 1] rfl
  have hkc : 0 + 0 ≤ 0 := by omega
  have hks : 0 + 0 ≤ 0 := by omega
  refine va_calli (va_runV (As := [.int (nI x), .int 7]) (rest := []) ⟨hx, hb, hml, hown, hts⟩ (g_Shelf_get l D cI cB cZ cS s.heap.size h0 q n f g0 g1 g3 g4 g5 g6 g7 g8 g9 g10 x 7 (by omega) (by omega)) (⟨callB_of 2 hts (zgood kw_1063) rfl rfl rfl (hts _ kw_8) (hts _ kw_1060) (by decide +kernel) ⟨Nat.le_of_ble_eq_true rfl, Nat.le_of_ble_eq_true rfl⟩, hts _ kw_1061, hts _ kw_1062⟩) (zPreV hPc hK hN hDc (va_recv (q := ("ProofDesk$Shelf", F_Shelf, 11)) hK hP rfl (q0 := 0) rfl)) rfl rfl hl.1 rfl (lv_room (Nat.le_of_ble_eq_true rfl)) d_Shelf_allowsRec_8 ⟨hkc, hks⟩) hS (fun q _ h => hFc q h) hFc (fun r u t H1 locs ht hvm hw hB hz1 hk1 hS => ?_)
  obtain ⟨hP1, hD1⟩ := hB
  rw [ht] at hP1
  obtain ⟨hP, hD⟩ := va_join (wr := []) (w1 := [(h0, .inr (5, [g0, g1, .ref q, g3, g4, g5, g6, g7, g8, g9, g10])), (q, .inl (cI, n, .inl f))]) hP hD [0, 1] [] rfl rfl (by decide +kernel) (by decide +kernel) hk1 hFc hP1 hD1
  generalize H1 = H at hP hS ⊢
  have hP : va_P D zcl [(h0, .inr (5, [g0, g1, .ref q, g3, g4, g5, g6, g7, g8, g9, g10])), (q, .inl (cI, n, .inl f))] H := hP
  have hD : va_D A [(h0, .inr (5, [g0, g1, .ref q, g3, g4, g5, g6, g7, g8, g9, g10])), (q, .inl (cI, n, .inl f))] := hD
  subst hw
  refine W.widen (k := 0) (n := 0) (by omega) (by omega) ?_
  refine lv_iconst (v := 1) hx hb d_Shelf_allowsRec_11 (by decide) ?_
  have hc_2 : ¬ ((f (20 * x + 7)) : Int32) = 1 := hf
  refine lv_icmp_ne hx hb d_Shelf_allowsRec_12 rfl (fun _ => ?_) (fun h => absurd h hc_2)
  refine lv_iconst (v := 0) hx hb d_Shelf_allowsRec_19 (by decide) ?_
  have hP9 := hP.sub (ws' := [(h0, .inr (5, [g0, g1, .ref q, g3, g4, g5, g6, g7, g8, g9, g10])), (q, .inl (cI, n, .inl f))]) [0, 1] rfl
  have hD9 := hD.sub (ws' := [(h0, .inr (5, [g0, g1, .ref q, g3, g4, g5, g6, g7, g8, g9, g10])), (q, .inl (cI, n, .inl f))]) [0, 1] (by decide +kernel) rfl
  refine W.widen (k := 0) (n := 0) (by omega) (by omega) ?_
  exact W.zret (v := 0) hx hb hr rfl (fun t ht hW => ⟨⟨0, (), rfl, rfl, by rw [ht]; exact hP9, hD9⟩, hS.F ht⟩) hS.2.2 d_Shelf_allowsRec_20
