abbrev b_MRows_wide : ByteArray := prog_17_method_2_code
abbrev y_MRows_wide : MethodName := ⟨"ProofDeskModel$Rows", "wide", "([I)[I"⟩
theorem d_MRows_wide_0 : decode b_MRows_wide 0 = .ok (.iconst 2, 1) := by decide +kernel
theorem d_MRows_wide_1 : decode b_MRows_wide 1 = .ok (.aload_n 0, 1) := by decide +kernel
theorem d_MRows_wide_2 : decode b_MRows_wide 2 = .ok (.arraylength, 1) := by decide +kernel
theorem d_MRows_wide_3 : decode b_MRows_wide 3 = .ok (.imul, 1) := by decide +kernel
theorem d_MRows_wide_4 : decode b_MRows_wide 4 = .ok (.newarray .int, 2) := by decide +kernel
theorem d_MRows_wide_6 : decode b_MRows_wide 6 = .ok (.astore_n 1, 1) := by decide +kernel
theorem d_MRows_wide_7 : decode b_MRows_wide 7 = .ok (.aload_n 0, 1) := by decide +kernel
theorem d_MRows_wide_8 : decode b_MRows_wide 8 = .ok (.iconst 0, 1) := by decide +kernel
theorem d_MRows_wide_9 : decode b_MRows_wide 9 = .ok (.aload_n 1, 1) := by decide +kernel
theorem d_MRows_wide_10 : decode b_MRows_wide 10 = .ok (.iconst 0, 1) := by decide +kernel
theorem d_MRows_wide_11 : decode b_MRows_wide 11 = .ok (.aload_n 0, 1) := by decide +kernel
theorem d_MRows_wide_12 : decode b_MRows_wide 12 = .ok (.arraylength, 1) := by decide +kernel
theorem d_MRows_wide_13 : decode b_MRows_wide 13 = .ok (.invokestatic 31, 3) := by decide +kernel
theorem kw_2014 : (Jvm.Cond.methodLink "ProofDeskModel$Rows" (31 : Nat) ({ cls := "java/lang/System", name := "arraycopy", desc := "(Ljava/lang/Object;ILjava/lang/Object;II)V" } : Jvm.MethodName)) ∈ zw := List.mem_filter.mpr ⟨List.mem_append_right _ (List.mem_of_getElem? (i := 2014) (by decide +kernel)), by decide +kernel⟩
theorem d_MRows_wide_16 : decode b_MRows_wide 16 = .ok (.aload_n 1, 1) := by decide +kernel
theorem d_MRows_wide_17 : decode b_MRows_wide 17 = .ok (.areturn, 1) := by decide +kernel
set_option maxHeartbeats 4000000 in
set_option maxRecDepth 100000 in
theorem e_wide (l : Launch) (D : va_G) (cI cB cZ cS : ClassId) (sz : Nat) (a : Nat) (n : Nat) (f : Nat → Int32) (hN : n ≤ 33554432) : Met l y_MRows_wide (zc y_MRows_wide b_MRows_wide 2 (some (.array .int))) ({ frames := 1, cells := 1, slots := 2 * n, locals := 40 }) (zPc D (zty cI cB cZ cS) [(a, .inl (cI, n, .inl f))] sz [.ref a]) (va_Qr (fun _ : Unit => True) (fun _ ra t => va_P D zcl [(a, .inl (cI, n, .inl f)), (ra, .inl (cI, (2 * n), .inl (zcp f n)))] t.heap ∧ va_D (va_A [(a, .inl (cI, n, .inl f))] sz) [(a, .inl (cI, n, .inl f)), (ra, .inl (cI, (2 * n), .inl (zcp f n)))]) (va_A [(a, .inl (cI, n, .inl f))] sz)) 1 (2 * n) (va_A [(a, .inl (cI, n, .inl f))] sz) := by
  refine Met.ofW (cc := b_MRows_wide) (maxL := 2) (ret := (some (.array .int))) (by decide) rfl ?_
  intro p e s m args below meth c s₁ B hml hv
  obtain ⟨rfl, hsz, hP, ⟨hK, hN⟩, hD0⟩ := hv
  have hx := B.exec
  have hb := B.bytes
  have hr := B.returns
  have hts0 := atoms_spec (ws := zc y_MRows_wide b_MRows_wide 2 (some (.array .int))) B.pre
  have hts : ∀ w ∈ zw, w.before _ s = true := fun w hw => hts0 w (List.mem_cons_of_mem _ hw)
  have hown : s.vm.findClass "ProofDeskModel$Rows" = some m.cls := findClass_of_methodNamed B.named
  have hlocks := B.notSynchronized
  subst hsz
  have hD := hD0.self (sz := s.heap.size)
  generalize hAe : va_A [(a, .inl (cI, n, .inl f))] s.heap.size = A at hD ⊢
  have hA : ∀ q : Nat, s.heap.size ≤ q → A q := fun q h => by rw [← hAe]; exact Or.inr h
  have hS : va_S A s.heap s.heap [] := va_S.rf
  have hP : va_P D zcl [(a, .inl (cI, n, .inl f))] s.heap := hP
  have hl := lv_entry ([.ref a]) (n := 2) (Nat.le_of_ble_eq_true rfl)
  rw [lg_entry_eq]
  generalize (lg_sl ([.ref a]) ++ List.replicate (2 - (lg_sl ([.ref a])).length) Slot.unset).toArray = ls at hl ⊢
  have hl : lv_has ls 2 [(0, .ref a)] := hl
  refine lv_iconst (v := 2) hx hb d_MRows_wide_0 (by decide) ?_
  refine lv_aload_n hx hb d_MRows_wide_1 rfl (lv_at hl 0 rfl) ?_
  refine va_alen (v := (nI n)) hx hb hK hP 0 0 rfl rfl rfl d_MRows_wide_2 ?_
  refine lv_imul hx hb d_MRows_wide_3 ?_
  refine zz_i (y := nI (2 * n)) (pk_mul 2 n) ?_
  have hkc : 0 + 1 ≤ 1 := by omega
  have hks : 0 + (2 * n) ≤ 2 * n := by omega
  refine zz_newa (atype := .int) (ty := .int) (cA := cI) (a0 := (2 * n, .inl (fun _ => 0))) (N' := (2 * n)) hx hb (hts _ kw_64) rfl hK hP hD hS hA 0 rfl (fun _ => rfl) (nI_pos (by omega)) (nI_clamp (by omega)) (by show 2 * n * 4 ≤ 536870912; omega) hkc hks d_MRows_wide_4 (fun q_1 H hP hD hS => ?_)
  have hP : va_P D zcl [(a, .inl (cI, n, .inl f)), (q_1, .inl (cI, (2 * n), .inl (fun _ => 0)))] H := hP
  have hD : va_D A [(a, .inl (cI, n, .inl f)), (q_1, .inl (cI, (2 * n), .inl (fun _ => 0)))] := hD
  refine W.widen (k := 1) (n := (0 + (2 * n))) (by omega) (by omega) ?_
  refine lv_astore_n (lv' := [(1, .ref q_1), (0, .ref a)]) hx hb d_MRows_wide_6 rfl hl (by decide) rfl (fun ls hl => ?_)
  refine lv_aload_n hx hb d_MRows_wide_7 rfl (lv_at hl 1 rfl) ?_
  refine lv_iconst (v := 0) hx hb d_MRows_wide_8 (by decide) ?_
  refine lv_aload_n hx hb d_MRows_wide_9 rfl (lv_at hl 0 rfl) ?_
  refine lv_iconst (v := 0) hx hb d_MRows_wide_10 (by decide) ?_
  refine lv_aload_n hx hb d_MRows_wide_11 rfl (lv_at hl 1 rfl) ?_
  refine va_alen (v := (nI n)) hx hb hK hP 0 0 rfl rfl rfl d_MRows_wide_12 ?_
  refine va_copyi (ty := .int) (sp := 0) (dp := 0) (n := (nI n)) hx hb (hml.trans hl.1.symm) hown (hts _ kw_2014) (hts _ kw_133) (hts _ kw_132) (hts _ kw_7) hK hP hD hS 0 1 0 0 rfl rfl rfl rfl rfl (by decide) (by decide) (nI_pos (by omega)) (by rw [sb_cl0, nI_clamp (by omega)]; omega) (by rw [sb_cl0, nI_clamp (by omega)]; omega) (fun _ _ => rfl) (Nat.le_of_ble_eq_true rfl) (Nat.le_of_ble_eq_true rfl) d_MRows_wide_13 (fun H locs hP hD hS => ?_)
  have hcp : va_cpy f (fun _ => 0) (0 : Int32).toNatClampNeg (0 : Int32).toNatClampNeg (nI n).toNatClampNeg = zcp f n := by
    rw [sb_cl0, nI_clamp (by omega), zcpy0]
  have hP : va_P D zcl [(a, .inl (cI, n, .inl f)), (q_1, .inl (cI, (2 * n), .inl (va_cpy f (fun _ => 0) (0 : Int32).toNatClampNeg (0 : Int32).toNatClampNeg (nI n).toNatClampNeg)))] H := hP
  have hD : va_D A [(a, .inl (cI, n, .inl f)), (q_1, .inl (cI, (2 * n), .inl (va_cpy f (fun _ => 0) (0 : Int32).toNatClampNeg (0 : Int32).toNatClampNeg (nI n).toNatClampNeg)))] := hD
  rw [hcp] at hP hD
  have hP : va_P D zcl [(a, .inl (cI, n, .inl f)), (q_1, .inl (cI, (2 * n), .inl (zcp f n)))] H := hP
  have hD : va_D A [(a, .inl (cI, n, .inl f)), (q_1, .inl (cI, (2 * n), .inl (zcp f n)))] := hD
  refine lv_aload_n hx hb d_MRows_wide_16 rfl (lv_at hl 0 rfl) ?_
  have hP9 := hP.sub (ws' := [(a, .inl (cI, n, .inl f)), (q_1, .inl (cI, (2 * n), .inl (zcp f n)))]) [0, 1] rfl
  have hD9 := hD.sub (ws' := [(a, .inl (cI, n, .inl f)), (q_1, .inl (cI, (2 * n), .inl (zcp f n)))]) [0, 1] (by decide +kernel) rfl
  refine W.widen (k := 1) (n := (2 * n)) (by omega) (by omega) ?_
  exact W.aret (v := .ref q_1) hx hb hr (by first | exact Or.inr ⟨_, rfl⟩ | exact Or.inl ⟨_, rfl⟩) (Or.inr ⟨_, rfl⟩) (fun t ht hW => ⟨⟨(), q_1, rfl, trivial, by rw [ht]; exact hP9, hD9⟩, hS.F ht⟩) hS.2.2 d_MRows_wide_17
theorem d_MPlain_room_10 : decode b_MPlain_room 10 = .ok (.aload_n 0, 1) := by decide +kernel
theorem d_MPlain_room_11 : decode b_MPlain_room 11 = .ok (.invokestatic 73, 3) := by decide +kernel
set_option maxRecDepth 100000 in
theorem kw_2013 : (Jvm.Cond.code ({ cls := "ProofDeskModel$Rows", name := "wide", desc := "([I)[I" } : Jvm.MethodName) prog_17_method_2_code (2 : Nat) (Option.some (Jvm.ClassFile.FieldType.array Jvm.ClassFile.FieldType.int))) ∈ zw := List.mem_filter.mpr ⟨List.mem_append_right _ (List.mem_of_getElem? (i := 2013) rfl), by decide +kernel⟩
theorem kw_2011 : (Jvm.Cond.methodLink "ProofDeskModel$Plain" (73 : Nat) ({ cls := "ProofDeskModel$Rows", name := "wide", desc := "([I)[I" } : Jvm.MethodName)) ∈ zw := List.mem_filter.mpr ⟨List.mem_append_right _ (List.mem_of_getElem? (i := 2011) (by decide +kernel)), by decide +kernel⟩
theorem kw_2012 : (Jvm.Cond.static ({ cls := "ProofDeskModel$Rows", name := "wide", desc := "([I)[I" } : Jvm.MethodName)) ∈ zw := List.mem_filter.mpr ⟨List.mem_append_right _ (List.mem_of_getElem? (i := 2012) (by decide +kernel)), by decide +kernel⟩
set_option maxHeartbeats 4000000 in
set_option maxRecDepth 100000 in
theorem e_Plain_roomG (l : Launch) (D : va_G) (cI cB cZ cS : ClassId) (sz : Nat) (a : Nat) (n : Nat) (f : Nat → Int32) (k : Int32) (hN : n ≤ 33554432) (hk : nI n ≤ k) : Met l y_MPlain_room (zc y_MPlain_room b_MPlain_room 2 (some (.array .int))) ({ frames := 2, cells := 1, slots := 2 * n, locals := 61 }) (zPc D (zty cI cB cZ cS) [(a, .inl (cI, n, .inl f))] sz [.ref a, .int k]) (va_Qr (fun _ : Unit => True) (fun _ ra t => va_P D zcl [(a, .inl (cI, n, .inl f)), (ra, .inl (cI, (2 * n), .inl (zcp f n)))] t.heap ∧ va_D (va_A [(a, .inl (cI, n, .inl f))] sz) [(a, .inl (cI, n, .inl f)), (ra, .inl (cI, (2 * n), .inl (zcp f n)))]) (va_A [(a, .inl (cI, n, .inl f))] sz)) 1 (2 * n) (va_A [(a, .inl (cI, n, .inl f))] sz) := by
  refine Met.ofW (cc := b_MPlain_room) (maxL := 2) (ret := (some (.array .int))) (by decide) rfl ?_
  intro p e s m args below meth c s₁ B hml hv
  obtain ⟨rfl, hsz, hP, ⟨hK, hN⟩, hD0⟩ := hv
  have hx := B.exec
  have hb := B.bytes
  have hr := B.returns
  have hts0 := atoms_spec (ws := zc y_MPlain_room b_MPlain_room 2 (some (.array .int))) B.pre
  have hts : ∀ w ∈ zw, w.before _ s = true := fun w hw => hts0 w (List.mem_cons_of_mem _ hw)
  have hown : s.vm.findClass "ProofDeskModel$Plain" = some m.cls := findClass_of_methodNamed B.named
  have hlocks := B.notSynchronized
  subst hsz
  have hD := hD0.self (sz := s.heap.size)
  generalize hAe : va_A [(a, .inl (cI, n, .inl f))] s.heap.size = A at hD ⊢
  have hA : ∀ q : Nat, s.heap.size ≤ q → A q := fun q h => by rw [← hAe]; exact Or.inr h
  have hS : va_S A s.heap s.heap [] := va_S.rf
  have hP : va_P D zcl [(a, .inl (cI, n, .inl f))] s.heap := hP
  have hl := lv_entry ([.ref a, .int k]) (n := 2) (Nat.le_of_ble_eq_true rfl)
  rw [lg_entry_eq]
  generalize (lg_sl ([.ref a, .int k]) ++ List.replicate (2 - (lg_sl ([.ref a, .int k])).length) Slot.unset).toArray = ls at hl ⊢
  have hl : lv_has ls 2 [(0, .ref a), (1, .int k)] := hl
  refine lv_iload_n hx hb d_MPlain_room_0 rfl (lv_at hl 1 rfl) ?_
  refine lv_aload_n hx hb d_MPlain_room_1 rfl (lv_at hl 0 rfl) ?_
  refine va_alen (v := (nI n)) hx hb hK hP 0 0 rfl rfl rfl d_MPlain_room_2 ?_
  have hc_1 : ((nI n) : Int32) ≤ k := hk
  refine lv_icmp_ge hx hb d_MPlain_room_3 rfl (fun _ => ?_) (fun h => absurd hc_1 h)
  refine lv_aload_n hx hb d_MPlain_room_10 rfl (lv_at hl 0 rfl) ?_
  have hPc := hP.sub (ws' := [(a, .inl (cI, n, .inl f))]) [0] rfl
  have hDc := hD.sub (ws' := [(a, .inl (cI, n, .inl f))]) [0] (by decide +kernel) rfl
  have hFc := va_free (wc := [(a, .inl (cI, n, .inl f))]) hD hS hA [0] rfl
  have hkc : 0 + 1 ≤ 1 := by omega
  have hks : 0 + (2 * n) ≤ 2 * n := by omega
  refine va_callr (va_runS (As := [.ref a]) (rest := []) ⟨hx, hb, hml, hown, hts⟩ (e_wide l D cI cB cZ cS s.heap.size a n f (by omega)) (⟨callB_of 1 hts (zgood kw_2013) rfl rfl rfl (hts _ kw_17) (hts _ kw_2011) (by decide +kernel) ⟨Nat.le_of_ble_eq_true rfl, Nat.le_of_ble_eq_true rfl⟩, hts _ kw_2012⟩) (zPreS hPc hK hN hDc) rfl rfl hl.1 rfl (lv_room (Nat.le_of_ble_eq_true rfl)) d_MPlain_room_11 ⟨hkc, hks⟩) hS (fun q _ h => hFc q h) hFc (fun u r_2 t H1 locs ht hvm hw hB hz1 hk1 hS => ?_)
  obtain ⟨hP1, hD1⟩ := hB
  rw [ht] at hP1
  obtain ⟨hP, hD⟩ := va_join (wr := []) (w1 := [(a, .inl (cI, n, .inl f)), (r_2, .inl (cI, (2 * n), .inl (zcp f n)))]) hP hD [0] [] rfl rfl (by decide +kernel) (by decide +kernel) hk1 hFc hP1 hD1
  generalize H1 = H at hP hS ⊢
  have hP : va_P D zcl [(a, .inl (cI, n, .inl f)), (r_2, .inl (cI, (2 * n), .inl (zcp f n)))] H := hP
  have hD : va_D A [(a, .inl (cI, n, .inl f)), (r_2, .inl (cI, (2 * n), .inl (zcp f n)))] := hD
  refine W.widen (k := 1) (n := (0 + 2 * n)) (by omega) (by omega) ?_
  have hP9 := hP.sub (ws' := [(a, .inl (cI, n, .inl f)), (r_2, .inl (cI, (2 * n), .inl (zcp f n)))]) [0, 1] rfl
  have hD9 := hD.sub (ws' := [(a, .inl (cI, n, .inl f)), (r_2, .inl (cI, (2 * n), .inl (zcp f n)))]) [0, 1] (by decide +kernel) rfl
  refine W.widen (k := 1) (n := (2 * n)) (by omega) (by omega) ?_
  exact W.aret (v := .ref r_2) hx hb hr (by first | exact Or.inr ⟨_, rfl⟩ | exact Or.inl ⟨_, rfl⟩) (Or.inr ⟨_, rfl⟩) (fun t ht hW => ⟨⟨(), r_2, rfl, trivial, by rw [ht]; exact hP9, hD9⟩, hS.F ht⟩) hS.2.2 d_MPlain_room_14
set_option maxHeartbeats 4000000 in
set_option maxRecDepth 100000 in
theorem e_roomG (l : Launch) (D : va_G) (cI cB cZ cS : ClassId) (sz : Nat) (a : Nat) (n : Nat) (f : Nat → Int32) (k : Int32) (hN : n ≤ 33554432) (hk : nI n ≤ k) : Met l y_ProofDeskModel_room (zc y_ProofDeskModel_room b_ProofDeskModel_room 2 (some (.array .int))) ({ frames := 3, cells := 1, slots := 2 * n, locals := 82 }) (zPc D (zty cI cB cZ cS) [(a, .inl (cI, n, .inl f))] sz [.ref a, .int k]) (va_Qr (fun _ : Unit => True) (fun _ ra t => va_P D zcl [(a, .inl (cI, n, .inl f)), (ra, .inl (cI, (2 * n), .inl (zcp f n)))] t.heap ∧ va_D (va_A [(a, .inl (cI, n, .inl f))] sz) [(a, .inl (cI, n, .inl f)), (ra, .inl (cI, (2 * n), .inl (zcp f n)))]) (va_A [(a, .inl (cI, n, .inl f))] sz)) 1 (2 * n) (va_A [(a, .inl (cI, n, .inl f))] sz) := by
  refine Met.ofW (cc := b_ProofDeskModel_room) (maxL := 2) (ret := (some (.array .int))) (by decide) rfl ?_
  intro p e s m args below meth c s₁ B hml hv
  obtain ⟨rfl, hsz, hP, ⟨hK, hN⟩, hD0⟩ := hv
  have hx := B.exec
  have hb := B.bytes
  have hr := B.returns
  have hts0 := atoms_spec (ws := zc y_ProofDeskModel_room b_ProofDeskModel_room 2 (some (.array .int))) B.pre
  have hts : ∀ w ∈ zw, w.before _ s = true := fun w hw => hts0 w (List.mem_cons_of_mem _ hw)
  have hown : s.vm.findClass "ProofDeskModel" = some m.cls := findClass_of_methodNamed B.named
  have hlocks := B.notSynchronized
  subst hsz
  have hD := hD0.self (sz := s.heap.size)
  generalize hAe : va_A [(a, .inl (cI, n, .inl f))] s.heap.size = A at hD ⊢
  have hA : ∀ q : Nat, s.heap.size ≤ q → A q := fun q h => by rw [← hAe]; exact Or.inr h
  have hS : va_S A s.heap s.heap [] := va_S.rf
  have hP : va_P D zcl [(a, .inl (cI, n, .inl f))] s.heap := hP
  have hl := lv_entry ([.ref a, .int k]) (n := 2) (Nat.le_of_ble_eq_true rfl)
  rw [lg_entry_eq]
  generalize (lg_sl ([.ref a, .int k]) ++ List.replicate (2 - (lg_sl ([.ref a, .int k])).length) Slot.unset).toArray = ls at hl ⊢
  have hl : lv_has ls 2 [(0, .ref a), (1, .int k)] := hl
  refine lv_aload_n hx hb d_ProofDeskModel_room_0 rfl (lv_at hl 0 rfl) ?_
  refine lv_iload_n hx hb d_ProofDeskModel_room_1 rfl (lv_at hl 1 rfl) ?_
  have hPc := hP.sub (ws' := [(a, .inl (cI, n, .inl f))]) [0] rfl
  have hDc := hD.sub (ws' := [(a, .inl (cI, n, .inl f))]) [0] (by decide +kernel) rfl
  have hFc := va_free (wc := [(a, .inl (cI, n, .inl f))]) hD hS hA [0] rfl
  have hkc : 0 + 1 ≤ 1 := by omega
  have hks : 0 + (2 * n) ≤ 2 * n := by omega
  refine va_callr (va_runS (As := [.ref a, .int k]) (rest := []) ⟨hx, hb, hml, hown, hts⟩ (e_Plain_roomG l D cI cB cZ cS s.heap.size a n f k (by omega) hk) (⟨callB_of 2 hts (zgood kw_2010) rfl rfl rfl (hts _ kw_19) (hts _ kw_2008) (by decide +kernel) ⟨Nat.le_of_ble_eq_true rfl, Nat.le_of_ble_eq_true rfl⟩, hts _ kw_2009⟩) (zPreS hPc hK hN hDc) rfl rfl hl.1 rfl (lv_room (Nat.le_of_ble_eq_true rfl)) d_ProofDeskModel_room_2 ⟨hkc, hks⟩) hS (fun q _ h => hFc q h) hFc (fun u r_1 t H1 locs ht hvm hw hB hz1 hk1 hS => ?_)
  obtain ⟨hP1, hD1⟩ := hB
  rw [ht] at hP1
  obtain ⟨hP, hD⟩ := va_join (wr := []) (w1 := [(a, .inl (cI, n, .inl f)), (r_1, .inl (cI, (2 * n), .inl (zcp f n)))]) hP hD [0] [] rfl rfl (by decide +kernel) (by decide +kernel) hk1 hFc hP1 hD1
  generalize H1 = H at hP hS ⊢
  have hP : va_P D zcl [(a, .inl (cI, n, .inl f)), (r_1, .inl (cI, (2 * n), .inl (zcp f n)))] H := hP
  have hD : va_D A [(a, .inl (cI, n, .inl f)), (r_1, .inl (cI, (2 * n), .inl (zcp f n)))] := hD
  refine W.widen (k := 1) (n := (0 + 2 * n)) (by omega) (by omega) ?_
  have hP9 := hP.sub (ws' := [(a, .inl (cI, n, .inl f)), (r_1, .inl (cI, (2 * n), .inl (zcp f n)))]) [0, 1] rfl
  have hD9 := hD.sub (ws' := [(a, .inl (cI, n, .inl f)), (r_1, .inl (cI, (2 * n), .inl (zcp f n)))]) [0, 1] (by decide +kernel) rfl
  refine W.widen (k := 1) (n := (2 * n)) (by omega) (by omega) ?_
  exact W.aret (v := .ref r_1) hx hb hr (by first | exact Or.inr ⟨_, rfl⟩ | exact Or.inl ⟨_, rfl⟩) (Or.inr ⟨_, rfl⟩) (fun t ht hW => ⟨⟨(), r_1, rfl, trivial, by rw [ht]; exact hP9, hD9⟩, hS.F ht⟩) hS.2.2 d_ProofDeskModel_room_5
