abbrev b_ProofDesk_addBytes : ByteArray := prog_1_method_3_code
abbrev y_ProofDesk_addBytes : MethodName := ⟨"ProofDesk", "addBytes", "(I)V"⟩
theorem d_ProofDesk_addBytes_0 : decode b_ProofDesk_addBytes 0 = .ok (.bipush 24, 2) := by decide +kernel
theorem d_ProofDesk_addBytes_2 : decode b_ProofDesk_addBytes 2 = .ok (.istore_n 2, 1) := by decide +kernel
theorem d_ProofDesk_addBytes_3 : decode b_ProofDesk_addBytes 3 = .ok (.iload_n 2, 1) := by decide +kernel
theorem d_ProofDesk_addBytes_4 : decode b_ProofDesk_addBytes 4 = .ok (.ifCond .lt 32, 3) := by decide +kernel
theorem d_ProofDesk_addBytes_7 : decode b_ProofDesk_addBytes 7 = .ok (.aload_n 0, 1) := by decide +kernel
theorem d_ProofDesk_addBytes_8 : decode b_ProofDesk_addBytes 8 = .ok (.getfield 79, 3) := by decide +kernel
theorem d_ProofDesk_addBytes_11 : decode b_ProofDesk_addBytes 11 = .ok (.aload_n 0, 1) := by decide +kernel
theorem d_ProofDesk_addBytes_12 : decode b_ProofDesk_addBytes 12 = .ok (.getfield 83, 3) := by decide +kernel
theorem d_ProofDesk_addBytes_15 : decode b_ProofDesk_addBytes 15 = .ok (.iload_n 1, 1) := by decide +kernel
theorem d_ProofDesk_addBytes_16 : decode b_ProofDesk_addBytes 16 = .ok (.iload_n 2, 1) := by decide +kernel
theorem d_ProofDesk_addBytes_17 : decode b_ProofDesk_addBytes 17 = .ok (.ishr, 1) := by decide +kernel
theorem d_ProofDesk_addBytes_18 : decode b_ProofDesk_addBytes 18 = .ok (.i2b, 1) := by decide +kernel
theorem d_ProofDesk_addBytes_19 : decode b_ProofDesk_addBytes 19 = .ok (.bastore, 1) := by decide +kernel
theorem d_ProofDesk_addBytes_20 : decode b_ProofDesk_addBytes 20 = .ok (.aload_n 0, 1) := by decide +kernel
theorem d_ProofDesk_addBytes_21 : decode b_ProofDesk_addBytes 21 = .ok (.dup, 1) := by decide +kernel
theorem d_ProofDesk_addBytes_22 : decode b_ProofDesk_addBytes 22 = .ok (.getfield 83, 3) := by decide +kernel
theorem d_ProofDesk_addBytes_25 : decode b_ProofDesk_addBytes 25 = .ok (.iconst 1, 1) := by decide +kernel
theorem d_ProofDesk_addBytes_26 : decode b_ProofDesk_addBytes 26 = .ok (.iadd, 1) := by decide +kernel
theorem d_ProofDesk_addBytes_27 : decode b_ProofDesk_addBytes 27 = .ok (.putfield 83, 3) := by decide +kernel
theorem d_ProofDesk_addBytes_30 : decode b_ProofDesk_addBytes 30 = .ok (.iinc 2 (-8), 3) := by decide +kernel
theorem d_ProofDesk_addBytes_33 : decode b_ProofDesk_addBytes 33 = .ok (.goto (-30), 3) := by decide +kernel
theorem d_ProofDesk_addBytes_36 : decode b_ProofDesk_addBytes 36 = .ok (.return_, 1) := by decide +kernel
set_option maxHeartbeats 4000000 in
set_option maxRecDepth 100000 in
theorem c_addBytes (l : Launch) (D : va_G) (cI cB cZ cS : ClassId) (sz : Nat) (h0 : Nat) (bs : Nat) (h0_0 : Value) (h0_1 : Value) (h0_2 : Value) (h0_3 : Value) (h0_4 : Value) (h0_5 : Value) (h0_6 : Value) (v : Int32) (k : Nat) (nb : Nat) (f : Nat → Int32) (hk : k + 4 ≤ nb) (hb9 : nb ≤ 16400) : Met l y_ProofDesk_addBytes (zc y_ProofDesk_addBytes b_ProofDesk_addBytes 3 none) ({ frames := 0, cells := 0, slots := 0, locals := 0 }) (zPc D (zty cI cB cZ cS) [(h0, .inr (11, [h0_0, h0_1, h0_2, h0_3, h0_4, h0_5, h0_6, .ref bs, .int (nI k)])), (bs, .inl (cB, nb, .inl f))] sz [.ref h0, .int v]) (va_Qv (fun _ : Unit => True) (fun _ t => va_P D zcl [(h0, .inr (11, [h0_0, h0_1, h0_2, h0_3, h0_4, h0_5, h0_6, .ref bs, .int (nI (k + 1 + 1 + 1 + 1))])), (bs, .inl (cB, nb, .inl (upd (upd (upd (upd f k ((v >>> (24 &&& 31)).toInt8.toInt32)) (k + 1) ((v >>> (16 &&& 31)).toInt8.toInt32)) (k + 1 + 1) ((v >>> (8 &&& 31)).toInt8.toInt32)) (k + 1 + 1 + 1) ((v >>> (0 &&& 31)).toInt8.toInt32))))] t.heap ∧ va_D (va_A [(h0, .inr (11, [h0_0, h0_1, h0_2, h0_3, h0_4, h0_5, h0_6, .ref bs, .int (nI k)])), (bs, .inl (cB, nb, .inl f))] sz) [(h0, .inr (11, [h0_0, h0_1, h0_2, h0_3, h0_4, h0_5, h0_6, .ref bs, .int (nI (k + 1 + 1 + 1 + 1))])), (bs, .inl (cB, nb, .inl (upd (upd (upd (upd f k ((v >>> (24 &&& 31)).toInt8.toInt32)) (k + 1) ((v >>> (16 &&& 31)).toInt8.toInt32)) (k + 1 + 1) ((v >>> (8 &&& 31)).toInt8.toInt32)) (k + 1 + 1 + 1) ((v >>> (0 &&& 31)).toInt8.toInt32))))]) (va_A [(h0, .inr (11, [h0_0, h0_1, h0_2, h0_3, h0_4, h0_5, h0_6, .ref bs, .int (nI k)])), (bs, .inl (cB, nb, .inl f))] sz)) 0 0 (va_A [(h0, .inr (11, [h0_0, h0_1, h0_2, h0_3, h0_4, h0_5, h0_6, .ref bs, .int (nI k)])), (bs, .inl (cB, nb, .inl f))] sz) := by
  refine Met.ofW (cc := b_ProofDesk_addBytes) (maxL := 3) (ret := none) (by decide) rfl ?_
  intro p e s m args below meth c s₁ B hml hv
  obtain ⟨rfl, hsz, hP, ⟨hK, hN⟩, hD0⟩ := hv
  have hx := B.exec
  have hb := B.bytes
  have hr := B.returns
  have hts0 := atoms_spec (ws := zc y_ProofDesk_addBytes b_ProofDesk_addBytes 3 none) B.pre
  have hts : ∀ w ∈ zw, w.before _ s = true := fun w hw => hts0 w (List.mem_cons_of_mem _ hw)
  have hown : s.vm.findClass "ProofDesk" = some m.cls := findClass_of_methodNamed B.named
  have hlocks := B.notSynchronized
  subst hsz
  have hD := hD0.self (sz := s.heap.size)
  generalize hAe : va_A [(h0, .inr (11, [h0_0, h0_1, h0_2, h0_3, h0_4, h0_5, h0_6, .ref bs, .int (nI k)])), (bs, .inl (cB, nb, .inl f))] s.heap.size = A at hD ⊢
  have hA : ∀ q : Nat, s.heap.size ≤ q → A q := fun q h => by rw [← hAe]; exact Or.inr h
  have hS : va_S A s.heap s.heap [] := va_S.rf
  have hP : va_P D zcl [(h0, .inr (11, [h0_0, h0_1, h0_2, h0_3, h0_4, h0_5, h0_6, .ref bs, .int (nI k)])), (bs, .inl (cB, nb, .inl f))] s.heap := hP
  have hl := lv_entry ([.ref h0, .int v]) (n := 3) (Nat.le_of_ble_eq_true rfl)
  rw [lg_entry_eq]
  generalize (lg_sl ([.ref h0, .int v]) ++ List.replicate (3 - (lg_sl ([.ref h0, .int v])).length) Slot.unset).toArray = ls at hl ⊢
  have hl : lv_has ls 3 [(0, .ref h0), (1, .int v)] := hl
  refine lv_bipush (v := 24) hx hb d_ProofDesk_addBytes_0 (by decide) ?_
  refine lv_istore_n (lv' := [(2, .int 24), (0, .ref h0), (1, .int v)]) hx hb d_ProofDesk_addBytes_2 rfl hl (by decide) rfl (fun ls hl => ?_)
  refine lv_iload_n hx hb d_ProofDesk_addBytes_3 rfl (lv_at hl 0 rfl) ?_
  have hc_1 : ¬ (24 : Int32) < 0 := by decide +kernel
  refine lv_if_lt hx hb d_ProofDesk_addBytes_4 rfl (fun h => absurd h hc_1) (fun _ => ?_)
  refine lv_aload_n hx hb d_ProofDesk_addBytes_7 rfl (lv_at hl 1 rfl) ?_
  refine va_get (D := D) (ci := 11) (v := .ref bs) (C := "ProofDesk") (T := F_ProofDesk) (N := 9) hx hb hts in_ProofDesk hown hK hP 0 rfl rfl 7 (by decide) (hts _ kw_565) (fun _ h9 => h9) rfl d_ProofDesk_addBytes_8 ?_
  refine lv_aload_n hx hb d_ProofDesk_addBytes_11 rfl (lv_at hl 1 rfl) ?_
  refine va_get (D := D) (ci := 11) (v := .int (nI k)) (C := "ProofDesk") (T := F_ProofDesk) (N := 9) hx hb hts in_ProofDesk hown hK hP 0 rfl rfl 8 (by decide) (hts _ kw_566) (fun _ h9 => h9) rfl d_ProofDesk_addBytes_12 ?_
  refine lv_iload_n hx hb d_ProofDesk_addBytes_15 rfl (lv_at hl 2 rfl) ?_
  refine lv_iload_n hx hb d_ProofDesk_addBytes_16 rfl (lv_at hl 0 rfl) ?_
  refine lv_ishr hx hb d_ProofDesk_addBytes_17 ?_
  refine lv_i2b hx hb d_ProofDesk_addBytes_18 rfl ?_
  refine zz_bast (y := ((v >>> (24 &&& 31)).toInt8.toInt32)) hx hb hK hP hD hS 1 1 rfl rfl (i := (nI k)) (x := ((v >>> (24 &&& 31)).toInt8.toInt32)) k (zix_nI (by omega) (by omega)) (pk_vb _) d_ProofDesk_addBytes_19 (fun H locs hP hD hS => ?_)
  have hP : va_P D zcl [(h0, .inr (11, [h0_0, h0_1, h0_2, h0_3, h0_4, h0_5, h0_6, .ref bs, .int (nI k)])), (bs, .inl (cB, nb, .inl (upd f k ((v >>> (24 &&& 31)).toInt8.toInt32))))] H := hP
  have hD : va_D A [(h0, .inr (11, [h0_0, h0_1, h0_2, h0_3, h0_4, h0_5, h0_6, .ref bs, .int (nI k)])), (bs, .inl (cB, nb, .inl (upd f k ((v >>> (24 &&& 31)).toInt8.toInt32))))] := hD
  refine lv_aload_n hx hb d_ProofDesk_addBytes_20 rfl (lv_at hl 1 rfl) ?_
  refine lv_dup hx hb d_ProofDesk_addBytes_21 rfl ?_
  refine va_get (D := D) (ci := 11) (v := .int (nI k)) (C := "ProofDesk") (T := F_ProofDesk) (N := 9) hx hb hts in_ProofDesk hown hK hP 0 rfl rfl 8 (by decide) (hts _ kw_566) (fun _ h9 => h9) rfl d_ProofDesk_addBytes_22 ?_
  refine lv_iconst (v := 1) hx hb d_ProofDesk_addBytes_25 (by decide) ?_
  refine lv_iadd hx hb d_ProofDesk_addBytes_26 ?_
  refine zz_i (y := nI (k + 1)) (nI_1 _) ?_
  refine va_put (D := D) (ci := 11) (v := .int (nI (k + 1))) (ty := .int) (C := "ProofDesk") (T := F_ProofDesk) (N := 9) hx hb hts in_ProofDesk t_ProofDesk t_ProofDesk_ok n_ProofDesk hown hK hP hD hS 0 rfl rfl 8 (by decide) (hts _ kw_566) (fun _ h9 => h9) rfl (by decide +kernel) rfl rfl (Nat.le_of_ble_eq_true rfl) d_ProofDesk_addBytes_27 (fun H locs hP hD hS => ?_)
  have hP : va_P D zcl [(h0, .inr (11, [h0_0, h0_1, h0_2, h0_3, h0_4, h0_5, h0_6, .ref bs, .int (nI (k + 1))])), (bs, .inl (cB, nb, .inl (upd f k ((v >>> (24 &&& 31)).toInt8.toInt32))))] H := hP
  have hD : va_D A [(h0, .inr (11, [h0_0, h0_1, h0_2, h0_3, h0_4, h0_5, h0_6, .ref bs, .int (nI (k + 1))])), (bs, .inl (cB, nb, .inl (upd f k ((v >>> (24 &&& 31)).toInt8.toInt32))))] := hD
  refine lv_iinc (k := 0) (v := 16) (lv' := [(2, .int 16), (0, .ref h0), (1, .int v)]) hx hb d_ProofDesk_addBytes_30 hl rfl (by decide +kernel) (by decide) rfl (fun ls hl => ?_)
  refine lv_goto hx hb d_ProofDesk_addBytes_33 rfl ?_
  refine lv_iload_n hx hb d_ProofDesk_addBytes_3 rfl (lv_at hl 0 rfl) ?_
  have hc_2 : ¬ (16 : Int32) < 0 := by decide +kernel
  refine lv_if_lt hx hb d_ProofDesk_addBytes_4 rfl (fun h => absurd h hc_2) (fun _ => ?_)
  refine lv_aload_n hx hb d_ProofDesk_addBytes_7 rfl (lv_at hl 1 rfl) ?_
  refine va_get (D := D) (ci := 11) (v := .ref bs) (C := "ProofDesk") (T := F_ProofDesk) (N := 9) hx hb hts in_ProofDesk hown hK hP 0 rfl rfl 7 (by decide) (hts _ kw_565) (fun _ h9 => h9) rfl d_ProofDesk_addBytes_8 ?_
  refine lv_aload_n hx hb d_ProofDesk_addBytes_11 rfl (lv_at hl 1 rfl) ?_
  refine va_get (D := D) (ci := 11) (v := .int (nI (k + 1))) (C := "ProofDesk") (T := F_ProofDesk) (N := 9) hx hb hts in_ProofDesk hown hK hP 0 rfl rfl 8 (by decide) (hts _ kw_566) (fun _ h9 => h9) rfl d_ProofDesk_addBytes_12 ?_
  refine lv_iload_n hx hb d_ProofDesk_addBytes_15 rfl (lv_at hl 2 rfl) ?_
  refine lv_iload_n hx hb d_ProofDesk_addBytes_16 rfl (lv_at hl 0 rfl) ?_
  refine lv_ishr hx hb d_ProofDesk_addBytes_17 ?_
  refine lv_i2b hx hb d_ProofDesk_addBytes_18 rfl ?_
  refine zz_bast (y := ((v >>> (16 &&& 31)).toInt8.toInt32)) hx hb hK hP hD hS 1 1 rfl rfl (i := (nI (k + 1))) (x := ((v >>> (16 &&& 31)).toInt8.toInt32)) (k + 1) (zix_nI (by omega) (by omega)) (pk_vb _) d_ProofDesk_addBytes_19 (fun H locs hP hD hS => ?_)
  have hP : va_P D zcl [(h0, .inr (11, [h0_0, h0_1, h0_2, h0_3, h0_4, h0_5, h0_6, .ref bs, .int (nI (k + 1))])), (bs, .inl (cB, nb, .inl (upd (upd f k ((v >>> (24 &&& 31)).toInt8.toInt32)) (k + 1) ((v >>> (16 &&& 31)).toInt8.toInt32))))] H := hP
  have hD : va_D A [(h0, .inr (11, [h0_0, h0_1, h0_2, h0_3, h0_4, h0_5, h0_6, .ref bs, .int (nI (k + 1))])), (bs, .inl (cB, nb, .inl (upd (upd f k ((v >>> (24 &&& 31)).toInt8.toInt32)) (k + 1) ((v >>> (16 &&& 31)).toInt8.toInt32))))] := hD
  refine lv_aload_n hx hb d_ProofDesk_addBytes_20 rfl (lv_at hl 1 rfl) ?_
  refine lv_dup hx hb d_ProofDesk_addBytes_21 rfl ?_
  refine va_get (D := D) (ci := 11) (v := .int (nI (k + 1))) (C := "ProofDesk") (T := F_ProofDesk) (N := 9) hx hb hts in_ProofDesk hown hK hP 0 rfl rfl 8 (by decide) (hts _ kw_566) (fun _ h9 => h9) rfl d_ProofDesk_addBytes_22 ?_
  refine lv_iconst (v := 1) hx hb d_ProofDesk_addBytes_25 (by decide) ?_
  refine lv_iadd hx hb d_ProofDesk_addBytes_26 ?_
  refine zz_i (y := nI (k + 1 + 1)) (nI_1 _) ?_
  refine va_put (D := D) (ci := 11) (v := .int (nI (k + 1 + 1))) (ty := .int) (C := "ProofDesk") (T := F_ProofDesk) (N := 9) hx hb hts in_ProofDesk t_ProofDesk t_ProofDesk_ok n_ProofDesk hown hK hP hD hS 0 rfl rfl 8 (by decide) (hts _ kw_566) (fun _ h9 => h9) rfl (by decide +kernel) rfl rfl (Nat.le_of_ble_eq_true rfl) d_ProofDesk_addBytes_27 (fun H locs hP hD hS => ?_)
  have hP : va_P D zcl [(h0, .inr (11, [h0_0, h0_1, h0_2, h0_3, h0_4, h0_5, h0_6, .ref bs, .int (nI (k + 1 + 1))])), (bs, .inl (cB, nb, .inl (upd (upd f k ((v >>> (24 &&& 31)).toInt8.toInt32)) (k + 1) ((v >>> (16 &&& 31)).toInt8.toInt32))))] H := hP
  have hD : va_D A [(h0, .inr (11, [h0_0, h0_1, h0_2, h0_3, h0_4, h0_5, h0_6, .ref bs, .int (nI (k + 1 + 1))])), (bs, .inl (cB, nb, .inl (upd (upd f k ((v >>> (24 &&& 31)).toInt8.toInt32)) (k + 1) ((v >>> (16 &&& 31)).toInt8.toInt32))))] := hD
  refine lv_iinc (k := 0) (v := 8) (lv' := [(2, .int 8), (0, .ref h0), (1, .int v)]) hx hb d_ProofDesk_addBytes_30 hl rfl (by decide +kernel) (by decide) rfl (fun ls hl => ?_)
  refine lv_goto hx hb d_ProofDesk_addBytes_33 rfl ?_
  refine lv_iload_n hx hb d_ProofDesk_addBytes_3 rfl (lv_at hl 0 rfl) ?_
  have hc_3 : ¬ (8 : Int32) < 0 := by decide +kernel
  refine lv_if_lt hx hb d_ProofDesk_addBytes_4 rfl (fun h => absurd h hc_3) (fun _ => ?_)
  refine lv_aload_n hx hb d_ProofDesk_addBytes_7 rfl (lv_at hl 1 rfl) ?_
  refine va_get (D := D) (ci := 11) (v := .ref bs) (C := "ProofDesk") (T := F_ProofDesk) (N := 9) hx hb hts in_ProofDesk hown hK hP 0 rfl rfl 7 (by decide) (hts _ kw_565) (fun _ h9 => h9) rfl d_ProofDesk_addBytes_8 ?_
  refine lv_aload_n hx hb d_ProofDesk_addBytes_11 rfl (lv_at hl 1 rfl) ?_
  refine va_get (D := D) (ci := 11) (v := .int (nI (k + 1 + 1))) (C := "ProofDesk") (T := F_ProofDesk) (N := 9) hx hb hts in_ProofDesk hown hK hP 0 rfl rfl 8 (by decide) (hts _ kw_566) (fun _ h9 => h9) rfl d_ProofDesk_addBytes_12 ?_
  refine lv_iload_n hx hb d_ProofDesk_addBytes_15 rfl (lv_at hl 2 rfl) ?_
  refine lv_iload_n hx hb d_ProofDesk_addBytes_16 rfl (lv_at hl 0 rfl) ?_
  refine lv_ishr hx hb d_ProofDesk_addBytes_17 ?_
  refine lv_i2b hx hb d_ProofDesk_addBytes_18 rfl ?_
  refine zz_bast (y := ((v >>> (8 &&& 31)).toInt8.toInt32)) hx hb hK hP hD hS 1 1 rfl rfl (i := (nI (k + 1 + 1))) (x := ((v >>> (8 &&& 31)).toInt8.toInt32)) (k + 1 + 1) (zix_nI (by omega) (by omega)) (pk_vb _) d_ProofDesk_addBytes_19 (fun H locs hP hD hS => ?_)
  have hP : va_P D zcl [(h0, .inr (11, [h0_0, h0_1, h0_2, h0_3, h0_4, h0_5, h0_6, .ref bs, .int (nI (k + 1 + 1))])), (bs, .inl (cB, nb, .inl (upd (upd (upd f k ((v >>> (24 &&& 31)).toInt8.toInt32)) (k + 1) ((v >>> (16 &&& 31)).toInt8.toInt32)) (k + 1 + 1) ((v >>> (8 &&& 31)).toInt8.toInt32))))] H := hP
  have hD : va_D A [(h0, .inr (11, [h0_0, h0_1, h0_2, h0_3, h0_4, h0_5, h0_6, .ref bs, .int (nI (k + 1 + 1))])), (bs, .inl (cB, nb, .inl (upd (upd (upd f k ((v >>> (24 &&& 31)).toInt8.toInt32)) (k + 1) ((v >>> (16 &&& 31)).toInt8.toInt32)) (k + 1 + 1) ((v >>> (8 &&& 31)).toInt8.toInt32))))] := hD
  refine lv_aload_n hx hb d_ProofDesk_addBytes_20 rfl (lv_at hl 1 rfl) ?_
  refine lv_dup hx hb d_ProofDesk_addBytes_21 rfl ?_
  refine va_get (D := D) (ci := 11) (v := .int (nI (k + 1 + 1))) (C := "ProofDesk") (T := F_ProofDesk) (N := 9) hx hb hts in_ProofDesk hown hK hP 0 rfl rfl 8 (by decide) (hts _ kw_566) (fun _ h9 => h9) rfl d_ProofDesk_addBytes_22 ?_
  refine lv_iconst (v := 1) hx hb d_ProofDesk_addBytes_25 (by decide) ?_
  refine lv_iadd hx hb d_ProofDesk_addBytes_26 ?_
  refine zz_i (y := nI (k + 1 + 1 + 1)) (nI_1 _) ?_
  refine va_put (D := D) (ci := 11) (v := .int (nI (k + 1 + 1 + 1))) (ty := .int) (C := "ProofDesk") (T := F_ProofDesk) (N := 9) hx hb hts in_ProofDesk t_ProofDesk t_ProofDesk_ok n_ProofDesk hown hK hP hD hS 0 rfl rfl 8 (by decide) (hts _ kw_566) (fun _ h9 => h9) rfl (by decide +kernel) rfl rfl (Nat.le_of_ble_eq_true rfl) d_ProofDesk_addBytes_27 (fun H locs hP hD hS => ?_)
  have hP : va_P D zcl [(h0, .inr (11, [h0_0, h0_1, h0_2, h0_3, h0_4, h0_5, h0_6, .ref bs, .int (nI (k + 1 + 1 + 1))])), (bs, .inl (cB, nb, .inl (upd (upd (upd f k ((v >>> (24 &&& 31)).toInt8.toInt32)) (k + 1) ((v >>> (16 &&& 31)).toInt8.toInt32)) (k + 1 + 1) ((v >>> (8 &&& 31)).toInt8.toInt32))))] H := hP
  have hD : va_D A [(h0, .inr (11, [h0_0, h0_1, h0_2, h0_3, h0_4, h0_5, h0_6, .ref bs, .int (nI (k + 1 + 1 + 1))])), (bs, .inl (cB, nb, .inl (upd (upd (upd f k ((v >>> (24 &&& 31)).toInt8.toInt32)) (k + 1) ((v >>> (16 &&& 31)).toInt8.toInt32)) (k + 1 + 1) ((v >>> (8 &&& 31)).toInt8.toInt32))))] := hD
  refine lv_iinc (k := 0) (v := 0) (lv' := [(2, .int 0), (0, .ref h0), (1, .int v)]) hx hb d_ProofDesk_addBytes_30 hl rfl (by decide +kernel) (by decide) rfl (fun ls hl => ?_)
  refine lv_goto hx hb d_ProofDesk_addBytes_33 rfl ?_
  refine lv_iload_n hx hb d_ProofDesk_addBytes_3 rfl (lv_at hl 0 rfl) ?_
  have hc_4 : ¬ (0 : Int32) < 0 := by decide +kernel
  refine lv_if_lt hx hb d_ProofDesk_addBytes_4 rfl (fun h => absurd h hc_4) (fun _ => ?_)
  refine lv_aload_n hx hb d_ProofDesk_addBytes_7 rfl (lv_at hl 1 rfl) ?_
  refine va_get (D := D) (ci := 11) (v := .ref bs) (C := "ProofDesk") (T := F_ProofDesk) (N := 9) hx hb hts in_ProofDesk hown hK hP 0 rfl rfl 7 (by decide) (hts _ kw_565) (fun _ h9 => h9) rfl d_ProofDesk_addBytes_8 ?_
  refine lv_aload_n hx hb d_ProofDesk_addBytes_11 rfl (lv_at hl 1 rfl) ?_
  refine va_get (D := D) (ci := 11) (v := .int (nI (k + 1 + 1 + 1))) (C := "ProofDesk") (T := F_ProofDesk) (N := 9) hx hb hts in_ProofDesk hown hK hP 0 rfl rfl 8 (by decide) (hts _ kw_566) (fun _ h9 => h9) rfl d_ProofDesk_addBytes_12 ?_
  refine lv_iload_n hx hb d_ProofDesk_addBytes_15 rfl (lv_at hl 2 rfl) ?_
  refine lv_iload_n hx hb d_ProofDesk_addBytes_16 rfl (lv_at hl 0 rfl) ?_
  refine lv_ishr hx hb d_ProofDesk_addBytes_17 ?_
  refine lv_i2b hx hb d_ProofDesk_addBytes_18 rfl ?_
  refine zz_bast (y := ((v >>> (0 &&& 31)).toInt8.toInt32)) hx hb hK hP hD hS 1 1 rfl rfl (i := (nI (k + 1 + 1 + 1))) (x := ((v >>> (0 &&& 31)).toInt8.toInt32)) (k + 1 + 1 + 1) (zix_nI (by omega) (by omega)) (pk_vb _) d_ProofDesk_addBytes_19 (fun H locs hP hD hS => ?_)
  have hP : va_P D zcl [(h0, .inr (11, [h0_0, h0_1, h0_2, h0_3, h0_4, h0_5, h0_6, .ref bs, .int (nI (k + 1 + 1 + 1))])), (bs, .inl (cB, nb, .inl (upd (upd (upd (upd f k ((v >>> (24 &&& 31)).toInt8.toInt32)) (k + 1) ((v >>> (16 &&& 31)).toInt8.toInt32)) (k + 1 + 1) ((v >>> (8 &&& 31)).toInt8.toInt32)) (k + 1 + 1 + 1) ((v >>> (0 &&& 31)).toInt8.toInt32))))] H := hP
  have hD : va_D A [(h0, .inr (11, [h0_0, h0_1, h0_2, h0_3, h0_4, h0_5, h0_6, .ref bs, .int (nI (k + 1 + 1 + 1))])), (bs, .inl (cB, nb, .inl (upd (upd (upd (upd f k ((v >>> (24 &&& 31)).toInt8.toInt32)) (k + 1) ((v >>> (16 &&& 31)).toInt8.toInt32)) (k + 1 + 1) ((v >>> (8 &&& 31)).toInt8.toInt32)) (k + 1 + 1 + 1) ((v >>> (0 &&& 31)).toInt8.toInt32))))] := hD
  refine lv_aload_n hx hb d_ProofDesk_addBytes_20 rfl (lv_at hl 1 rfl) ?_
  refine lv_dup hx hb d_ProofDesk_addBytes_21 rfl ?_
  refine va_get (D := D) (ci := 11) (v := .int (nI (k + 1 + 1 + 1))) (C := "ProofDesk") (T := F_ProofDesk) (N := 9) hx hb hts in_ProofDesk hown hK hP 0 rfl rfl 8 (by decide) (hts _ kw_566) (fun _ h9 => h9) rfl d_ProofDesk_addBytes_22 ?_
  refine lv_iconst (v := 1) hx hb d_ProofDesk_addBytes_25 (by decide) ?_
  refine lv_iadd hx hb d_ProofDesk_addBytes_26 ?_
  refine zz_i (y := nI (k + 1 + 1 + 1 + 1)) (nI_1 _) ?_
  refine va_put (D := D) (ci := 11) (v := .int (nI (k + 1 + 1 + 1 + 1))) (ty := .int) (C := "ProofDesk") (T := F_ProofDesk) (N := 9) hx hb hts in_ProofDesk t_ProofDesk t_ProofDesk_ok n_ProofDesk hown hK hP hD hS 0 rfl rfl 8 (by decide) (hts _ kw_566) (fun _ h9 => h9) rfl (by decide +kernel) rfl rfl (Nat.le_of_ble_eq_true rfl) d_ProofDesk_addBytes_27 (fun H locs hP hD hS => ?_)
  have hP : va_P D zcl [(h0, .inr (11, [h0_0, h0_1, h0_2, h0_3, h0_4, h0_5, h0_6, .ref bs, .int (nI (k + 1 + 1 + 1 + 1))])), (bs, .inl (cB, nb, .inl (upd (upd (upd (upd f k ((v >>> (24 &&& 31)).toInt8.toInt32)) (k + 1) ((v >>> (16 &&& 31)).toInt8.toInt32)) (k + 1 + 1) ((v >>> (8 &&& 31)).toInt8.toInt32)) (k + 1 + 1 + 1) ((v >>> (0 &&& 31)).toInt8.toInt32))))] H := hP
  have hD : va_D A [(h0, .inr (11, [h0_0, h0_1, h0_2, h0_3, h0_4, h0_5, h0_6, .ref bs, .int (nI (k + 1 + 1 + 1 + 1))])), (bs, .inl (cB, nb, .inl (upd (upd (upd (upd f k ((v >>> (24 &&& 31)).toInt8.toInt32)) (k + 1) ((v >>> (16 &&& 31)).toInt8.toInt32)) (k + 1 + 1) ((v >>> (8 &&& 31)).toInt8.toInt32)) (k + 1 + 1 + 1) ((v >>> (0 &&& 31)).toInt8.toInt32))))] := hD
  refine lv_iinc (k := 0) (v := (-8)) (lv' := [(2, .int (-8)), (0, .ref h0), (1, .int v)]) hx hb d_ProofDesk_addBytes_30 hl rfl (by decide +kernel) (by decide) rfl (fun ls hl => ?_)
  refine lv_goto hx hb d_ProofDesk_addBytes_33 rfl ?_
  refine lv_iload_n hx hb d_ProofDesk_addBytes_3 rfl (lv_at hl 0 rfl) ?_
  have hc_5 : ((-8) : Int32) < 0 := by decide +kernel
  refine lv_if_lt hx hb d_ProofDesk_addBytes_4 rfl (fun _ => ?_) (fun h => absurd hc_5 h)
  have hP9 := hP.sub (ws' := [(h0, .inr (11, [h0_0, h0_1, h0_2, h0_3, h0_4, h0_5, h0_6, .ref bs, .int (nI (k + 1 + 1 + 1 + 1))])), (bs, .inl (cB, nb, .inl (upd (upd (upd (upd f k ((v >>> (24 &&& 31)).toInt8.toInt32)) (k + 1) ((v >>> (16 &&& 31)).toInt8.toInt32)) (k + 1 + 1) ((v >>> (8 &&& 31)).toInt8.toInt32)) (k + 1 + 1 + 1) ((v >>> (0 &&& 31)).toInt8.toInt32))))]) [0, 1] rfl
  have hD9 := hD.sub (ws' := [(h0, .inr (11, [h0_0, h0_1, h0_2, h0_3, h0_4, h0_5, h0_6, .ref bs, .int (nI (k + 1 + 1 + 1 + 1))])), (bs, .inl (cB, nb, .inl (upd (upd (upd (upd f k ((v >>> (24 &&& 31)).toInt8.toInt32)) (k + 1) ((v >>> (16 &&& 31)).toInt8.toInt32)) (k + 1 + 1) ((v >>> (8 &&& 31)).toInt8.toInt32)) (k + 1 + 1 + 1) ((v >>> (0 &&& 31)).toInt8.toInt32))))]) [0, 1] (by decide +kernel) rfl
  refine W.widen (k := 0) (n := 0) (by omega) (by omega) ?_
  exact W.vret hx hb hr (fun t ht hW => ⟨⟨(), rfl, trivial, by rw [ht]; exact hP9, hD9⟩, hS.F ht⟩) hS.2.2 d_ProofDesk_addBytes_36
abbrev b_ProofDesk_feed : ByteArray := prog_1_method_2_code
abbrev y_ProofDesk_feed : MethodName := ⟨"ProofDesk", "feed", "(IIIII)I"⟩
theorem d_ProofDesk_feed_0 : decode b_ProofDesk_feed 0 = .ok (.aload_n 0, 1) := by decide +kernel
theorem d_ProofDesk_feed_1 : decode b_ProofDesk_feed 1 = .ok (.getfield 83, 3) := by decide +kernel
theorem d_ProofDesk_feed_4 : decode b_ProofDesk_feed 4 = .ok (.bipush 20, 2) := by decide +kernel
theorem d_ProofDesk_feed_6 : decode b_ProofDesk_feed 6 = .ok (.iadd, 1) := by decide +kernel
theorem d_ProofDesk_feed_7 : decode b_ProofDesk_feed 7 = .ok (.sipush 16400, 3) := by decide +kernel
theorem d_ProofDesk_feed_10 : decode b_ProofDesk_feed 10 = .ok (.if_icmp .le 5, 3) := by decide +kernel
theorem d_ProofDesk_feed_15 : decode b_ProofDesk_feed 15 = .ok (.aload_n 0, 1) := by decide +kernel
theorem d_ProofDesk_feed_16 : decode b_ProofDesk_feed 16 = .ok (.getfield 83, 3) := by decide +kernel
theorem d_ProofDesk_feed_19 : decode b_ProofDesk_feed 19 = .ok (.bipush 20, 2) := by decide +kernel
theorem d_ProofDesk_feed_21 : decode b_ProofDesk_feed 21 = .ok (.iadd, 1) := by decide +kernel
theorem d_ProofDesk_feed_22 : decode b_ProofDesk_feed 22 = .ok (.aload_n 0, 1) := by decide +kernel
theorem d_ProofDesk_feed_23 : decode b_ProofDesk_feed 23 = .ok (.getfield 79, 3) := by decide +kernel
theorem d_ProofDesk_feed_26 : decode b_ProofDesk_feed 26 = .ok (.arraylength, 1) := by decide +kernel
theorem d_ProofDesk_feed_27 : decode b_ProofDesk_feed 27 = .ok (.if_icmp .le 27, 3) := by decide +kernel
theorem d_ProofDesk_feed_54 : decode b_ProofDesk_feed 54 = .ok (.aload_n 0, 1) := by decide +kernel
theorem d_ProofDesk_feed_55 : decode b_ProofDesk_feed 55 = .ok (.iload_n 1, 1) := by decide +kernel
theorem d_ProofDesk_feed_56 : decode b_ProofDesk_feed 56 = .ok (.invokevirtual 99, 3) := by decide +kernel
set_option maxRecDepth 100000 in
theorem kw_595 : (Jvm.Cond.code ({ cls := "ProofDesk", name := "addBytes", desc := "(I)V" } : Jvm.MethodName) prog_1_method_3_code (3 : Nat) (Option.none : Option Jvm.ClassFile.FieldType)) ∈ zw := List.mem_filter.mpr ⟨List.mem_append_right _ (List.mem_of_getElem? (i := 595) rfl), by decide +kernel⟩
theorem kw_1 : (Jvm.Cond.initialized "ProofDesk") ∈ zw := List.mem_filter.mpr ⟨List.mem_append_right _ (List.mem_of_getElem? (i := 1) (by decide +kernel)), by decide +kernel⟩
theorem kw_592 : (Jvm.Cond.methodLink "ProofDesk" (99 : Nat) ({ cls := "ProofDesk", name := "addBytes", desc := "(I)V" } : Jvm.MethodName)) ∈ zw := List.mem_filter.mpr ⟨List.mem_append_right _ (List.mem_of_getElem? (i := 592) (by decide +kernel)), by decide +kernel⟩
theorem kw_594 : (Jvm.Cond.instanceMethod ({ cls := "ProofDesk", name := "addBytes", desc := "(I)V" } : Jvm.MethodName)) ∈ zw := List.mem_filter.mpr ⟨List.mem_append_right _ (List.mem_of_getElem? (i := 594) (by decide +kernel)), by decide +kernel⟩
theorem kp_2 : (Jvm.Cond.selects "ProofDesk" ({ cls := "ProofDesk", name := "addBytes", desc := "(I)V" } : Jvm.MethodName) ({ cls := "ProofDesk", name := "addBytes", desc := "(I)V" } : Jvm.MethodName)) ∈ zw := List.mem_filter.mpr ⟨List.mem_append_left _ (List.mem_of_getElem? (i := 2) (by decide +kernel)), by decide +kernel⟩
theorem d_ProofDesk_feed_59 : decode b_ProofDesk_feed 59 = .ok (.aload_n 0, 1) := by decide +kernel
theorem d_ProofDesk_feed_60 : decode b_ProofDesk_feed 60 = .ok (.iload_n 2, 1) := by decide +kernel
theorem d_ProofDesk_feed_61 : decode b_ProofDesk_feed 61 = .ok (.invokevirtual 99, 3) := by decide +kernel
theorem d_ProofDesk_feed_64 : decode b_ProofDesk_feed 64 = .ok (.aload_n 0, 1) := by decide +kernel
theorem d_ProofDesk_feed_65 : decode b_ProofDesk_feed 65 = .ok (.iload_n 3, 1) := by decide +kernel
theorem d_ProofDesk_feed_66 : decode b_ProofDesk_feed 66 = .ok (.invokevirtual 99, 3) := by decide +kernel
theorem d_ProofDesk_feed_69 : decode b_ProofDesk_feed 69 = .ok (.aload_n 0, 1) := by decide +kernel
theorem d_ProofDesk_feed_70 : decode b_ProofDesk_feed 70 = .ok (.iload 4, 2) := by decide +kernel
theorem d_ProofDesk_feed_72 : decode b_ProofDesk_feed 72 = .ok (.invokevirtual 99, 3) := by decide +kernel
theorem d_ProofDesk_feed_75 : decode b_ProofDesk_feed 75 = .ok (.aload_n 0, 1) := by decide +kernel
theorem d_ProofDesk_feed_76 : decode b_ProofDesk_feed 76 = .ok (.iload 5, 2) := by decide +kernel
theorem d_ProofDesk_feed_78 : decode b_ProofDesk_feed 78 = .ok (.invokevirtual 99, 3) := by decide +kernel
theorem d_ProofDesk_feed_81 : decode b_ProofDesk_feed 81 = .ok (.aload_n 0, 1) := by decide +kernel
theorem d_ProofDesk_feed_82 : decode b_ProofDesk_feed 82 = .ok (.getfield 83, 3) := by decide +kernel
theorem d_ProofDesk_feed_85 : decode b_ProofDesk_feed 85 = .ok (.ireturn, 1) := by decide +kernel
set_option maxHeartbeats 4000000 in
set_option maxRecDepth 100000 in
theorem c_feed_ok (l : Launch) (D : va_G) (cI cB cZ cS : ClassId) (sz : Nat) (h0 : Nat) (bs : Nat) (h0_0 : Value) (h0_1 : Value) (h0_2 : Value) (h0_3 : Value) (h0_4 : Value) (h0_5 : Value) (h0_6 : Value) (va : Int32) (vb : Int32) (vc : Int32) (vd : Int32) (ve : Int32) (k : Nat) (nb : Nat) (f : Nat → Int32) (hk : k + 20 ≤ nb) (hb9 : nb ≤ 16400) : Met l y_ProofDesk_feed (zc y_ProofDesk_feed b_ProofDesk_feed 6 (some .int)) ({ frames := 1, cells := 0, slots := 0, locals := 22 }) (zPc D (zty cI cB cZ cS) [(h0, .inr (11, [h0_0, h0_1, h0_2, h0_3, h0_4, h0_5, h0_6, .ref bs, .int (nI k)])), (bs, .inl (cB, nb, .inl f))] sz [.ref h0, .int va, .int vb, .int vc, .int vd, .int ve]) (va_Qi (fun (r : Int32) (_ : Unit) => r = (nI ((k + 1 + 1 + 1 + 1 + 1 + 1 + 1 + 1 + 1 + 1 + 1 + 1 + 1 + 1 + 1 + 1) + 1 + 1 + 1 + 1))) (fun _ t => va_P D zcl [(h0, .inr (11, [h0_0, h0_1, h0_2, h0_3, h0_4, h0_5, h0_6, .ref bs, .int (nI ((k + 1 + 1 + 1 + 1 + 1 + 1 + 1 + 1 + 1 + 1 + 1 + 1 + 1 + 1 + 1 + 1) + 1 + 1 + 1 + 1))])), (bs, .inl (cB, nb, .inl (upd (upd (upd (upd (upd (upd (upd (upd (upd (upd (upd (upd (upd (upd (upd (upd (upd (upd (upd (upd f (k) ((va >>> (24 &&& 31)).toInt8.toInt32)) ((k) + 1) ((va >>> (16 &&& 31)).toInt8.toInt32)) ((k) + 1 + 1) ((va >>> (8 &&& 31)).toInt8.toInt32)) ((k) + 1 + 1 + 1) ((va >>> (0 &&& 31)).toInt8.toInt32)) (k + 1 + 1 + 1 + 1) ((vb >>> (24 &&& 31)).toInt8.toInt32)) ((k + 1 + 1 + 1 + 1) + 1) ((vb >>> (16 &&& 31)).toInt8.toInt32)) ((k + 1 + 1 + 1 + 1) + 1 + 1) ((vb >>> (8 &&& 31)).toInt8.toInt32)) ((k + 1 + 1 + 1 + 1) + 1 + 1 + 1) ((vb >>> (0 &&& 31)).toInt8.toInt32)) (k + 1 + 1 + 1 + 1 + 1 + 1 + 1 + 1) ((vc >>> (24 &&& 31)).toInt8.toInt32)) ((k + 1 + 1 + 1 + 1 + 1 + 1 + 1 + 1) + 1) ((vc >>> (16 &&& 31)).toInt8.toInt32)) ((k + 1 + 1 + 1 + 1 + 1 + 1 + 1 + 1) + 1 + 1) ((vc >>> (8 &&& 31)).toInt8.toInt32)) ((k + 1 + 1 + 1 + 1 + 1 + 1 + 1 + 1) + 1 + 1 + 1) ((vc >>> (0 &&& 31)).toInt8.toInt32)) (k + 1 + 1 + 1 + 1 + 1 + 1 + 1 + 1 + 1 + 1 + 1 + 1) ((vd >>> (24 &&& 31)).toInt8.toInt32)) ((k + 1 + 1 + 1 + 1 + 1 + 1 + 1 + 1 + 1 + 1 + 1 + 1) + 1) ((vd >>> (16 &&& 31)).toInt8.toInt32)) ((k + 1 + 1 + 1 + 1 + 1 + 1 + 1 + 1 + 1 + 1 + 1 + 1) + 1 + 1) ((vd >>> (8 &&& 31)).toInt8.toInt32)) ((k + 1 + 1 + 1 + 1 + 1 + 1 + 1 + 1 + 1 + 1 + 1 + 1) + 1 + 1 + 1) ((vd >>> (0 &&& 31)).toInt8.toInt32)) (k + 1 + 1 + 1 + 1 + 1 + 1 + 1 + 1 + 1 + 1 + 1 + 1 + 1 + 1 + 1 + 1) ((ve >>> (24 &&& 31)).toInt8.toInt32)) ((k + 1 + 1 + 1 + 1 + 1 + 1 + 1 + 1 + 1 + 1 + 1 + 1 + 1 + 1 + 1 + 1) + 1) ((ve >>> (16 &&& 31)).toInt8.toInt32)) ((k + 1 + 1 + 1 + 1 + 1 + 1 + 1 + 1 + 1 + 1 + 1 + 1 + 1 + 1 + 1 + 1) + 1 + 1) ((ve >>> (8 &&& 31)).toInt8.toInt32)) ((k + 1 + 1 + 1 + 1 + 1 + 1 + 1 + 1 + 1 + 1 + 1 + 1 + 1 + 1 + 1 + 1) + 1 + 1 + 1) ((ve >>> (0 &&& 31)).toInt8.toInt32))))] t.heap ∧ va_D (va_A [(h0, .inr (11, [h0_0, h0_1, h0_2, h0_3, h0_4, h0_5, h0_6, .ref bs, .int (nI k)])), (bs, .inl (cB, nb, .inl f))] sz) [(h0, .inr (11, [h0_0, h0_1, h0_2, h0_3, h0_4, h0_5, h0_6, .ref bs, .int (nI ((k + 1 + 1 + 1 + 1 + 1 + 1 + 1 + 1 + 1 + 1 + 1 + 1 + 1 + 1 + 1 + 1) + 1 + 1 + 1 + 1))])), (bs, .inl (cB, nb, .inl (upd (upd (upd (upd (upd (upd (upd (upd (upd (upd (upd (upd (upd (upd (upd (upd (upd (upd (upd (upd f (k) ((va >>> (24 &&& 31)).toInt8.toInt32)) ((k) + 1) ((va >>> (16 &&& 31)).toInt8.toInt32)) ((k) + 1 + 1) ((va >>> (8 &&& 31)).toInt8.toInt32)) ((k) + 1 + 1 + 1) ((va >>> (0 &&& 31)).toInt8.toInt32)) (k + 1 + 1 + 1 + 1) ((vb >>> (24 &&& 31)).toInt8.toInt32)) ((k + 1 + 1 + 1 + 1) + 1) ((vb >>> (16 &&& 31)).toInt8.toInt32)) ((k + 1 + 1 + 1 + 1) + 1 + 1) ((vb >>> (8 &&& 31)).toInt8.toInt32)) ((k + 1 + 1 + 1 + 1) + 1 + 1 + 1) ((vb >>> (0 &&& 31)).toInt8.toInt32)) (k + 1 + 1 + 1 + 1 + 1 + 1 + 1 + 1) ((vc >>> (24 &&& 31)).toInt8.toInt32)) ((k + 1 + 1 + 1 + 1 + 1 + 1 + 1 + 1) + 1) ((vc >>> (16 &&& 31)).toInt8.toInt32)) ((k + 1 + 1 + 1 + 1 + 1 + 1 + 1 + 1) + 1 + 1) ((vc >>> (8 &&& 31)).toInt8.toInt32)) ((k + 1 + 1 + 1 + 1 + 1 + 1 + 1 + 1) + 1 + 1 + 1) ((vc >>> (0 &&& 31)).toInt8.toInt32)) (k + 1 + 1 + 1 + 1 + 1 + 1 + 1 + 1 + 1 + 1 + 1 + 1) ((vd >>> (24 &&& 31)).toInt8.toInt32)) ((k + 1 + 1 + 1 + 1 + 1 + 1 + 1 + 1 + 1 + 1 + 1 + 1) + 1) ((vd >>> (16 &&& 31)).toInt8.toInt32)) ((k + 1 + 1 + 1 + 1 + 1 + 1 + 1 + 1 + 1 + 1 + 1 + 1) + 1 + 1) ((vd >>> (8 &&& 31)).toInt8.toInt32)) ((k + 1 + 1 + 1 + 1 + 1 + 1 + 1 + 1 + 1 + 1 + 1 + 1) + 1 + 1 + 1) ((vd >>> (0 &&& 31)).toInt8.toInt32)) (k + 1 + 1 + 1 + 1 + 1 + 1 + 1 + 1 + 1 + 1 + 1 + 1 + 1 + 1 + 1 + 1) ((ve >>> (24 &&& 31)).toInt8.toInt32)) ((k + 1 + 1 + 1 + 1 + 1 + 1 + 1 + 1 + 1 + 1 + 1 + 1 + 1 + 1 + 1 + 1) + 1) ((ve >>> (16 &&& 31)).toInt8.toInt32)) ((k + 1 + 1 + 1 + 1 + 1 + 1 + 1 + 1 + 1 + 1 + 1 + 1 + 1 + 1 + 1 + 1) + 1 + 1) ((ve >>> (8 &&& 31)).toInt8.toInt32)) ((k + 1 + 1 + 1 + 1 + 1 + 1 + 1 + 1 + 1 + 1 + 1 + 1 + 1 + 1 + 1 + 1) + 1 + 1 + 1) ((ve >>> (0 &&& 31)).toInt8.toInt32))))]) (va_A [(h0, .inr (11, [h0_0, h0_1, h0_2, h0_3, h0_4, h0_5, h0_6, .ref bs, .int (nI k)])), (bs, .inl (cB, nb, .inl f))] sz)) 0 0 (va_A [(h0, .inr (11, [h0_0, h0_1, h0_2, h0_3, h0_4, h0_5, h0_6, .ref bs, .int (nI k)])), (bs, .inl (cB, nb, .inl f))] sz) := by
  refine Met.ofW (cc := b_ProofDesk_feed) (maxL := 6) (ret := (some .int)) (by decide) rfl ?_
  intro p e s m args below meth c s₁ B hml hv
  obtain ⟨rfl, hsz, hP, ⟨hK, hN⟩, hD0⟩ := hv
  have hx := B.exec
  have hb := B.bytes
  have hr := B.returns
  have hts0 := atoms_spec (ws := zc y_ProofDesk_feed b_ProofDesk_feed 6 (some .int)) B.pre
  have hts : ∀ w ∈ zw, w.before _ s = true := fun w hw => hts0 w (List.mem_cons_of_mem _ hw)
  have hown : s.vm.findClass "ProofDesk" = some m.cls := findClass_of_methodNamed B.named
  have hlocks := B.notSynchronized
  subst hsz
  have hD := hD0.self (sz := s.heap.size)
  generalize hAe : va_A [(h0, .inr (11, [h0_0, h0_1, h0_2, h0_3, h0_4, h0_5, h0_6, .ref bs, .int (nI k)])), (bs, .inl (cB, nb, .inl f))] s.heap.size = A at hD ⊢
  have hA : ∀ q : Nat, s.heap.size ≤ q → A q := fun q h => by rw [← hAe]; exact Or.inr h
  have hS : va_S A s.heap s.heap [] := va_S.rf
  have hP : va_P D zcl [(h0, .inr (11, [h0_0, h0_1, h0_2, h0_3, h0_4, h0_5, h0_6, .ref bs, .int (nI k)])), (bs, .inl (cB, nb, .inl f))] s.heap := hP
  have hl := lv_entry ([.ref h0, .int va, .int vb, .int vc, .int vd, .int ve]) (n := 6) (Nat.le_of_ble_eq_true rfl)
  rw [lg_entry_eq]
  generalize (lg_sl ([.ref h0, .int va, .int vb, .int vc, .int vd, .int ve]) ++ List.replicate (6 - (lg_sl ([.ref h0, .int va, .int vb, .int vc, .int vd, .int ve])).length) Slot.unset).toArray = ls at hl ⊢
  have hl : lv_has ls 6 [(0, .ref h0), (1, .int va), (2, .int vb), (3, .int vc), (4, .int vd), (5, .int ve)] := hl
  refine lv_aload_n hx hb d_ProofDesk_feed_0 rfl (lv_at hl 0 rfl) ?_
  refine va_get (D := D) (ci := 11) (v := .int (nI k)) (C := "ProofDesk") (T := F_ProofDesk) (N := 9) hx hb hts in_ProofDesk hown hK hP 0 rfl rfl 8 (by decide) (hts _ kw_566) (fun _ h9 => h9) rfl d_ProofDesk_feed_1 ?_
  refine lv_bipush (v := 20) hx hb d_ProofDesk_feed_4 (by decide) ?_
  refine lv_iadd hx hb d_ProofDesk_feed_6 ?_
  refine zz_i (y := nI (k + 20)) (show nI k + nI 20 = nI (k + 20) from nI_add k 20) ?_
  refine lv_sipush (v := 16400) hx hb d_ProofDesk_feed_7 (by decide) ?_
  have hc_1 : ((nI (k + 20)) : Int32) ≤ 16400 := show nI (k + 20) ≤ nI 16400 from nI_le (by omega) (by omega)
  refine lv_icmp_le hx hb d_ProofDesk_feed_10 rfl (fun _ => ?_) (fun h => absurd hc_1 h)
  refine lv_aload_n hx hb d_ProofDesk_feed_15 rfl (lv_at hl 0 rfl) ?_
  refine va_get (D := D) (ci := 11) (v := .int (nI k)) (C := "ProofDesk") (T := F_ProofDesk) (N := 9) hx hb hts in_ProofDesk hown hK hP 0 rfl rfl 8 (by decide) (hts _ kw_566) (fun _ h9 => h9) rfl d_ProofDesk_feed_16 ?_
  refine lv_bipush (v := 20) hx hb d_ProofDesk_feed_19 (by decide) ?_
  refine lv_iadd hx hb d_ProofDesk_feed_21 ?_
  refine zz_i (y := nI (k + 20)) (show nI k + nI 20 = nI (k + 20) from nI_add k 20) ?_
  refine lv_aload_n hx hb d_ProofDesk_feed_22 rfl (lv_at hl 0 rfl) ?_
  refine va_get (D := D) (ci := 11) (v := .ref bs) (C := "ProofDesk") (T := F_ProofDesk) (N := 9) hx hb hts in_ProofDesk hown hK hP 0 rfl rfl 7 (by decide) (hts _ kw_565) (fun _ h9 => h9) rfl d_ProofDesk_feed_23 ?_
  refine va_alen (v := (nI nb)) hx hb hK hP 1 1 rfl rfl rfl d_ProofDesk_feed_26 ?_
  have hc_2 : ((nI (k + 20)) : Int32) ≤ (nI nb) := nI_le (by omega) (by omega)
  refine lv_icmp_le hx hb d_ProofDesk_feed_27 rfl (fun _ => ?_) (fun h => absurd hc_2 h)
  refine lv_aload_n hx hb d_ProofDesk_feed_54 rfl (lv_at hl 0 rfl) ?_
  refine lv_iload_n hx hb d_ProofDesk_feed_55 rfl (lv_at hl 1 rfl) ?_
  have hPc := hP.sub (ws' := [(h0, .inr (11, [h0_0, h0_1, h0_2, h0_3, h0_4, h0_5, h0_6, .ref bs, .int (nI (k))])), (bs, .inl (cB, nb, .inl f))]) [0, 1] rfl
  have hDc := hD.sub (ws' := [(h0, .inr (11, [h0_0, h0_1, h0_2, h0_3, h0_4, h0_5, h0_6, .ref bs, .int (nI (k))])), (bs, .inl (cB, nb, .inl f))]) [0, 1] (by decide +kernel) rfl
  have hFc := va_free (wc := [(h0, .inr (11, [h0_0, h0_1, h0_2, h0_3, h0_4, h0_5, h0_6, .ref bs, .int (nI (k))])), (bs, .inl (cB, nb, .inl f))]) hD hS hA [0, 1] rfl
  have hkc : 0 + 0 ≤ 0 := by omega
  have hks : 0 + 0 ≤ 0 := by omega
  refine va_callv (va_runV (As := [.int va]) (rest := []) ⟨hx, hb, hml, hown, hts⟩ (c_addBytes l D cI cB cZ cS s.heap.size h0 bs h0_0 h0_1 h0_2 h0_3 h0_4 h0_5 h0_6 va (k) nb f (by omega) hb9) (⟨callB_of 1 hts (zgood kw_595) rfl rfl rfl (hts _ kw_1) (hts _ kw_592) (by decide +kernel) ⟨Nat.le_of_ble_eq_true rfl, Nat.le_of_ble_eq_true rfl⟩, hts _ kw_594, hts _ kp_2⟩) (zPreV hPc hK hN hDc (va_recv (q := ("ProofDesk", F_ProofDesk, 9)) hK hP rfl (q0 := 0) rfl)) rfl rfl hl.1 rfl (lv_room (Nat.le_of_ble_eq_true rfl)) d_ProofDesk_feed_56 ⟨hkc, hks⟩) hS (fun q _ h => hFc q h) hFc (fun u t H1 locs ht hvm hw hB hz1 hk1 hS => ?_)
  obtain ⟨hP1, hD1⟩ := hB
  rw [ht] at hP1
  obtain ⟨hP, hD⟩ := va_join (wr := []) (w1 := [(h0, .inr (11, [h0_0, h0_1, h0_2, h0_3, h0_4, h0_5, h0_6, .ref bs, .int (nI ((k) + 1 + 1 + 1 + 1))])), (bs, .inl (cB, nb, .inl (upd (upd (upd (upd f (k) ((va >>> (24 &&& 31)).toInt8.toInt32)) ((k) + 1) ((va >>> (16 &&& 31)).toInt8.toInt32)) ((k) + 1 + 1) ((va >>> (8 &&& 31)).toInt8.toInt32)) ((k) + 1 + 1 + 1) ((va >>> (0 &&& 31)).toInt8.toInt32))))]) hP hD [0, 1] [] rfl rfl (by decide +kernel) (by decide +kernel) hk1 hFc hP1 hD1
  generalize H1 = H at hP hS ⊢
  have hP : va_P D zcl [(h0, .inr (11, [h0_0, h0_1, h0_2, h0_3, h0_4, h0_5, h0_6, .ref bs, .int (nI ((k) + 1 + 1 + 1 + 1))])), (bs, .inl (cB, nb, .inl (upd (upd (upd (upd f (k) ((va >>> (24 &&& 31)).toInt8.toInt32)) ((k) + 1) ((va >>> (16 &&& 31)).toInt8.toInt32)) ((k) + 1 + 1) ((va >>> (8 &&& 31)).toInt8.toInt32)) ((k) + 1 + 1 + 1) ((va >>> (0 &&& 31)).toInt8.toInt32))))] H := hP
  have hD : va_D A [(h0, .inr (11, [h0_0, h0_1, h0_2, h0_3, h0_4, h0_5, h0_6, .ref bs, .int (nI ((k) + 1 + 1 + 1 + 1))])), (bs, .inl (cB, nb, .inl (upd (upd (upd (upd f (k) ((va >>> (24 &&& 31)).toInt8.toInt32)) ((k) + 1) ((va >>> (16 &&& 31)).toInt8.toInt32)) ((k) + 1 + 1) ((va >>> (8 &&& 31)).toInt8.toInt32)) ((k) + 1 + 1 + 1) ((va >>> (0 &&& 31)).toInt8.toInt32))))] := hD
  refine W.widen (k := 0) (n := 0) (by omega) (by omega) ?_
  refine lv_aload_n hx hb d_ProofDesk_feed_59 rfl (lv_at hl 0 rfl) ?_
  refine lv_iload_n hx hb d_ProofDesk_feed_60 rfl (lv_at hl 2 rfl) ?_
  have hPc := hP.sub (ws' := [(h0, .inr (11, [h0_0, h0_1, h0_2, h0_3, h0_4, h0_5, h0_6, .ref bs, .int (nI (k + 1 + 1 + 1 + 1))])), (bs, .inl (cB, nb, .inl (upd (upd (upd (upd f (k) ((va >>> (24 &&& 31)).toInt8.toInt32)) ((k) + 1) ((va >>> (16 &&& 31)).toInt8.toInt32)) ((k) + 1 + 1) ((va >>> (8 &&& 31)).toInt8.toInt32)) ((k) + 1 + 1 + 1) ((va >>> (0 &&& 31)).toInt8.toInt32))))]) [0, 1] rfl
  have hDc := hD.sub (ws' := [(h0, .inr (11, [h0_0, h0_1, h0_2, h0_3, h0_4, h0_5, h0_6, .ref bs, .int (nI (k + 1 + 1 + 1 + 1))])), (bs, .inl (cB, nb, .inl (upd (upd (upd (upd f (k) ((va >>> (24 &&& 31)).toInt8.toInt32)) ((k) + 1) ((va >>> (16 &&& 31)).toInt8.toInt32)) ((k) + 1 + 1) ((va >>> (8 &&& 31)).toInt8.toInt32)) ((k) + 1 + 1 + 1) ((va >>> (0 &&& 31)).toInt8.toInt32))))]) [0, 1] (by decide +kernel) rfl
  have hFc := va_free (wc := [(h0, .inr (11, [h0_0, h0_1, h0_2, h0_3, h0_4, h0_5, h0_6, .ref bs, .int (nI (k + 1 + 1 + 1 + 1))])), (bs, .inl (cB, nb, .inl (upd (upd (upd (upd f (k) ((va >>> (24 &&& 31)).toInt8.toInt32)) ((k) + 1) ((va >>> (16 &&& 31)).toInt8.toInt32)) ((k) + 1 + 1) ((va >>> (8 &&& 31)).toInt8.toInt32)) ((k) + 1 + 1 + 1) ((va >>> (0 &&& 31)).toInt8.toInt32))))]) hD hS hA [0, 1] rfl
  have hkc : 0 + 0 ≤ 0 := by omega
  have hks : 0 + 0 ≤ 0 := by omega
  refine va_callv (va_runV (As := [.int vb]) (rest := []) ⟨hx, hb, hml, hown, hts⟩ (c_addBytes l D cI cB cZ cS H.size h0 bs h0_0 h0_1 h0_2 h0_3 h0_4 h0_5 h0_6 vb (k + 1 + 1 + 1 + 1) nb (upd (upd (upd (upd f (k) ((va >>> (24 &&& 31)).toInt8.toInt32)) ((k) + 1) ((va >>> (16 &&& 31)).toInt8.toInt32)) ((k) + 1 + 1) ((va >>> (8 &&& 31)).toInt8.toInt32)) ((k) + 1 + 1 + 1) ((va >>> (0 &&& 31)).toInt8.toInt32)) (by omega) hb9) (⟨callB_of 1 hts (zgood kw_595) rfl rfl rfl (hts _ kw_1) (hts _ kw_592) (by decide +kernel) ⟨Nat.le_of_ble_eq_true rfl, Nat.le_of_ble_eq_true rfl⟩, hts _ kw_594, hts _ kp_2⟩) (zPreV hPc hK hN hDc (va_recv (q := ("ProofDesk", F_ProofDesk, 9)) hK hP rfl (q0 := 0) rfl)) rfl rfl hl.1 rfl (lv_room (Nat.le_of_ble_eq_true rfl)) d_ProofDesk_feed_61 ⟨hkc, hks⟩) hS (fun q _ h => hFc q h) hFc (fun u t H1 locs ht hvm hw hB hz1 hk1 hS => ?_)
  obtain ⟨hP1, hD1⟩ := hB
  rw [ht] at hP1
  obtain ⟨hP, hD⟩ := va_join (wr := []) (w1 := [(h0, .inr (11, [h0_0, h0_1, h0_2, h0_3, h0_4, h0_5, h0_6, .ref bs, .int (nI ((k + 1 + 1 + 1 + 1) + 1 + 1 + 1 + 1))])), (bs, .inl (cB, nb, .inl (upd (upd (upd (upd (upd (upd (upd (upd f (k) ((va >>> (24 &&& 31)).toInt8.toInt32)) ((k) + 1) ((va >>> (16 &&& 31)).toInt8.toInt32)) ((k) + 1 + 1) ((va >>> (8 &&& 31)).toInt8.toInt32)) ((k) + 1 + 1 + 1) ((va >>> (0 &&& 31)).toInt8.toInt32)) (k + 1 + 1 + 1 + 1) ((vb >>> (24 &&& 31)).toInt8.toInt32)) ((k + 1 + 1 + 1 + 1) + 1) ((vb >>> (16 &&& 31)).toInt8.toInt32)) ((k + 1 + 1 + 1 + 1) + 1 + 1) ((vb >>> (8 &&& 31)).toInt8.toInt32)) ((k + 1 + 1 + 1 + 1) + 1 + 1 + 1) ((vb >>> (0 &&& 31)).toInt8.toInt32))))]) hP hD [0, 1] [] rfl rfl (by decide +kernel) (by decide +kernel) hk1 hFc hP1 hD1
  generalize H1 = H at hP hS ⊢
  have hP : va_P D zcl [(h0, .inr (11, [h0_0, h0_1, h0_2, h0_3, h0_4, h0_5, h0_6, .ref bs, .int (nI ((k + 1 + 1 + 1 + 1) + 1 + 1 + 1 + 1))])), (bs, .inl (cB, nb, .inl (upd (upd (upd (upd (upd (upd (upd (upd f (k) ((va >>> (24 &&& 31)).toInt8.toInt32)) ((k) + 1) ((va >>> (16 &&& 31)).toInt8.toInt32)) ((k) + 1 + 1) ((va >>> (8 &&& 31)).toInt8.toInt32)) ((k) + 1 + 1 + 1) ((va >>> (0 &&& 31)).toInt8.toInt32)) (k + 1 + 1 + 1 + 1) ((vb >>> (24 &&& 31)).toInt8.toInt32)) ((k + 1 + 1 + 1 + 1) + 1) ((vb >>> (16 &&& 31)).toInt8.toInt32)) ((k + 1 + 1 + 1 + 1) + 1 + 1) ((vb >>> (8 &&& 31)).toInt8.toInt32)) ((k + 1 + 1 + 1 + 1) + 1 + 1 + 1) ((vb >>> (0 &&& 31)).toInt8.toInt32))))] H := hP
  have hD : va_D A [(h0, .inr (11, [h0_0, h0_1, h0_2, h0_3, h0_4, h0_5, h0_6, .ref bs, .int (nI ((k + 1 + 1 + 1 + 1) + 1 + 1 + 1 + 1))])), (bs, .inl (cB, nb, .inl (upd (upd (upd (upd (upd (upd (upd (upd f (k) ((va >>> (24 &&& 31)).toInt8.toInt32)) ((k) + 1) ((va >>> (16 &&& 31)).toInt8.toInt32)) ((k) + 1 + 1) ((va >>> (8 &&& 31)).toInt8.toInt32)) ((k) + 1 + 1 + 1) ((va >>> (0 &&& 31)).toInt8.toInt32)) (k + 1 + 1 + 1 + 1) ((vb >>> (24 &&& 31)).toInt8.toInt32)) ((k + 1 + 1 + 1 + 1) + 1) ((vb >>> (16 &&& 31)).toInt8.toInt32)) ((k + 1 + 1 + 1 + 1) + 1 + 1) ((vb >>> (8 &&& 31)).toInt8.toInt32)) ((k + 1 + 1 + 1 + 1) + 1 + 1 + 1) ((vb >>> (0 &&& 31)).toInt8.toInt32))))] := hD
  refine W.widen (k := 0) (n := 0) (by omega) (by omega) ?_
  refine lv_aload_n hx hb d_ProofDesk_feed_64 rfl (lv_at hl 0 rfl) ?_
  refine lv_iload_n hx hb d_ProofDesk_feed_65 rfl (lv_at hl 3 rfl) ?_
  have hPc := hP.sub (ws' := [(h0, .inr (11, [h0_0, h0_1, h0_2, h0_3, h0_4, h0_5, h0_6, .ref bs, .int (nI (k + 1 + 1 + 1 + 1 + 1 + 1 + 1 + 1))])), (bs, .inl (cB, nb, .inl (upd (upd (upd (upd (upd (upd (upd (upd f (k) ((va >>> (24 &&& 31)).toInt8.toInt32)) ((k) + 1) ((va >>> (16 &&& 31)).toInt8.toInt32)) ((k) + 1 + 1) ((va >>> (8 &&& 31)).toInt8.toInt32)) ((k) + 1 + 1 + 1) ((va >>> (0 &&& 31)).toInt8.toInt32)) (k + 1 + 1 + 1 + 1) ((vb >>> (24 &&& 31)).toInt8.toInt32)) ((k + 1 + 1 + 1 + 1) + 1) ((vb >>> (16 &&& 31)).toInt8.toInt32)) ((k + 1 + 1 + 1 + 1) + 1 + 1) ((vb >>> (8 &&& 31)).toInt8.toInt32)) ((k + 1 + 1 + 1 + 1) + 1 + 1 + 1) ((vb >>> (0 &&& 31)).toInt8.toInt32))))]) [0, 1] rfl
  have hDc := hD.sub (ws' := [(h0, .inr (11, [h0_0, h0_1, h0_2, h0_3, h0_4, h0_5, h0_6, .ref bs, .int (nI (k + 1 + 1 + 1 + 1 + 1 + 1 + 1 + 1))])), (bs, .inl (cB, nb, .inl (upd (upd (upd (upd (upd (upd (upd (upd f (k) ((va >>> (24 &&& 31)).toInt8.toInt32)) ((k) + 1) ((va >>> (16 &&& 31)).toInt8.toInt32)) ((k) + 1 + 1) ((va >>> (8 &&& 31)).toInt8.toInt32)) ((k) + 1 + 1 + 1) ((va >>> (0 &&& 31)).toInt8.toInt32)) (k + 1 + 1 + 1 + 1) ((vb >>> (24 &&& 31)).toInt8.toInt32)) ((k + 1 + 1 + 1 + 1) + 1) ((vb >>> (16 &&& 31)).toInt8.toInt32)) ((k + 1 + 1 + 1 + 1) + 1 + 1) ((vb >>> (8 &&& 31)).toInt8.toInt32)) ((k + 1 + 1 + 1 + 1) + 1 + 1 + 1) ((vb >>> (0 &&& 31)).toInt8.toInt32))))]) [0, 1] (by decide +kernel) rfl
  have hFc := va_free (wc := [(h0, .inr (11, [h0_0, h0_1, h0_2, h0_3, h0_4, h0_5, h0_6, .ref bs, .int (nI (k + 1 + 1 + 1 + 1 + 1 + 1 + 1 + 1))])), (bs, .inl (cB, nb, .inl (upd (upd (upd (upd (upd (upd (upd (upd f (k) ((va >>> (24 &&& 31)).toInt8.toInt32)) ((k) + 1) ((va >>> (16 &&& 31)).toInt8.toInt32)) ((k) + 1 + 1) ((va >>> (8 &&& 31)).toInt8.toInt32)) ((k) + 1 + 1 + 1) ((va >>> (0 &&& 31)).toInt8.toInt32)) (k + 1 + 1 + 1 + 1) ((vb >>> (24 &&& 31)).toInt8.toInt32)) ((k + 1 + 1 + 1 + 1) + 1) ((vb >>> (16 &&& 31)).toInt8.toInt32)) ((k + 1 + 1 + 1 + 1) + 1 + 1) ((vb >>> (8 &&& 31)).toInt8.toInt32)) ((k + 1 + 1 + 1 + 1) + 1 + 1 + 1) ((vb >>> (0 &&& 31)).toInt8.toInt32))))]) hD hS hA [0, 1] rfl
  have hkc : 0 + 0 ≤ 0 := by omega
  have hks : 0 + 0 ≤ 0 := by omega
  refine va_callv (va_runV (As := [.int vc]) (rest := []) ⟨hx, hb, hml, hown, hts⟩ (c_addBytes l D cI cB cZ cS H.size h0 bs h0_0 h0_1 h0_2 h0_3 h0_4 h0_5 h0_6 vc (k + 1 + 1 + 1 + 1 + 1 + 1 + 1 + 1) nb (upd (upd (upd (upd (upd (upd (upd (upd f (k) ((va >>> (24 &&& 31)).toInt8.toInt32)) ((k) + 1) ((va >>> (16 &&& 31)).toInt8.toInt32)) ((k) + 1 + 1) ((va >>> (8 &&& 31)).toInt8.toInt32)) ((k) + 1 + 1 + 1) ((va >>> (0 &&& 31)).toInt8.toInt32)) (k + 1 + 1 + 1 + 1) ((vb >>> (24 &&& 31)).toInt8.toInt32)) ((k + 1 + 1 + 1 + 1) + 1) ((vb >>> (16 &&& 31)).toInt8.toInt32)) ((k + 1 + 1 + 1 + 1) + 1 + 1) ((vb >>> (8 &&& 31)).toInt8.toInt32)) ((k + 1 + 1 + 1 + 1) + 1 + 1 + 1) ((vb >>> (0 &&& 31)).toInt8.toInt32)) (by omega) hb9) (⟨callB_of 1 hts (zgood kw_595) rfl rfl rfl (hts _ kw_1) (hts _ kw_592) (by decide +kernel) ⟨Nat.le_of_ble_eq_true rfl, Nat.le_of_ble_eq_true rfl⟩, hts _ kw_594, hts _ kp_2⟩) (zPreV hPc hK hN hDc (va_recv (q := ("ProofDesk", F_ProofDesk, 9)) hK hP rfl (q0 := 0) rfl)) rfl rfl hl.1 rfl (lv_room (Nat.le_of_ble_eq_true rfl)) d_ProofDesk_feed_66 ⟨hkc, hks⟩) hS (fun q _ h => hFc q h) hFc (fun u t H1 locs ht hvm hw hB hz1 hk1 hS => ?_)
  obtain ⟨hP1, hD1⟩ := hB
  rw [ht] at hP1
  obtain ⟨hP, hD⟩ := va_join (wr := []) (w1 := [(h0, .inr (11, [h0_0, h0_1, h0_2, h0_3, h0_4, h0_5, h0_6, .ref bs, .int (nI ((k + 1 + 1 + 1 + 1 + 1 + 1 + 1 + 1) + 1 + 1 + 1 + 1))])), (bs, .inl (cB, nb, .inl (upd (upd (upd (upd (upd (upd (upd (upd (upd (upd (upd (upd f (k) ((va >>> (24 &&& 31)).toInt8.toInt32)) ((k) + 1) ((va >>> (16 &&& 31)).toInt8.toInt32)) ((k) + 1 + 1) ((va >>> (8 &&& 31)).toInt8.toInt32)) ((k) + 1 + 1 + 1) ((va >>> (0 &&& 31)).toInt8.toInt32)) (k + 1 + 1 + 1 + 1) ((vb >>> (24 &&& 31)).toInt8.toInt32)) ((k + 1 + 1 + 1 + 1) + 1) ((vb >>> (16 &&& 31)).toInt8.toInt32)) ((k + 1 + 1 + 1 + 1) + 1 + 1) ((vb >>> (8 &&& 31)).toInt8.toInt32)) ((k + 1 + 1 + 1 + 1) + 1 + 1 + 1) ((vb >>> (0 &&& 31)).toInt8.toInt32)) (k + 1 + 1 + 1 + 1 + 1 + 1 + 1 + 1) ((vc >>> (24 &&& 31)).toInt8.toInt32)) ((k + 1 + 1 + 1 + 1 + 1 + 1 + 1 + 1) + 1) ((vc >>> (16 &&& 31)).toInt8.toInt32)) ((k + 1 + 1 + 1 + 1 + 1 + 1 + 1 + 1) + 1 + 1) ((vc >>> (8 &&& 31)).toInt8.toInt32)) ((k + 1 + 1 + 1 + 1 + 1 + 1 + 1 + 1) + 1 + 1 + 1) ((vc >>> (0 &&& 31)).toInt8.toInt32))))]) hP hD [0, 1] [] rfl rfl (by decide +kernel) (by decide +kernel) hk1 hFc hP1 hD1
  generalize H1 = H at hP hS ⊢
  have hP : va_P D zcl [(h0, .inr (11, [h0_0, h0_1, h0_2, h0_3, h0_4, h0_5, h0_6, .ref bs, .int (nI ((k + 1 + 1 + 1 + 1 + 1 + 1 + 1 + 1) + 1 + 1 + 1 + 1))])), (bs, .inl (cB, nb, .inl (upd (upd (upd (upd (upd (upd (upd (upd (upd (upd (upd (upd f (k) ((va >>> (24 &&& 31)).toInt8.toInt32)) ((k) + 1) ((va >>> (16 &&& 31)).toInt8.toInt32)) ((k) + 1 + 1) ((va >>> (8 &&& 31)).toInt8.toInt32)) ((k) + 1 + 1 + 1) ((va >>> (0 &&& 31)).toInt8.toInt32)) (k + 1 + 1 + 1 + 1) ((vb >>> (24 &&& 31)).toInt8.toInt32)) ((k + 1 + 1 + 1 + 1) + 1) ((vb >>> (16 &&& 31)).toInt8.toInt32)) ((k + 1 + 1 + 1 + 1) + 1 + 1) ((vb >>> (8 &&& 31)).toInt8.toInt32)) ((k + 1 + 1 + 1 + 1) + 1 + 1 + 1) ((vb >>> (0 &&& 31)).toInt8.toInt32)) (k + 1 + 1 + 1 + 1 + 1 + 1 + 1 + 1) ((vc >>> (24 &&& 31)).toInt8.toInt32)) ((k + 1 + 1 + 1 + 1 + 1 + 1 + 1 + 1) + 1) ((vc >>> (16 &&& 31)).toInt8.toInt32)) ((k + 1 + 1 + 1 + 1 + 1 + 1 + 1 + 1) + 1 + 1) ((vc >>> (8 &&& 31)).toInt8.toInt32)) ((k + 1 + 1 + 1 + 1 + 1 + 1 + 1 + 1) + 1 + 1 + 1) ((vc >>> (0 &&& 31)).toInt8.toInt32))))] H := hP
  have hD : va_D A [(h0, .inr (11, [h0_0, h0_1, h0_2, h0_3, h0_4, h0_5, h0_6, .ref bs, .int (nI ((k + 1 + 1 + 1 + 1 + 1 + 1 + 1 + 1) + 1 + 1 + 1 + 1))])), (bs, .inl (cB, nb, .inl (upd (upd (upd (upd (upd (upd (upd (upd (upd (upd (upd (upd f (k) ((va >>> (24 &&& 31)).toInt8.toInt32)) ((k) + 1) ((va >>> (16 &&& 31)).toInt8.toInt32)) ((k) + 1 + 1) ((va >>> (8 &&& 31)).toInt8.toInt32)) ((k) + 1 + 1 + 1) ((va >>> (0 &&& 31)).toInt8.toInt32)) (k + 1 + 1 + 1 + 1) ((vb >>> (24 &&& 31)).toInt8.toInt32)) ((k + 1 + 1 + 1 + 1) + 1) ((vb >>> (16 &&& 31)).toInt8.toInt32)) ((k + 1 + 1 + 1 + 1) + 1 + 1) ((vb >>> (8 &&& 31)).toInt8.toInt32)) ((k + 1 + 1 + 1 + 1) + 1 + 1 + 1) ((vb >>> (0 &&& 31)).toInt8.toInt32)) (k + 1 + 1 + 1 + 1 + 1 + 1 + 1 + 1) ((vc >>> (24 &&& 31)).toInt8.toInt32)) ((k + 1 + 1 + 1 + 1 + 1 + 1 + 1 + 1) + 1) ((vc >>> (16 &&& 31)).toInt8.toInt32)) ((k + 1 + 1 + 1 + 1 + 1 + 1 + 1 + 1) + 1 + 1) ((vc >>> (8 &&& 31)).toInt8.toInt32)) ((k + 1 + 1 + 1 + 1 + 1 + 1 + 1 + 1) + 1 + 1 + 1) ((vc >>> (0 &&& 31)).toInt8.toInt32))))] := hD
  refine W.widen (k := 0) (n := 0) (by omega) (by omega) ?_
  refine lv_aload_n hx hb d_ProofDesk_feed_69 rfl (lv_at hl 0 rfl) ?_
  refine lv_iload hx hb d_ProofDesk_feed_70 (lv_at hl 4 rfl) ?_
  have hPc := hP.sub (ws' := [(h0, .inr (11, [h0_0, h0_1, h0_2, h0_3, h0_4, h0_5, h0_6, .ref bs, .int (nI (k + 1 + 1 + 1 + 1 + 1 + 1 + 1 + 1 + 1 + 1 + 1 + 1))])), (bs, .inl (cB, nb, .inl (upd (upd (upd (upd (upd (upd (upd (upd (upd (upd (upd (upd f (k) ((va >>> (24 &&& 31)).toInt8.toInt32)) ((k) + 1) ((va >>> (16 &&& 31)).toInt8.toInt32)) ((k) + 1 + 1) ((va >>> (8 &&& 31)).toInt8.toInt32)) ((k) + 1 + 1 + 1) ((va >>> (0 &&& 31)).toInt8.toInt32)) (k + 1 + 1 + 1 + 1) ((vb >>> (24 &&& 31)).toInt8.toInt32)) ((k + 1 + 1 + 1 + 1) + 1) ((vb >>> (16 &&& 31)).toInt8.toInt32)) ((k + 1 + 1 + 1 + 1) + 1 + 1) ((vb >>> (8 &&& 31)).toInt8.toInt32)) ((k + 1 + 1 + 1 + 1) + 1 + 1 + 1) ((vb >>> (0 &&& 31)).toInt8.toInt32)) (k + 1 + 1 + 1 + 1 + 1 + 1 + 1 + 1) ((vc >>> (24 &&& 31)).toInt8.toInt32)) ((k + 1 + 1 + 1 + 1 + 1 + 1 + 1 + 1) + 1) ((vc >>> (16 &&& 31)).toInt8.toInt32)) ((k + 1 + 1 + 1 + 1 + 1 + 1 + 1 + 1) + 1 + 1) ((vc >>> (8 &&& 31)).toInt8.toInt32)) ((k + 1 + 1 + 1 + 1 + 1 + 1 + 1 + 1) + 1 + 1 + 1) ((vc >>> (0 &&& 31)).toInt8.toInt32))))]) [0, 1] rfl
  have hDc := hD.sub (ws' := [(h0, .inr (11, [h0_0, h0_1, h0_2, h0_3, h0_4, h0_5, h0_6, .ref bs, .int (nI (k + 1 + 1 + 1 + 1 + 1 + 1 + 1 + 1 + 1 + 1 + 1 + 1))])), (bs, .inl (cB, nb, .inl (upd (upd (upd (upd (upd (upd (upd (upd (upd (upd (upd (upd f (k) ((va >>> (24 &&& 31)).toInt8.toInt32)) ((k) + 1) ((va >>> (16 &&& 31)).toInt8.toInt32)) ((k) + 1 + 1) ((va >>> (8 &&& 31)).toInt8.toInt32)) ((k) + 1 + 1 + 1) ((va >>> (0 &&& 31)).toInt8.toInt32)) (k + 1 + 1 + 1 + 1) ((vb >>> (24 &&& 31)).toInt8.toInt32)) ((k + 1 + 1 + 1 + 1) + 1) ((vb >>> (16 &&& 31)).toInt8.toInt32)) ((k + 1 + 1 + 1 + 1) + 1 + 1) ((vb >>> (8 &&& 31)).toInt8.toInt32)) ((k + 1 + 1 + 1 + 1) + 1 + 1 + 1) ((vb >>> (0 &&& 31)).toInt8.toInt32)) (k + 1 + 1 + 1 + 1 + 1 + 1 + 1 + 1) ((vc >>> (24 &&& 31)).toInt8.toInt32)) ((k + 1 + 1 + 1 + 1 + 1 + 1 + 1 + 1) + 1) ((vc >>> (16 &&& 31)).toInt8.toInt32)) ((k + 1 + 1 + 1 + 1 + 1 + 1 + 1 + 1) + 1 + 1) ((vc >>> (8 &&& 31)).toInt8.toInt32)) ((k + 1 + 1 + 1 + 1 + 1 + 1 + 1 + 1) + 1 + 1 + 1) ((vc >>> (0 &&& 31)).toInt8.toInt32))))]) [0, 1] (by decide +kernel) rfl
  have hFc := va_free (wc := [(h0, .inr (11, [h0_0, h0_1, h0_2, h0_3, h0_4, h0_5, h0_6, .ref bs, .int (nI (k + 1 + 1 + 1 + 1 + 1 + 1 + 1 + 1 + 1 + 1 + 1 + 1))])), (bs, .inl (cB, nb, .inl (upd (upd (upd (upd (upd (upd (upd (upd (upd (upd (upd (upd f (k) ((va >>> (24 &&& 31)).toInt8.toInt32)) ((k) + 1) ((va >>> (16 &&& 31)).toInt8.toInt32)) ((k) + 1 + 1) ((va >>> (8 &&& 31)).toInt8.toInt32)) ((k) + 1 + 1 + 1) ((va >>> (0 &&& 31)).toInt8.toInt32)) (k + 1 + 1 + 1 + 1) ((vb >>> (24 &&& 31)).toInt8.toInt32)) ((k + 1 + 1 + 1 + 1) + 1) ((vb >>> (16 &&& 31)).toInt8.toInt32)) ((k + 1 + 1 + 1 + 1) + 1 + 1) ((vb >>> (8 &&& 31)).toInt8.toInt32)) ((k + 1 + 1 + 1 + 1) + 1 + 1 + 1) ((vb >>> (0 &&& 31)).toInt8.toInt32)) (k + 1 + 1 + 1 + 1 + 1 + 1 + 1 + 1) ((vc >>> (24 &&& 31)).toInt8.toInt32)) ((k + 1 + 1 + 1 + 1 + 1 + 1 + 1 + 1) + 1) ((vc >>> (16 &&& 31)).toInt8.toInt32)) ((k + 1 + 1 + 1 + 1 + 1 + 1 + 1 + 1) + 1 + 1) ((vc >>> (8 &&& 31)).toInt8.toInt32)) ((k + 1 + 1 + 1 + 1 + 1 + 1 + 1 + 1) + 1 + 1 + 1) ((vc >>> (0 &&& 31)).toInt8.toInt32))))]) hD hS hA [0, 1] rfl
  have hkc : 0 + 0 ≤ 0 := by omega
  have hks : 0 + 0 ≤ 0 := by omega
  refine va_callv (va_runV (As := [.int vd]) (rest := []) ⟨hx, hb, hml, hown, hts⟩ (c_addBytes l D cI cB cZ cS H.size h0 bs h0_0 h0_1 h0_2 h0_3 h0_4 h0_5 h0_6 vd (k + 1 + 1 + 1 + 1 + 1 + 1 + 1 + 1 + 1 + 1 + 1 + 1) nb (upd (upd (upd (upd (upd (upd (upd (upd (upd (upd (upd (upd f (k) ((va >>> (24 &&& 31)).toInt8.toInt32)) ((k) + 1) ((va >>> (16 &&& 31)).toInt8.toInt32)) ((k) + 1 + 1) ((va >>> (8 &&& 31)).toInt8.toInt32)) ((k) + 1 + 1 + 1) ((va >>> (0 &&& 31)).toInt8.toInt32)) (k + 1 + 1 + 1 + 1) ((vb >>> (24 &&& 31)).toInt8.toInt32)) ((k + 1 + 1 + 1 + 1) + 1) ((vb >>> (16 &&& 31)).toInt8.toInt32)) ((k + 1 + 1 + 1 + 1) + 1 + 1) ((vb >>> (8 &&& 31)).toInt8.toInt32)) ((k + 1 + 1 + 1 + 1) + 1 + 1 + 1) ((vb >>> (0 &&& 31)).toInt8.toInt32)) (k + 1 + 1 + 1 + 1 + 1 + 1 + 1 + 1) ((vc >>> (24 &&& 31)).toInt8.toInt32)) ((k + 1 + 1 + 1 + 1 + 1 + 1 + 1 + 1) + 1) ((vc >>> (16 &&& 31)).toInt8.toInt32)) ((k + 1 + 1 + 1 + 1 + 1 + 1 + 1 + 1) + 1 + 1) ((vc >>> (8 &&& 31)).toInt8.toInt32)) ((k + 1 + 1 + 1 + 1 + 1 + 1 + 1 + 1) + 1 + 1 + 1) ((vc >>> (0 &&& 31)).toInt8.toInt32)) (by omega) hb9) (⟨callB_of 1 hts (zgood kw_595) rfl rfl rfl (hts _ kw_1) (hts _ kw_592) (by decide +kernel) ⟨Nat.le_of_ble_eq_true rfl, Nat.le_of_ble_eq_true rfl⟩, hts _ kw_594, hts _ kp_2⟩) (zPreV hPc hK hN hDc (va_recv (q := ("ProofDesk", F_ProofDesk, 9)) hK hP rfl (q0 := 0) rfl)) rfl rfl hl.1 rfl (lv_room (Nat.le_of_ble_eq_true rfl)) d_ProofDesk_feed_72 ⟨hkc, hks⟩) hS (fun q _ h => hFc q h) hFc (fun u t H1 locs ht hvm hw hB hz1 hk1 hS => ?_)
  obtain ⟨hP1, hD1⟩ := hB
  rw [ht] at hP1
  obtain ⟨hP, hD⟩ := va_join (wr := []) (w1 := [(h0, .inr (11, [h0_0, h0_1, h0_2, h0_3, h0_4, h0_5, h0_6, .ref bs, .int (nI ((k + 1 + 1 + 1 + 1 + 1 + 1 + 1 + 1 + 1 + 1 + 1 + 1) + 1 + 1 + 1 + 1))])), (bs, .inl (cB, nb, .inl (upd (upd (upd (upd (upd (upd (upd (upd (upd (upd (upd (upd (upd (upd (upd (upd f (k) ((va >>> (24 &&& 31)).toInt8.toInt32)) ((k) + 1) ((va >>> (16 &&& 31)).toInt8.toInt32)) ((k) + 1 + 1) ((va >>> (8 &&& 31)).toInt8.toInt32)) ((k) + 1 + 1 + 1) ((va >>> (0 &&& 31)).toInt8.toInt32)) (k + 1 + 1 + 1 + 1) ((vb >>> (24 &&& 31)).toInt8.toInt32)) ((k + 1 + 1 + 1 + 1) + 1) ((vb >>> (16 &&& 31)).toInt8.toInt32)) ((k + 1 + 1 + 1 + 1) + 1 + 1) ((vb >>> (8 &&& 31)).toInt8.toInt32)) ((k + 1 + 1 + 1 + 1) + 1 + 1 + 1) ((vb >>> (0 &&& 31)).toInt8.toInt32)) (k + 1 + 1 + 1 + 1 + 1 + 1 + 1 + 1) ((vc >>> (24 &&& 31)).toInt8.toInt32)) ((k + 1 + 1 + 1 + 1 + 1 + 1 + 1 + 1) + 1) ((vc >>> (16 &&& 31)).toInt8.toInt32)) ((k + 1 + 1 + 1 + 1 + 1 + 1 + 1 + 1) + 1 + 1) ((vc >>> (8 &&& 31)).toInt8.toInt32)) ((k + 1 + 1 + 1 + 1 + 1 + 1 + 1 + 1) + 1 + 1 + 1) ((vc >>> (0 &&& 31)).toInt8.toInt32)) (k + 1 + 1 + 1 + 1 + 1 + 1 + 1 + 1 + 1 + 1 + 1 + 1) ((vd >>> (24 &&& 31)).toInt8.toInt32)) ((k + 1 + 1 + 1 + 1 + 1 + 1 + 1 + 1 + 1 + 1 + 1 + 1) + 1) ((vd >>> (16 &&& 31)).toInt8.toInt32)) ((k + 1 + 1 + 1 + 1 + 1 + 1 + 1 + 1 + 1 + 1 + 1 + 1) + 1 + 1) ((vd >>> (8 &&& 31)).toInt8.toInt32)) ((k + 1 + 1 + 1 + 1 + 1 + 1 + 1 + 1 + 1 + 1 + 1 + 1) + 1 + 1 + 1) ((vd >>> (0 &&& 31)).toInt8.toInt32))))]) hP hD [0, 1] [] rfl rfl (by decide +kernel) (by decide +kernel) hk1 hFc hP1 hD1
  generalize H1 = H at hP hS ⊢
  have hP : va_P D zcl [(h0, .inr (11, [h0_0, h0_1, h0_2, h0_3, h0_4, h0_5, h0_6, .ref bs, .int (nI ((k + 1 + 1 + 1 + 1 + 1 + 1 + 1 + 1 + 1 + 1 + 1 + 1) + 1 + 1 + 1 + 1))])), (bs, .inl (cB, nb, .inl (upd (upd (upd (upd (upd (upd (upd (upd (upd (upd (upd (upd (upd (upd (upd (upd f (k) ((va >>> (24 &&& 31)).toInt8.toInt32)) ((k) + 1) ((va >>> (16 &&& 31)).toInt8.toInt32)) ((k) + 1 + 1) ((va >>> (8 &&& 31)).toInt8.toInt32)) ((k) + 1 + 1 + 1) ((va >>> (0 &&& 31)).toInt8.toInt32)) (k + 1 + 1 + 1 + 1) ((vb >>> (24 &&& 31)).toInt8.toInt32)) ((k + 1 + 1 + 1 + 1) + 1) ((vb >>> (16 &&& 31)).toInt8.toInt32)) ((k + 1 + 1 + 1 + 1) + 1 + 1) ((vb >>> (8 &&& 31)).toInt8.toInt32)) ((k + 1 + 1 + 1 + 1) + 1 + 1 + 1) ((vb >>> (0 &&& 31)).toInt8.toInt32)) (k + 1 + 1 + 1 + 1 + 1 + 1 + 1 + 1) ((vc >>> (24 &&& 31)).toInt8.toInt32)) ((k + 1 + 1 + 1 + 1 + 1 + 1 + 1 + 1) + 1) ((vc >>> (16 &&& 31)).toInt8.toInt32)) ((k + 1 + 1 + 1 + 1 + 1 + 1 + 1 + 1) + 1 + 1) ((vc >>> (8 &&& 31)).toInt8.toInt32)) ((k + 1 + 1 + 1 + 1 + 1 + 1 + 1 + 1) + 1 + 1 + 1) ((vc >>> (0 &&& 31)).toInt8.toInt32)) (k + 1 + 1 + 1 + 1 + 1 + 1 + 1 + 1 + 1 + 1 + 1 + 1) ((vd >>> (24 &&& 31)).toInt8.toInt32)) ((k + 1 + 1 + 1 + 1 + 1 + 1 + 1 + 1 + 1 + 1 + 1 + 1) + 1) ((vd >>> (16 &&& 31)).toInt8.toInt32)) ((k + 1 + 1 + 1 + 1 + 1 + 1 + 1 + 1 + 1 + 1 + 1 + 1) + 1 + 1) ((vd >>> (8 &&& 31)).toInt8.toInt32)) ((k + 1 + 1 + 1 + 1 + 1 + 1 + 1 + 1 + 1 + 1 + 1 + 1) + 1 + 1 + 1) ((vd >>> (0 &&& 31)).toInt8.toInt32))))] H := hP
  have hD : va_D A [(h0, .inr (11, [h0_0, h0_1, h0_2, h0_3, h0_4, h0_5, h0_6, .ref bs, .int (nI ((k + 1 + 1 + 1 + 1 + 1 + 1 + 1 + 1 + 1 + 1 + 1 + 1) + 1 + 1 + 1 + 1))])), (bs, .inl (cB, nb, .inl (upd (upd (upd (upd (upd (upd (upd (upd (upd (upd (upd (upd (upd (upd (upd (upd f (k) ((va >>> (24 &&& 31)).toInt8.toInt32)) ((k) + 1) ((va >>> (16 &&& 31)).toInt8.toInt32)) ((k) + 1 + 1) ((va >>> (8 &&& 31)).toInt8.toInt32)) ((k) + 1 + 1 + 1) ((va >>> (0 &&& 31)).toInt8.toInt32)) (k + 1 + 1 + 1 + 1) ((vb >>> (24 &&& 31)).toInt8.toInt32)) ((k + 1 + 1 + 1 + 1) + 1) ((vb >>> (16 &&& 31)).toInt8.toInt32)) ((k + 1 + 1 + 1 + 1) + 1 + 1) ((vb >>> (8 &&& 31)).toInt8.toInt32)) ((k + 1 + 1 + 1 + 1) + 1 + 1 + 1) ((vb >>> (0 &&& 31)).toInt8.toInt32)) (k + 1 + 1 + 1 + 1 + 1 + 1 + 1 + 1) ((vc >>> (24 &&& 31)).toInt8.toInt32)) ((k + 1 + 1 + 1 + 1 + 1 + 1 + 1 + 1) + 1) ((vc >>> (16 &&& 31)).toInt8.toInt32)) ((k + 1 + 1 + 1 + 1 + 1 + 1 + 1 + 1) + 1 + 1) ((vc >>> (8 &&& 31)).toInt8.toInt32)) ((k + 1 + 1 + 1 + 1 + 1 + 1 + 1 + 1) + 1 + 1 + 1) ((vc >>> (0 &&& 31)).toInt8.toInt32)) (k + 1 + 1 + 1 + 1 + 1 + 1 + 1 + 1 + 1 + 1 + 1 + 1) ((vd >>> (24 &&& 31)).toInt8.toInt32)) ((k + 1 + 1 + 1 + 1 + 1 + 1 + 1 + 1 + 1 + 1 + 1 + 1) + 1) ((vd >>> (16 &&& 31)).toInt8.toInt32)) ((k + 1 + 1 + 1 + 1 + 1 + 1 + 1 + 1 + 1 + 1 + 1 + 1) + 1 + 1) ((vd >>> (8 &&& 31)).toInt8.toInt32)) ((k + 1 + 1 + 1 + 1 + 1 + 1 + 1 + 1 + 1 + 1 + 1 + 1) + 1 + 1 + 1) ((vd >>> (0 &&& 31)).toInt8.toInt32))))] := hD
  refine W.widen (k := 0) (n := 0) (by omega) (by omega) ?_
  refine lv_aload_n hx hb d_ProofDesk_feed_75 rfl (lv_at hl 0 rfl) ?_
  refine lv_iload hx hb d_ProofDesk_feed_76 (lv_at hl 5 rfl) ?_
  have hPc := hP.sub (ws' := [(h0, .inr (11, [h0_0, h0_1, h0_2, h0_3, h0_4, h0_5, h0_6, .ref bs, .int (nI (k + 1 + 1 + 1 + 1 + 1 + 1 + 1 + 1 + 1 + 1 + 1 + 1 + 1 + 1 + 1 + 1))])), (bs, .inl (cB, nb, .inl (upd (upd (upd (upd (upd (upd (upd (upd (upd (upd (upd (upd (upd (upd (upd (upd f (k) ((va >>> (24 &&& 31)).toInt8.toInt32)) ((k) + 1) ((va >>> (16 &&& 31)).toInt8.toInt32)) ((k) + 1 + 1) ((va >>> (8 &&& 31)).toInt8.toInt32)) ((k) + 1 + 1 + 1) ((va >>> (0 &&& 31)).toInt8.toInt32)) (k + 1 + 1 + 1 + 1) ((vb >>> (24 &&& 31)).toInt8.toInt32)) ((k + 1 + 1 + 1 + 1) + 1) ((vb >>> (16 &&& 31)).toInt8.toInt32)) ((k + 1 + 1 + 1 + 1) + 1 + 1) ((vb >>> (8 &&& 31)).toInt8.toInt32)) ((k + 1 + 1 + 1 + 1) + 1 + 1 + 1) ((vb >>> (0 &&& 31)).toInt8.toInt32)) (k + 1 + 1 + 1 + 1 + 1 + 1 + 1 + 1) ((vc >>> (24 &&& 31)).toInt8.toInt32)) ((k + 1 + 1 + 1 + 1 + 1 + 1 + 1 + 1) + 1) ((vc >>> (16 &&& 31)).toInt8.toInt32)) ((k + 1 + 1 + 1 + 1 + 1 + 1 + 1 + 1) + 1 + 1) ((vc >>> (8 &&& 31)).toInt8.toInt32)) ((k + 1 + 1 + 1 + 1 + 1 + 1 + 1 + 1) + 1 + 1 + 1) ((vc >>> (0 &&& 31)).toInt8.toInt32)) (k + 1 + 1 + 1 + 1 + 1 + 1 + 1 + 1 + 1 + 1 + 1 + 1) ((vd >>> (24 &&& 31)).toInt8.toInt32)) ((k + 1 + 1 + 1 + 1 + 1 + 1 + 1 + 1 + 1 + 1 + 1 + 1) + 1) ((vd >>> (16 &&& 31)).toInt8.toInt32)) ((k + 1 + 1 + 1 + 1 + 1 + 1 + 1 + 1 + 1 + 1 + 1 + 1) + 1 + 1) ((vd >>> (8 &&& 31)).toInt8.toInt32)) ((k + 1 + 1 + 1 + 1 + 1 + 1 + 1 + 1 + 1 + 1 + 1 + 1) + 1 + 1 + 1) ((vd >>> (0 &&& 31)).toInt8.toInt32))))]) [0, 1] rfl
  have hDc := hD.sub (ws' := [(h0, .inr (11, [h0_0, h0_1, h0_2, h0_3, h0_4, h0_5, h0_6, .ref bs, .int (nI (k + 1 + 1 + 1 + 1 + 1 + 1 + 1 + 1 + 1 + 1 + 1 + 1 + 1 + 1 + 1 + 1))])), (bs, .inl (cB, nb, .inl (upd (upd (upd (upd (upd (upd (upd (upd (upd (upd (upd (upd (upd (upd (upd (upd f (k) ((va >>> (24 &&& 31)).toInt8.toInt32)) ((k) + 1) ((va >>> (16 &&& 31)).toInt8.toInt32)) ((k) + 1 + 1) ((va >>> (8 &&& 31)).toInt8.toInt32)) ((k) + 1 + 1 + 1) ((va >>> (0 &&& 31)).toInt8.toInt32)) (k + 1 + 1 + 1 + 1) ((vb >>> (24 &&& 31)).toInt8.toInt32)) ((k + 1 + 1 + 1 + 1) + 1) ((vb >>> (16 &&& 31)).toInt8.toInt32)) ((k + 1 + 1 + 1 + 1) + 1 + 1) ((vb >>> (8 &&& 31)).toInt8.toInt32)) ((k + 1 + 1 + 1 + 1) + 1 + 1 + 1) ((vb >>> (0 &&& 31)).toInt8.toInt32)) (k + 1 + 1 + 1 + 1 + 1 + 1 + 1 + 1) ((vc >>> (24 &&& 31)).toInt8.toInt32)) ((k + 1 + 1 + 1 + 1 + 1 + 1 + 1 + 1) + 1) ((vc >>> (16 &&& 31)).toInt8.toInt32)) ((k + 1 + 1 + 1 + 1 + 1 + 1 + 1 + 1) + 1 + 1) ((vc >>> (8 &&& 31)).toInt8.toInt32)) ((k + 1 + 1 + 1 + 1 + 1 + 1 + 1 + 1) + 1 + 1 + 1) ((vc >>> (0 &&& 31)).toInt8.toInt32)) (k + 1 + 1 + 1 + 1 + 1 + 1 + 1 + 1 + 1 + 1 + 1 + 1) ((vd >>> (24 &&& 31)).toInt8.toInt32)) ((k + 1 + 1 + 1 + 1 + 1 + 1 + 1 + 1 + 1 + 1 + 1 + 1) + 1) ((vd >>> (16 &&& 31)).toInt8.toInt32)) ((k + 1 + 1 + 1 + 1 + 1 + 1 + 1 + 1 + 1 + 1 + 1 + 1) + 1 + 1) ((vd >>> (8 &&& 31)).toInt8.toInt32)) ((k + 1 + 1 + 1 + 1 + 1 + 1 + 1 + 1 + 1 + 1 + 1 + 1) + 1 + 1 + 1) ((vd >>> (0 &&& 31)).toInt8.toInt32))))]) [0, 1] (by decide +kernel) rfl
  have hFc := va_free (wc := [(h0, .inr (11, [h0_0, h0_1, h0_2, h0_3, h0_4, h0_5, h0_6, .ref bs, .int (nI (k + 1 + 1 + 1 + 1 + 1 + 1 + 1 + 1 + 1 + 1 + 1 + 1 + 1 + 1 + 1 + 1))])), (bs, .inl (cB, nb, .inl (upd (upd (upd (upd (upd (upd (upd (upd (upd (upd (upd (upd (upd (upd (upd (upd f (k) ((va >>> (24 &&& 31)).toInt8.toInt32)) ((k) + 1) ((va >>> (16 &&& 31)).toInt8.toInt32)) ((k) + 1 + 1) ((va >>> (8 &&& 31)).toInt8.toInt32)) ((k) + 1 + 1 + 1) ((va >>> (0 &&& 31)).toInt8.toInt32)) (k + 1 + 1 + 1 + 1) ((vb >>> (24 &&& 31)).toInt8.toInt32)) ((k + 1 + 1 + 1 + 1) + 1) ((vb >>> (16 &&& 31)).toInt8.toInt32)) ((k + 1 + 1 + 1 + 1) + 1 + 1) ((vb >>> (8 &&& 31)).toInt8.toInt32)) ((k + 1 + 1 + 1 + 1) + 1 + 1 + 1) ((vb >>> (0 &&& 31)).toInt8.toInt32)) (k + 1 + 1 + 1 + 1 + 1 + 1 + 1 + 1) ((vc >>> (24 &&& 31)).toInt8.toInt32)) ((k + 1 + 1 + 1 + 1 + 1 + 1 + 1 + 1) + 1) ((vc >>> (16 &&& 31)).toInt8.toInt32)) ((k + 1 + 1 + 1 + 1 + 1 + 1 + 1 + 1) + 1 + 1) ((vc >>> (8 &&& 31)).toInt8.toInt32)) ((k + 1 + 1 + 1 + 1 + 1 + 1 + 1 + 1) + 1 + 1 + 1) ((vc >>> (0 &&& 31)).toInt8.toInt32)) (k + 1 + 1 + 1 + 1 + 1 + 1 + 1 + 1 + 1 + 1 + 1 + 1) ((vd >>> (24 &&& 31)).toInt8.toInt32)) ((k + 1 + 1 + 1 + 1 + 1 + 1 + 1 + 1 + 1 + 1 + 1 + 1) + 1) ((vd >>> (16 &&& 31)).toInt8.toInt32)) ((k + 1 + 1 + 1 + 1 + 1 + 1 + 1 + 1 + 1 + 1 + 1 + 1) + 1 + 1) ((vd >>> (8 &&& 31)).toInt8.toInt32)) ((k + 1 + 1 + 1 + 1 + 1 + 1 + 1 + 1 + 1 + 1 + 1 + 1) + 1 + 1 + 1) ((vd >>> (0 &&& 31)).toInt8.toInt32))))]) hD hS hA [0, 1] rfl
  have hkc : 0 + 0 ≤ 0 := by omega
  have hks : 0 + 0 ≤ 0 := by omega
  refine va_callv (va_runV (As := [.int ve]) (rest := []) ⟨hx, hb, hml, hown, hts⟩ (c_addBytes l D cI cB cZ cS H.size h0 bs h0_0 h0_1 h0_2 h0_3 h0_4 h0_5 h0_6 ve (k + 1 + 1 + 1 + 1 + 1 + 1 + 1 + 1 + 1 + 1 + 1 + 1 + 1 + 1 + 1 + 1) nb (upd (upd (upd (upd (upd (upd (upd (upd (upd (upd (upd (upd (upd (upd (upd (upd f (k) ((va >>> (24 &&& 31)).toInt8.toInt32)) ((k) + 1) ((va >>> (16 &&& 31)).toInt8.toInt32)) ((k) + 1 + 1) ((va >>> (8 &&& 31)).toInt8.toInt32)) ((k) + 1 + 1 + 1) ((va >>> (0 &&& 31)).toInt8.toInt32)) (k + 1 + 1 + 1 + 1) ((vb >>> (24 &&& 31)).toInt8.toInt32)) ((k + 1 + 1 + 1 + 1) + 1) ((vb >>> (16 &&& 31)).toInt8.toInt32)) ((k + 1 + 1 + 1 + 1) + 1 + 1) ((vb >>> (8 &&& 31)).toInt8.toInt32)) ((k + 1 + 1 + 1 + 1) + 1 + 1 + 1) ((vb >>> (0 &&& 31)).toInt8.toInt32)) (k + 1 + 1 + 1 + 1 + 1 + 1 + 1 + 1) ((vc >>> (24 &&& 31)).toInt8.toInt32)) ((k + 1 + 1 + 1 + 1 + 1 + 1 + 1 + 1) + 1) ((vc >>> (16 &&& 31)).toInt8.toInt32)) ((k + 1 + 1 + 1 + 1 + 1 + 1 + 1 + 1) + 1 + 1) ((vc >>> (8 &&& 31)).toInt8.toInt32)) ((k + 1 + 1 + 1 + 1 + 1 + 1 + 1 + 1) + 1 + 1 + 1) ((vc >>> (0 &&& 31)).toInt8.toInt32)) (k + 1 + 1 + 1 + 1 + 1 + 1 + 1 + 1 + 1 + 1 + 1 + 1) ((vd >>> (24 &&& 31)).toInt8.toInt32)) ((k + 1 + 1 + 1 + 1 + 1 + 1 + 1 + 1 + 1 + 1 + 1 + 1) + 1) ((vd >>> (16 &&& 31)).toInt8.toInt32)) ((k + 1 + 1 + 1 + 1 + 1 + 1 + 1 + 1 + 1 + 1 + 1 + 1) + 1 + 1) ((vd >>> (8 &&& 31)).toInt8.toInt32)) ((k + 1 + 1 + 1 + 1 + 1 + 1 + 1 + 1 + 1 + 1 + 1 + 1) + 1 + 1 + 1) ((vd >>> (0 &&& 31)).toInt8.toInt32)) (by omega) hb9) (⟨callB_of 1 hts (zgood kw_595) rfl rfl rfl (hts _ kw_1) (hts _ kw_592) (by decide +kernel) ⟨Nat.le_of_ble_eq_true rfl, Nat.le_of_ble_eq_true rfl⟩, hts _ kw_594, hts _ kp_2⟩) (zPreV hPc hK hN hDc (va_recv (q := ("ProofDesk", F_ProofDesk, 9)) hK hP rfl (q0 := 0) rfl)) rfl rfl hl.1 rfl (lv_room (Nat.le_of_ble_eq_true rfl)) d_ProofDesk_feed_78 ⟨hkc, hks⟩) hS (fun q _ h => hFc q h) hFc (fun u t H1 locs ht hvm hw hB hz1 hk1 hS => ?_)
  obtain ⟨hP1, hD1⟩ := hB
  rw [ht] at hP1
  obtain ⟨hP, hD⟩ := va_join (wr := []) (w1 := [(h0, .inr (11, [h0_0, h0_1, h0_2, h0_3, h0_4, h0_5, h0_6, .ref bs, .int (nI ((k + 1 + 1 + 1 + 1 + 1 + 1 + 1 + 1 + 1 + 1 + 1 + 1 + 1 + 1 + 1 + 1) + 1 + 1 + 1 + 1))])), (bs, .inl (cB, nb, .inl (upd (upd (upd (upd (upd (upd (upd (upd (upd (upd (upd (upd (upd (upd (upd (upd (upd (upd (upd (upd f (k) ((va >>> (24 &&& 31)).toInt8.toInt32)) ((k) + 1) ((va >>> (16 &&& 31)).toInt8.toInt32)) ((k) + 1 + 1) ((va >>> (8 &&& 31)).toInt8.toInt32)) ((k) + 1 + 1 + 1) ((va >>> (0 &&& 31)).toInt8.toInt32)) (k + 1 + 1 + 1 + 1) ((vb >>> (24 &&& 31)).toInt8.toInt32)) ((k + 1 + 1 + 1 + 1) + 1) ((vb >>> (16 &&& 31)).toInt8.toInt32)) ((k + 1 + 1 + 1 + 1) + 1 + 1) ((vb >>> (8 &&& 31)).toInt8.toInt32)) ((k + 1 + 1 + 1 + 1) + 1 + 1 + 1) ((vb >>> (0 &&& 31)).toInt8.toInt32)) (k + 1 + 1 + 1 + 1 + 1 + 1 + 1 + 1) ((vc >>> (24 &&& 31)).toInt8.toInt32)) ((k + 1 + 1 + 1 + 1 + 1 + 1 + 1 + 1) + 1) ((vc >>> (16 &&& 31)).toInt8.toInt32)) ((k + 1 + 1 + 1 + 1 + 1 + 1 + 1 + 1) + 1 + 1) ((vc >>> (8 &&& 31)).toInt8.toInt32)) ((k + 1 + 1 + 1 + 1 + 1 + 1 + 1 + 1) + 1 + 1 + 1) ((vc >>> (0 &&& 31)).toInt8.toInt32)) (k + 1 + 1 + 1 + 1 + 1 + 1 + 1 + 1 + 1 + 1 + 1 + 1) ((vd >>> (24 &&& 31)).toInt8.toInt32)) ((k + 1 + 1 + 1 + 1 + 1 + 1 + 1 + 1 + 1 + 1 + 1 + 1) + 1) ((vd >>> (16 &&& 31)).toInt8.toInt32)) ((k + 1 + 1 + 1 + 1 + 1 + 1 + 1 + 1 + 1 + 1 + 1 + 1) + 1 + 1) ((vd >>> (8 &&& 31)).toInt8.toInt32)) ((k + 1 + 1 + 1 + 1 + 1 + 1 + 1 + 1 + 1 + 1 + 1 + 1) + 1 + 1 + 1) ((vd >>> (0 &&& 31)).toInt8.toInt32)) (k + 1 + 1 + 1 + 1 + 1 + 1 + 1 + 1 + 1 + 1 + 1 + 1 + 1 + 1 + 1 + 1) ((ve >>> (24 &&& 31)).toInt8.toInt32)) ((k + 1 + 1 + 1 + 1 + 1 + 1 + 1 + 1 + 1 + 1 + 1 + 1 + 1 + 1 + 1 + 1) + 1) ((ve >>> (16 &&& 31)).toInt8.toInt32)) ((k + 1 + 1 + 1 + 1 + 1 + 1 + 1 + 1 + 1 + 1 + 1 + 1 + 1 + 1 + 1 + 1) + 1 + 1) ((ve >>> (8 &&& 31)).toInt8.toInt32)) ((k + 1 + 1 + 1 + 1 + 1 + 1 + 1 + 1 + 1 + 1 + 1 + 1 + 1 + 1 + 1 + 1) + 1 + 1 + 1) ((ve >>> (0 &&& 31)).toInt8.toInt32))))]) hP hD [0, 1] [] rfl rfl (by decide +kernel) (by decide +kernel) hk1 hFc hP1 hD1
  generalize H1 = H at hP hS ⊢
  have hP : va_P D zcl [(h0, .inr (11, [h0_0, h0_1, h0_2, h0_3, h0_4, h0_5, h0_6, .ref bs, .int (nI ((k + 1 + 1 + 1 + 1 + 1 + 1 + 1 + 1 + 1 + 1 + 1 + 1 + 1 + 1 + 1 + 1) + 1 + 1 + 1 + 1))])), (bs, .inl (cB, nb, .inl (upd (upd (upd (upd (upd (upd (upd (upd (upd (upd (upd (upd (upd (upd (upd (upd (upd (upd (upd (upd f (k) ((va >>> (24 &&& 31)).toInt8.toInt32)) ((k) + 1) ((va >>> (16 &&& 31)).toInt8.toInt32)) ((k) + 1 + 1) ((va >>> (8 &&& 31)).toInt8.toInt32)) ((k) + 1 + 1 + 1) ((va >>> (0 &&& 31)).toInt8.toInt32)) (k + 1 + 1 + 1 + 1) ((vb >>> (24 &&& 31)).toInt8.toInt32)) ((k + 1 + 1 + 1 + 1) + 1) ((vb >>> (16 &&& 31)).toInt8.toInt32)) ((k + 1 + 1 + 1 + 1) + 1 + 1) ((vb >>> (8 &&& 31)).toInt8.toInt32)) ((k + 1 + 1 + 1 + 1) + 1 + 1 + 1) ((vb >>> (0 &&& 31)).toInt8.toInt32)) (k + 1 + 1 + 1 + 1 + 1 + 1 + 1 + 1) ((vc >>> (24 &&& 31)).toInt8.toInt32)) ((k + 1 + 1 + 1 + 1 + 1 + 1 + 1 + 1) + 1) ((vc >>> (16 &&& 31)).toInt8.toInt32)) ((k + 1 + 1 + 1 + 1 + 1 + 1 + 1 + 1) + 1 + 1) ((vc >>> (8 &&& 31)).toInt8.toInt32)) ((k + 1 + 1 + 1 + 1 + 1 + 1 + 1 + 1) + 1 + 1 + 1) ((vc >>> (0 &&& 31)).toInt8.toInt32)) (k + 1 + 1 + 1 + 1 + 1 + 1 + 1 + 1 + 1 + 1 + 1 + 1) ((vd >>> (24 &&& 31)).toInt8.toInt32)) ((k + 1 + 1 + 1 + 1 + 1 + 1 + 1 + 1 + 1 + 1 + 1 + 1) + 1) ((vd >>> (16 &&& 31)).toInt8.toInt32)) ((k + 1 + 1 + 1 + 1 + 1 + 1 + 1 + 1 + 1 + 1 + 1 + 1) + 1 + 1) ((vd >>> (8 &&& 31)).toInt8.toInt32)) ((k + 1 + 1 + 1 + 1 + 1 + 1 + 1 + 1 + 1 + 1 + 1 + 1) + 1 + 1 + 1) ((vd >>> (0 &&& 31)).toInt8.toInt32)) (k + 1 + 1 + 1 + 1 + 1 + 1 + 1 + 1 + 1 + 1 + 1 + 1 + 1 + 1 + 1 + 1) ((ve >>> (24 &&& 31)).toInt8.toInt32)) ((k + 1 + 1 + 1 + 1 + 1 + 1 + 1 + 1 + 1 + 1 + 1 + 1 + 1 + 1 + 1 + 1) + 1) ((ve >>> (16 &&& 31)).toInt8.toInt32)) ((k + 1 + 1 + 1 + 1 + 1 + 1 + 1 + 1 + 1 + 1 + 1 + 1 + 1 + 1 + 1 + 1) + 1 + 1) ((ve >>> (8 &&& 31)).toInt8.toInt32)) ((k + 1 + 1 + 1 + 1 + 1 + 1 + 1 + 1 + 1 + 1 + 1 + 1 + 1 + 1 + 1 + 1) + 1 + 1 + 1) ((ve >>> (0 &&& 31)).toInt8.toInt32))))] H := hP
  have hD : va_D A [(h0, .inr (11, [h0_0, h0_1, h0_2, h0_3, h0_4, h0_5, h0_6, .ref bs, .int (nI ((k + 1 + 1 + 1 + 1 + 1 + 1 + 1 + 1 + 1 + 1 + 1 + 1 + 1 + 1 + 1 + 1) + 1 + 1 + 1 + 1))])), (bs, .inl (cB, nb, .inl (upd (upd (upd (upd (upd (upd (upd (upd (upd (upd (upd (upd (upd (upd (upd (upd (upd (upd (upd (upd f (k) ((va >>> (24 &&& 31)).toInt8.toInt32)) ((k) + 1) ((va >>> (16 &&& 31)).toInt8.toInt32)) ((k) + 1 + 1) ((va >>> (8 &&& 31)).toInt8.toInt32)) ((k) + 1 + 1 + 1) ((va >>> (0 &&& 31)).toInt8.toInt32)) (k + 1 + 1 + 1 + 1) ((vb >>> (24 &&& 31)).toInt8.toInt32)) ((k + 1 + 1 + 1 + 1) + 1) ((vb >>> (16 &&& 31)).toInt8.toInt32)) ((k + 1 + 1 + 1 + 1) + 1 + 1) ((vb >>> (8 &&& 31)).toInt8.toInt32)) ((k + 1 + 1 + 1 + 1) + 1 + 1 + 1) ((vb >>> (0 &&& 31)).toInt8.toInt32)) (k + 1 + 1 + 1 + 1 + 1 + 1 + 1 + 1) ((vc >>> (24 &&& 31)).toInt8.toInt32)) ((k + 1 + 1 + 1 + 1 + 1 + 1 + 1 + 1) + 1) ((vc >>> (16 &&& 31)).toInt8.toInt32)) ((k + 1 + 1 + 1 + 1 + 1 + 1 + 1 + 1) + 1 + 1) ((vc >>> (8 &&& 31)).toInt8.toInt32)) ((k + 1 + 1 + 1 + 1 + 1 + 1 + 1 + 1) + 1 + 1 + 1) ((vc >>> (0 &&& 31)).toInt8.toInt32)) (k + 1 + 1 + 1 + 1 + 1 + 1 + 1 + 1 + 1 + 1 + 1 + 1) ((vd >>> (24 &&& 31)).toInt8.toInt32)) ((k + 1 + 1 + 1 + 1 + 1 + 1 + 1 + 1 + 1 + 1 + 1 + 1) + 1) ((vd >>> (16 &&& 31)).toInt8.toInt32)) ((k + 1 + 1 + 1 + 1 + 1 + 1 + 1 + 1 + 1 + 1 + 1 + 1) + 1 + 1) ((vd >>> (8 &&& 31)).toInt8.toInt32)) ((k + 1 + 1 + 1 + 1 + 1 + 1 + 1 + 1 + 1 + 1 + 1 + 1) + 1 + 1 + 1) ((vd >>> (0 &&& 31)).toInt8.toInt32)) (k + 1 + 1 + 1 + 1 + 1 + 1 + 1 + 1 + 1 + 1 + 1 + 1 + 1 + 1 + 1 + 1) ((ve >>> (24 &&& 31)).toInt8.toInt32)) ((k + 1 + 1 + 1 + 1 + 1 + 1 + 1 + 1 + 1 + 1 + 1 + 1 + 1 + 1 + 1 + 1) + 1) ((ve >>> (16 &&& 31)).toInt8.toInt32)) ((k + 1 + 1 + 1 + 1 + 1 + 1 + 1 + 1 + 1 + 1 + 1 + 1 + 1 + 1 + 1 + 1) + 1 + 1) ((ve >>> (8 &&& 31)).toInt8.toInt32)) ((k + 1 + 1 + 1 + 1 + 1 + 1 + 1 + 1 + 1 + 1 + 1 + 1 + 1 + 1 + 1 + 1) + 1 + 1 + 1) ((ve >>> (0 &&& 31)).toInt8.toInt32))))] := hD
  refine W.widen (k := 0) (n := 0) (by omega) (by omega) ?_
  refine lv_aload_n hx hb d_ProofDesk_feed_81 rfl (lv_at hl 0 rfl) ?_
  refine va_get (D := D) (ci := 11) (v := .int (nI ((k + 1 + 1 + 1 + 1 + 1 + 1 + 1 + 1 + 1 + 1 + 1 + 1 + 1 + 1 + 1 + 1) + 1 + 1 + 1 + 1))) (C := "ProofDesk") (T := F_ProofDesk) (N := 9) hx hb hts in_ProofDesk hown hK hP 0 rfl rfl 8 (by decide) (hts _ kw_566) (fun _ h9 => h9) rfl d_ProofDesk_feed_82 ?_
  have hP9 := hP.sub (ws' := [(h0, .inr (11, [h0_0, h0_1, h0_2, h0_3, h0_4, h0_5, h0_6, .ref bs, .int (nI ((k + 1 + 1 + 1 + 1 + 1 + 1 + 1 + 1 + 1 + 1 + 1 + 1 + 1 + 1 + 1 + 1) + 1 + 1 + 1 + 1))])), (bs, .inl (cB, nb, .inl (upd (upd (upd (upd (upd (upd (upd (upd (upd (upd (upd (upd (upd (upd (upd (upd (upd (upd (upd (upd f (k) ((va >>> (24 &&& 31)).toInt8.toInt32)) ((k) + 1) ((va >>> (16 &&& 31)).toInt8.toInt32)) ((k) + 1 + 1) ((va >>> (8 &&& 31)).toInt8.toInt32)) ((k) + 1 + 1 + 1) ((va >>> (0 &&& 31)).toInt8.toInt32)) (k + 1 + 1 + 1 + 1) ((vb >>> (24 &&& 31)).toInt8.toInt32)) ((k + 1 + 1 + 1 + 1) + 1) ((vb >>> (16 &&& 31)).toInt8.toInt32)) ((k + 1 + 1 + 1 + 1) + 1 + 1) ((vb >>> (8 &&& 31)).toInt8.toInt32)) ((k + 1 + 1 + 1 + 1) + 1 + 1 + 1) ((vb >>> (0 &&& 31)).toInt8.toInt32)) (k + 1 + 1 + 1 + 1 + 1 + 1 + 1 + 1) ((vc >>> (24 &&& 31)).toInt8.toInt32)) ((k + 1 + 1 + 1 + 1 + 1 + 1 + 1 + 1) + 1) ((vc >>> (16 &&& 31)).toInt8.toInt32)) ((k + 1 + 1 + 1 + 1 + 1 + 1 + 1 + 1) + 1 + 1) ((vc >>> (8 &&& 31)).toInt8.toInt32)) ((k + 1 + 1 + 1 + 1 + 1 + 1 + 1 + 1) + 1 + 1 + 1) ((vc >>> (0 &&& 31)).toInt8.toInt32)) (k + 1 + 1 + 1 + 1 + 1 + 1 + 1 + 1 + 1 + 1 + 1 + 1) ((vd >>> (24 &&& 31)).toInt8.toInt32)) ((k + 1 + 1 + 1 + 1 + 1 + 1 + 1 + 1 + 1 + 1 + 1 + 1) + 1) ((vd >>> (16 &&& 31)).toInt8.toInt32)) ((k + 1 + 1 + 1 + 1 + 1 + 1 + 1 + 1 + 1 + 1 + 1 + 1) + 1 + 1) ((vd >>> (8 &&& 31)).toInt8.toInt32)) ((k + 1 + 1 + 1 + 1 + 1 + 1 + 1 + 1 + 1 + 1 + 1 + 1) + 1 + 1 + 1) ((vd >>> (0 &&& 31)).toInt8.toInt32)) (k + 1 + 1 + 1 + 1 + 1 + 1 + 1 + 1 + 1 + 1 + 1 + 1 + 1 + 1 + 1 + 1) ((ve >>> (24 &&& 31)).toInt8.toInt32)) ((k + 1 + 1 + 1 + 1 + 1 + 1 + 1 + 1 + 1 + 1 + 1 + 1 + 1 + 1 + 1 + 1) + 1) ((ve >>> (16 &&& 31)).toInt8.toInt32)) ((k + 1 + 1 + 1 + 1 + 1 + 1 + 1 + 1 + 1 + 1 + 1 + 1 + 1 + 1 + 1 + 1) + 1 + 1) ((ve >>> (8 &&& 31)).toInt8.toInt32)) ((k + 1 + 1 + 1 + 1 + 1 + 1 + 1 + 1 + 1 + 1 + 1 + 1 + 1 + 1 + 1 + 1) + 1 + 1 + 1) ((ve >>> (0 &&& 31)).toInt8.toInt32))))]) [0, 1] rfl
  have hD9 := hD.sub (ws' := [(h0, .inr (11, [h0_0, h0_1, h0_2, h0_3, h0_4, h0_5, h0_6, .ref bs, .int (nI ((k + 1 + 1 + 1 + 1 + 1 + 1 + 1 + 1 + 1 + 1 + 1 + 1 + 1 + 1 + 1 + 1) + 1 + 1 + 1 + 1))])), (bs, .inl (cB, nb, .inl (upd (upd (upd (upd (upd (upd (upd (upd (upd (upd (upd (upd (upd (upd (upd (upd (upd (upd (upd (upd f (k) ((va >>> (24 &&& 31)).toInt8.toInt32)) ((k) + 1) ((va >>> (16 &&& 31)).toInt8.toInt32)) ((k) + 1 + 1) ((va >>> (8 &&& 31)).toInt8.toInt32)) ((k) + 1 + 1 + 1) ((va >>> (0 &&& 31)).toInt8.toInt32)) (k + 1 + 1 + 1 + 1) ((vb >>> (24 &&& 31)).toInt8.toInt32)) ((k + 1 + 1 + 1 + 1) + 1) ((vb >>> (16 &&& 31)).toInt8.toInt32)) ((k + 1 + 1 + 1 + 1) + 1 + 1) ((vb >>> (8 &&& 31)).toInt8.toInt32)) ((k + 1 + 1 + 1 + 1) + 1 + 1 + 1) ((vb >>> (0 &&& 31)).toInt8.toInt32)) (k + 1 + 1 + 1 + 1 + 1 + 1 + 1 + 1) ((vc >>> (24 &&& 31)).toInt8.toInt32)) ((k + 1 + 1 + 1 + 1 + 1 + 1 + 1 + 1) + 1) ((vc >>> (16 &&& 31)).toInt8.toInt32)) ((k + 1 + 1 + 1 + 1 + 1 + 1 + 1 + 1) + 1 + 1) ((vc >>> (8 &&& 31)).toInt8.toInt32)) ((k + 1 + 1 + 1 + 1 + 1 + 1 + 1 + 1) + 1 + 1 + 1) ((vc >>> (0 &&& 31)).toInt8.toInt32)) (k + 1 + 1 + 1 + 1 + 1 + 1 + 1 + 1 + 1 + 1 + 1 + 1) ((vd >>> (24 &&& 31)).toInt8.toInt32)) ((k + 1 + 1 + 1 + 1 + 1 + 1 + 1 + 1 + 1 + 1 + 1 + 1) + 1) ((vd >>> (16 &&& 31)).toInt8.toInt32)) ((k + 1 + 1 + 1 + 1 + 1 + 1 + 1 + 1 + 1 + 1 + 1 + 1) + 1 + 1) ((vd >>> (8 &&& 31)).toInt8.toInt32)) ((k + 1 + 1 + 1 + 1 + 1 + 1 + 1 + 1 + 1 + 1 + 1 + 1) + 1 + 1 + 1) ((vd >>> (0 &&& 31)).toInt8.toInt32)) (k + 1 + 1 + 1 + 1 + 1 + 1 + 1 + 1 + 1 + 1 + 1 + 1 + 1 + 1 + 1 + 1) ((ve >>> (24 &&& 31)).toInt8.toInt32)) ((k + 1 + 1 + 1 + 1 + 1 + 1 + 1 + 1 + 1 + 1 + 1 + 1 + 1 + 1 + 1 + 1) + 1) ((ve >>> (16 &&& 31)).toInt8.toInt32)) ((k + 1 + 1 + 1 + 1 + 1 + 1 + 1 + 1 + 1 + 1 + 1 + 1 + 1 + 1 + 1 + 1) + 1 + 1) ((ve >>> (8 &&& 31)).toInt8.toInt32)) ((k + 1 + 1 + 1 + 1 + 1 + 1 + 1 + 1 + 1 + 1 + 1 + 1 + 1 + 1 + 1 + 1) + 1 + 1 + 1) ((ve >>> (0 &&& 31)).toInt8.toInt32))))]) [0, 1] (by decide +kernel) rfl
  refine W.widen (k := 0) (n := 0) (by omega) (by omega) ?_
  exact W.iret (v := (nI ((k + 1 + 1 + 1 + 1 + 1 + 1 + 1 + 1 + 1 + 1 + 1 + 1 + 1 + 1 + 1 + 1) + 1 + 1 + 1 + 1))) hx hb hr (fun t ht hW => ⟨⟨(nI ((k + 1 + 1 + 1 + 1 + 1 + 1 + 1 + 1 + 1 + 1 + 1 + 1 + 1 + 1 + 1 + 1) + 1 + 1 + 1 + 1)), (), rfl, rfl, by rw [ht]; exact hP9, hD9⟩, hS.F ht⟩) hS.2.2 d_ProofDesk_feed_85
abbrev b_Ledger_clear : ByteArray := prog_3_method_2_code
abbrev y_Ledger_clear : MethodName := ⟨"ProofDesk$Ledger", "clear", "()V"⟩
theorem d_Ledger_clear_0 : decode b_Ledger_clear 0 = .ok (.aload_n 0, 1) := by decide +kernel
theorem d_Ledger_clear_1 : decode b_Ledger_clear 1 = .ok (.getfield 16, 3) := by decide +kernel
theorem d_Ledger_clear_4 : decode b_Ledger_clear 4 = .ok (.iconst 0, 1) := by decide +kernel
theorem d_Ledger_clear_5 : decode b_Ledger_clear 5 = .ok (.putfield 24, 3) := by decide +kernel
theorem d_Ledger_clear_8 : decode b_Ledger_clear 8 = .ok (.return_, 1) := by decide +kernel
set_option maxHeartbeats 4000000 in
set_option maxRecDepth 100000 in
theorem c_Ledger_clear (l : Launch) (D : va_G) (cI cB cZ cS : ClassId) (sz : Nat) (le : Nat) (vd : Nat) (le_1 : Value) (le_2 : Value) (le_3 : Value) (le_4 : Value) (le_5 : Value) (vd_0 : Value) (vd_1 : Value) (vd_2 : Value) : Met l y_Ledger_clear (zc y_Ledger_clear b_Ledger_clear 1 none) ({ frames := 0, cells := 0, slots := 0, locals := 0 }) (zPc D (zty cI cB cZ cS) [(le, .inr (1, [.ref vd, le_1, le_2, le_3, le_4, le_5])), (vd, .inr (0, [vd_0, vd_1, vd_2]))] sz [.ref le]) (va_Qv (fun _ : Unit => True) (fun _ t => va_P D zcl [(le, .inr (1, [.ref vd, le_1, le_2, le_3, le_4, le_5])), (vd, .inr (0, [vd_0, vd_1, .int 0]))] t.heap ∧ va_D (va_A [(le, .inr (1, [.ref vd, le_1, le_2, le_3, le_4, le_5])), (vd, .inr (0, [vd_0, vd_1, vd_2]))] sz) [(le, .inr (1, [.ref vd, le_1, le_2, le_3, le_4, le_5])), (vd, .inr (0, [vd_0, vd_1, .int 0]))]) (va_A [(le, .inr (1, [.ref vd, le_1, le_2, le_3, le_4, le_5])), (vd, .inr (0, [vd_0, vd_1, vd_2]))] sz)) 0 0 (va_A [(le, .inr (1, [.ref vd, le_1, le_2, le_3, le_4, le_5])), (vd, .inr (0, [vd_0, vd_1, vd_2]))] sz) := by
  refine Met.ofW (cc := b_Ledger_clear) (maxL := 1) (ret := none) (by decide) rfl ?_
  intro p e s m args below meth c s₁ B hml hv
  obtain ⟨rfl, hsz, hP, ⟨hK, hN⟩, hD0⟩ := hv
  have hx := B.exec
  have hb := B.bytes
  have hr := B.returns
  have hts0 := atoms_spec (ws := zc y_Ledger_clear b_Ledger_clear 1 none) B.pre
  have hts : ∀ w ∈ zw, w.before _ s = true := fun w hw => hts0 w (List.mem_cons_of_mem _ hw)
  have hown : s.vm.findClass "ProofDesk$Ledger" = some m.cls := findClass_of_methodNamed B.named
  have hlocks := B.notSynchronized
  subst hsz
  have hD := hD0.self (sz := s.heap.size)
  generalize hAe : va_A [(le, .inr (1, [.ref vd, le_1, le_2, le_3, le_4, le_5])), (vd, .inr (0, [vd_0, vd_1, vd_2]))] s.heap.size = A at hD ⊢
  have hA : ∀ q : Nat, s.heap.size ≤ q → A q := fun q h => by rw [← hAe]; exact Or.inr h
  have hS : va_S A s.heap s.heap [] := va_S.rf
  have hP : va_P D zcl [(le, .inr (1, [.ref vd, le_1, le_2, le_3, le_4, le_5])), (vd, .inr (0, [vd_0, vd_1, vd_2]))] s.heap := hP
  have hl := lv_entry ([.ref le]) (n := 1) (Nat.le_of_ble_eq_true rfl)
  rw [lg_entry_eq]
  generalize (lg_sl ([.ref le]) ++ List.replicate (1 - (lg_sl ([.ref le])).length) Slot.unset).toArray = ls at hl ⊢
  have hl : lv_has ls 1 [(0, .ref le)] := hl
  refine lv_aload_n hx hb d_Ledger_clear_0 rfl (lv_at hl 0 rfl) ?_
  refine va_get (D := D) (ci := 1) (v := .ref vd) (C := "ProofDesk$Ledger") (T := F_Ledger) (N := 6) hx hb hts in_Ledger hown hK hP 0 rfl rfl 0 (by decide) (hts _ kw_65) (fun _ h9 => h9) rfl d_Ledger_clear_1 ?_
  refine lv_iconst (v := 0) hx hb d_Ledger_clear_4 (by decide) ?_
  refine va_putN (D := D) (ci := 0) (v := .int 0) (ty := .int) (C := "ProofDesk$Pile") (T := F_Pile) (N := 3) hx hb hts in_Pile t_Pile t_Pile_ok n_Pile hown hK hP hD hS 1 rfl rfl 2 (by decide) (va_Nw.use rfl (hN _ kw_48)) (fun _ h9 => h9) rfl (by decide +kernel) rfl rfl (Nat.le_of_ble_eq_true rfl) d_Ledger_clear_5 (fun H locs hP hD hS => ?_)
  have hP : va_P D zcl [(le, .inr (1, [.ref vd, le_1, le_2, le_3, le_4, le_5])), (vd, .inr (0, [vd_0, vd_1, .int 0]))] H := hP
  have hD : va_D A [(le, .inr (1, [.ref vd, le_1, le_2, le_3, le_4, le_5])), (vd, .inr (0, [vd_0, vd_1, .int 0]))] := hD
  have hP9 := hP.sub (ws' := [(le, .inr (1, [.ref vd, le_1, le_2, le_3, le_4, le_5])), (vd, .inr (0, [vd_0, vd_1, .int 0]))]) [0, 1] rfl
  have hD9 := hD.sub (ws' := [(le, .inr (1, [.ref vd, le_1, le_2, le_3, le_4, le_5])), (vd, .inr (0, [vd_0, vd_1, .int 0]))]) [0, 1] (by decide +kernel) rfl
  refine W.widen (k := 0) (n := 0) (by omega) (by omega) ?_
  exact W.vret hx hb hr (fun t ht hW => ⟨⟨(), rfl, trivial, by rw [ht]; exact hP9, hD9⟩, hS.F ht⟩) hS.2.2 d_Ledger_clear_8
abbrev b_Ledger_open : ByteArray := prog_3_method_3_code
abbrev y_Ledger_open : MethodName := ⟨"ProofDesk$Ledger", "open", "()V"⟩
theorem d_Ledger_open_0 : decode b_Ledger_open 0 = .ok (.aload_n 0, 1) := by decide +kernel
theorem d_Ledger_open_1 : decode b_Ledger_open 1 = .ok (.iconst 0, 1) := by decide +kernel
theorem d_Ledger_open_2 : decode b_Ledger_open 2 = .ok (.putfield 27, 3) := by decide +kernel
theorem kw_69 : (Jvm.Cond.fieldLink "ProofDesk$Ledger" (27 : Nat) "ProofDesk$Ledger" "cost" "I") ∈ zw := List.mem_filter.mpr ⟨List.mem_append_right _ (List.mem_of_getElem? (i := 69) (by decide +kernel)), by decide +kernel⟩
theorem d_Ledger_open_5 : decode b_Ledger_open 5 = .ok (.aload_n 0, 1) := by decide +kernel
theorem d_Ledger_open_6 : decode b_Ledger_open 6 = .ok (.iconst 0, 1) := by decide +kernel
theorem d_Ledger_open_7 : decode b_Ledger_open 7 = .ok (.putfield 30, 3) := by decide +kernel
theorem kw_70 : (Jvm.Cond.fieldLink "ProofDesk$Ledger" (30 : Nat) "ProofDesk$Ledger" "outcome" "I") ∈ zw := List.mem_filter.mpr ⟨List.mem_append_right _ (List.mem_of_getElem? (i := 70) (by decide +kernel)), by decide +kernel⟩
theorem d_Ledger_open_10 : decode b_Ledger_open 10 = .ok (.aload_n 0, 1) := by decide +kernel
theorem d_Ledger_open_11 : decode b_Ledger_open 11 = .ok (.iconst 0, 1) := by decide +kernel
theorem d_Ledger_open_12 : decode b_Ledger_open 12 = .ok (.putfield 33, 3) := by decide +kernel
theorem kw_71 : (Jvm.Cond.fieldLink "ProofDesk$Ledger" (33 : Nat) "ProofDesk$Ledger" "reason" "I") ∈ zw := List.mem_filter.mpr ⟨List.mem_append_right _ (List.mem_of_getElem? (i := 71) (by decide +kernel)), by decide +kernel⟩
theorem d_Ledger_open_15 : decode b_Ledger_open 15 = .ok (.aload_n 0, 1) := by decide +kernel
theorem d_Ledger_open_16 : decode b_Ledger_open 16 = .ok (.iconst 0, 1) := by decide +kernel
theorem d_Ledger_open_17 : decode b_Ledger_open 17 = .ok (.putfield 36, 3) := by decide +kernel
theorem kw_72 : (Jvm.Cond.fieldLink "ProofDesk$Ledger" (36 : Nat) "ProofDesk$Ledger" "place" "I") ∈ zw := List.mem_filter.mpr ⟨List.mem_append_right _ (List.mem_of_getElem? (i := 72) (by decide +kernel)), by decide +kernel⟩
theorem d_Ledger_open_20 : decode b_Ledger_open 20 = .ok (.return_, 1) := by decide +kernel
set_option maxHeartbeats 4000000 in
set_option maxRecDepth 100000 in
theorem c_Ledger_open (l : Launch) (D : va_G) (cI cB cZ cS : ClassId) (sz : Nat) (le : Nat) (le_0 : Value) (le_1 : Value) (le_2 : Value) (le_3 : Value) (le_4 : Value) (le_5 : Value) : Met l y_Ledger_open (zc y_Ledger_open b_Ledger_open 1 none) ({ frames := 0, cells := 0, slots := 0, locals := 0 }) (zPc D (zty cI cB cZ cS) [(le, .inr (1, [le_0, le_1, le_2, le_3, le_4, le_5]))] sz [.ref le]) (va_Qv (fun _ : Unit => True) (fun _ t => va_P D zcl [(le, .inr (1, [le_0, le_1, .int 0, .int 0, .int 0, .int 0]))] t.heap ∧ va_D (va_A [(le, .inr (1, [le_0, le_1, le_2, le_3, le_4, le_5]))] sz) [(le, .inr (1, [le_0, le_1, .int 0, .int 0, .int 0, .int 0]))]) (va_A [(le, .inr (1, [le_0, le_1, le_2, le_3, le_4, le_5]))] sz)) 0 0 (va_A [(le, .inr (1, [le_0, le_1, le_2, le_3, le_4, le_5]))] sz) := by
  refine Met.ofW (cc := b_Ledger_open) (maxL := 1) (ret := none) (by decide) rfl ?_
  intro p e s m args below meth c s₁ B hml hv
  obtain ⟨rfl, hsz, hP, ⟨hK, hN⟩, hD0⟩ := hv
  have hx := B.exec
  have hb := B.bytes
  have hr := B.returns
  have hts0 := atoms_spec (ws := zc y_Ledger_open b_Ledger_open 1 none) B.pre
  have hts : ∀ w ∈ zw, w.before _ s = true := fun w hw => hts0 w (List.mem_cons_of_mem _ hw)
  have hown : s.vm.findClass "ProofDesk$Ledger" = some m.cls := findClass_of_methodNamed B.named
  have hlocks := B.notSynchronized
  subst hsz
  have hD := hD0.self (sz := s.heap.size)
  generalize hAe : va_A [(le, .inr (1, [le_0, le_1, le_2, le_3, le_4, le_5]))] s.heap.size = A at hD ⊢
  have hA : ∀ q : Nat, s.heap.size ≤ q → A q := fun q h => by rw [← hAe]; exact Or.inr h
  have hS : va_S A s.heap s.heap [] := va_S.rf
  have hP : va_P D zcl [(le, .inr (1, [le_0, le_1, le_2, le_3, le_4, le_5]))] s.heap := hP
  have hl := lv_entry ([.ref le]) (n := 1) (Nat.le_of_ble_eq_true rfl)
  rw [lg_entry_eq]
  generalize (lg_sl ([.ref le]) ++ List.replicate (1 - (lg_sl ([.ref le])).length) Slot.unset).toArray = ls at hl ⊢
  have hl : lv_has ls 1 [(0, .ref le)] := hl
  refine lv_aload_n hx hb d_Ledger_open_0 rfl (lv_at hl 0 rfl) ?_
  refine lv_iconst (v := 0) hx hb d_Ledger_open_1 (by decide) ?_
  refine va_put (D := D) (ci := 1) (v := .int 0) (ty := .int) (C := "ProofDesk$Ledger") (T := F_Ledger) (N := 6) hx hb hts in_Ledger t_Ledger t_Ledger_ok n_Ledger hown hK hP hD hS 0 rfl rfl 2 (by decide) (hts _ kw_69) (fun _ h9 => h9) rfl (by decide +kernel) rfl rfl (Nat.le_of_ble_eq_true rfl) d_Ledger_open_2 (fun H locs hP hD hS => ?_)
  have hP : va_P D zcl [(le, .inr (1, [le_0, le_1, .int 0, le_3, le_4, le_5]))] H := hP
  have hD : va_D A [(le, .inr (1, [le_0, le_1, .int 0, le_3, le_4, le_5]))] := hD
  refine lv_aload_n hx hb d_Ledger_open_5 rfl (lv_at hl 0 rfl) ?_
  refine lv_iconst (v := 0) hx hb d_Ledger_open_6 (by decide) ?_
  refine va_put (D := D) (ci := 1) (v := .int 0) (ty := .int) (C := "ProofDesk$Ledger") (T := F_Ledger) (N := 6) hx hb hts in_Ledger t_Ledger t_Ledger_ok n_Ledger hown hK hP hD hS 0 rfl rfl 3 (by decide) (hts _ kw_70) (fun _ h9 => h9) rfl (by decide +kernel) rfl rfl (Nat.le_of_ble_eq_true rfl) d_Ledger_open_7 (fun H locs hP hD hS => ?_)
  have hP : va_P D zcl [(le, .inr (1, [le_0, le_1, .int 0, .int 0, le_4, le_5]))] H := hP
  have hD : va_D A [(le, .inr (1, [le_0, le_1, .int 0, .int 0, le_4, le_5]))] := hD
  refine lv_aload_n hx hb d_Ledger_open_10 rfl (lv_at hl 0 rfl) ?_
  refine lv_iconst (v := 0) hx hb d_Ledger_open_11 (by decide) ?_
  refine va_put (D := D) (ci := 1) (v := .int 0) (ty := .int) (C := "ProofDesk$Ledger") (T := F_Ledger) (N := 6) hx hb hts in_Ledger t_Ledger t_Ledger_ok n_Ledger hown hK hP hD hS 0 rfl rfl 4 (by decide) (hts _ kw_71) (fun _ h9 => h9) rfl (by decide +kernel) rfl rfl (Nat.le_of_ble_eq_true rfl) d_Ledger_open_12 (fun H locs hP hD hS => ?_)
  have hP : va_P D zcl [(le, .inr (1, [le_0, le_1, .int 0, .int 0, .int 0, le_5]))] H := hP
  have hD : va_D A [(le, .inr (1, [le_0, le_1, .int 0, .int 0, .int 0, le_5]))] := hD
  refine lv_aload_n hx hb d_Ledger_open_15 rfl (lv_at hl 0 rfl) ?_
  refine lv_iconst (v := 0) hx hb d_Ledger_open_16 (by decide) ?_
  refine va_put (D := D) (ci := 1) (v := .int 0) (ty := .int) (C := "ProofDesk$Ledger") (T := F_Ledger) (N := 6) hx hb hts in_Ledger t_Ledger t_Ledger_ok n_Ledger hown hK hP hD hS 0 rfl rfl 5 (by decide) (hts _ kw_72) (fun _ h9 => h9) rfl (by decide +kernel) rfl rfl (Nat.le_of_ble_eq_true rfl) d_Ledger_open_17 (fun H locs hP hD hS => ?_)
  have hP : va_P D zcl [(le, .inr (1, [le_0, le_1, .int 0, .int 0, .int 0, .int 0]))] H := hP
  have hD : va_D A [(le, .inr (1, [le_0, le_1, .int 0, .int 0, .int 0, .int 0]))] := hD
  have hP9 := hP.sub (ws' := [(le, .inr (1, [le_0, le_1, .int 0, .int 0, .int 0, .int 0]))]) [0] rfl
  have hD9 := hD.sub (ws' := [(le, .inr (1, [le_0, le_1, .int 0, .int 0, .int 0, .int 0]))]) [0] (by decide +kernel) rfl
  refine W.widen (k := 0) (n := 0) (by omega) (by omega) ?_
  exact W.vret hx hb hr (fun t ht hW => ⟨⟨(), rfl, trivial, by rw [ht]; exact hP9, hD9⟩, hS.F ht⟩) hS.2.2 d_Ledger_open_20
abbrev b_Lexer_open : ByteArray := prog_4_method_2_code
abbrev y_Lexer_open : MethodName := ⟨"ProofDesk$Lexer", "open", "([BI)V"⟩
theorem d_Lexer_open_0 : decode b_Lexer_open 0 = .ok (.aload_n 0, 1) := by decide +kernel
theorem d_Lexer_open_1 : decode b_Lexer_open 1 = .ok (.aload_n 1, 1) := by decide +kernel
theorem d_Lexer_open_2 : decode b_Lexer_open 2 = .ok (.putfield 15, 3) := by decide +kernel
theorem d_Lexer_open_5 : decode b_Lexer_open 5 = .ok (.aload_n 0, 1) := by decide +kernel
theorem d_Lexer_open_6 : decode b_Lexer_open 6 = .ok (.iload_n 2, 1) := by decide +kernel
theorem d_Lexer_open_7 : decode b_Lexer_open 7 = .ok (.putfield 19, 3) := by decide +kernel
theorem kw_263 : (Jvm.Cond.fieldLink "ProofDesk$Lexer" (19 : Nat) "ProofDesk$Lexer" "length" "I") ∈ zw := List.mem_filter.mpr ⟨List.mem_append_right _ (List.mem_of_getElem? (i := 263) (by decide +kernel)), by decide +kernel⟩
theorem d_Lexer_open_10 : decode b_Lexer_open 10 = .ok (.aload_n 0, 1) := by decide +kernel
theorem d_Lexer_open_11 : decode b_Lexer_open 11 = .ok (.iconst 0, 1) := by decide +kernel
theorem d_Lexer_open_12 : decode b_Lexer_open 12 = .ok (.putfield 23, 3) := by decide +kernel
theorem kw_264 : (Jvm.Cond.fieldLink "ProofDesk$Lexer" (23 : Nat) "ProofDesk$Lexer" "at" "I") ∈ zw := List.mem_filter.mpr ⟨List.mem_append_right _ (List.mem_of_getElem? (i := 264) (by decide +kernel)), by decide +kernel⟩
theorem d_Lexer_open_15 : decode b_Lexer_open 15 = .ok (.aload_n 0, 1) := by decide +kernel
theorem d_Lexer_open_16 : decode b_Lexer_open 16 = .ok (.iconst 0, 1) := by decide +kernel
theorem d_Lexer_open_17 : decode b_Lexer_open 17 = .ok (.putfield 26, 3) := by decide +kernel
theorem kw_267 : (Jvm.Cond.fieldLink "ProofDesk$Lexer" (26 : Nat) "ProofDesk$Lexer" "start" "I") ∈ zw := List.mem_filter.mpr ⟨List.mem_append_right _ (List.mem_of_getElem? (i := 267) (by decide +kernel)), by decide +kernel⟩
theorem d_Lexer_open_20 : decode b_Lexer_open 20 = .ok (.aload_n 0, 1) := by decide +kernel
theorem d_Lexer_open_21 : decode b_Lexer_open 21 = .ok (.iconst 0, 1) := by decide +kernel
theorem d_Lexer_open_22 : decode b_Lexer_open 22 = .ok (.putfield 29, 3) := by decide +kernel
theorem kw_265 : (Jvm.Cond.fieldLink "ProofDesk$Lexer" (29 : Nat) "ProofDesk$Lexer" "token" "I") ∈ zw := List.mem_filter.mpr ⟨List.mem_append_right _ (List.mem_of_getElem? (i := 265) (by decide +kernel)), by decide +kernel⟩
theorem d_Lexer_open_25 : decode b_Lexer_open 25 = .ok (.return_, 1) := by decide +kernel
set_option maxHeartbeats 4000000 in
set_option maxRecDepth 100000 in
theorem c_Lexer_open (l : Launch) (D : va_G) (cI cB cZ cS : ClassId) (sz : Nat) (lx : Nat) (lx_0 : Value) (lx_1 : Value) (lx_2 : Value) (lx_3 : Value) (lx_4 : Value) (lx_5 : Value) (lx_6 : Value) (lx_7 : Value) (bs : Nat) (n : Int32) : Met l y_Lexer_open (zc y_Lexer_open b_Lexer_open 3 none) ({ frames := 0, cells := 0, slots := 0, locals := 0 }) (zPc D (zty cI cB cZ cS) [(lx, .inr (3, [lx_0, lx_1, lx_2, lx_3, lx_4, lx_5, lx_6, lx_7]))] sz [.ref lx, .ref bs, .int n]) (va_Qv (fun _ : Unit => True) (fun _ t => va_P D zcl [(lx, .inr (3, [lx_0, .ref bs, .int n, .int 0, .int 0, .int 0, lx_6, lx_7]))] t.heap ∧ va_D (va_A [(lx, .inr (3, [lx_0, lx_1, lx_2, lx_3, lx_4, lx_5, lx_6, lx_7]))] sz) [(lx, .inr (3, [lx_0, .ref bs, .int n, .int 0, .int 0, .int 0, lx_6, lx_7]))]) (va_A [(lx, .inr (3, [lx_0, lx_1, lx_2, lx_3, lx_4, lx_5, lx_6, lx_7]))] sz)) 0 0 (va_A [(lx, .inr (3, [lx_0, lx_1, lx_2, lx_3, lx_4, lx_5, lx_6, lx_7]))] sz) := by
  refine Met.ofW (cc := b_Lexer_open) (maxL := 3) (ret := none) (by decide) rfl ?_
  intro p e s m args below meth c s₁ B hml hv
  obtain ⟨rfl, hsz, hP, ⟨hK, hN⟩, hD0⟩ := hv
  have hx := B.exec
  have hb := B.bytes
  have hr := B.returns
  have hts0 := atoms_spec (ws := zc y_Lexer_open b_Lexer_open 3 none) B.pre
  have hts : ∀ w ∈ zw, w.before _ s = true := fun w hw => hts0 w (List.mem_cons_of_mem _ hw)
  have hown : s.vm.findClass "ProofDesk$Lexer" = some m.cls := findClass_of_methodNamed B.named
  have hlocks := B.notSynchronized
  subst hsz
  have hD := hD0.self (sz := s.heap.size)
  generalize hAe : va_A [(lx, .inr (3, [lx_0, lx_1, lx_2, lx_3, lx_4, lx_5, lx_6, lx_7]))] s.heap.size = A at hD ⊢
  have hA : ∀ q : Nat, s.heap.size ≤ q → A q := fun q h => by rw [← hAe]; exact Or.inr h
  have hS : va_S A s.heap s.heap [] := va_S.rf
  have hP : va_P D zcl [(lx, .inr (3, [lx_0, lx_1, lx_2, lx_3, lx_4, lx_5, lx_6, lx_7]))] s.heap := hP
  have hl := lv_entry ([.ref lx, .ref bs, .int n]) (n := 3) (Nat.le_of_ble_eq_true rfl)
  rw [lg_entry_eq]
  generalize (lg_sl ([.ref lx, .ref bs, .int n]) ++ List.replicate (3 - (lg_sl ([.ref lx, .ref bs, .int n])).length) Slot.unset).toArray = ls at hl ⊢
  have hl : lv_has ls 3 [(0, .ref lx), (1, .ref bs), (2, .int n)] := hl
  refine lv_aload_n hx hb d_Lexer_open_0 rfl (lv_at hl 0 rfl) ?_
  refine lv_aload_n hx hb d_Lexer_open_1 rfl (lv_at hl 1 rfl) ?_
  refine va_put (D := D) (ci := 3) (v := .ref bs) (ty := (.array .byte)) (C := "ProofDesk$Lexer") (T := F_Lexer) (N := 8) hx hb hts in_Lexer t_Lexer t_Lexer_ok n_Lexer hown hK hP hD hS 0 rfl rfl 1 (by decide) (hts _ kw_262) (fun _ h9 => h9) rfl (by decide +kernel) rfl rfl (Nat.le_of_ble_eq_true rfl) d_Lexer_open_2 (fun H locs hP hD hS => ?_)
  have hP : va_P D zcl [(lx, .inr (3, [lx_0, .ref bs, lx_2, lx_3, lx_4, lx_5, lx_6, lx_7]))] H := hP
  have hD : va_D A [(lx, .inr (3, [lx_0, .ref bs, lx_2, lx_3, lx_4, lx_5, lx_6, lx_7]))] := hD
  refine lv_aload_n hx hb d_Lexer_open_5 rfl (lv_at hl 0 rfl) ?_
  refine lv_iload_n hx hb d_Lexer_open_6 rfl (lv_at hl 2 rfl) ?_
  refine va_put (D := D) (ci := 3) (v := .int n) (ty := .int) (C := "ProofDesk$Lexer") (T := F_Lexer) (N := 8) hx hb hts in_Lexer t_Lexer t_Lexer_ok n_Lexer hown hK hP hD hS 0 rfl rfl 2 (by decide) (hts _ kw_263) (fun _ h9 => h9) rfl (by decide +kernel) rfl rfl (Nat.le_of_ble_eq_true rfl) d_Lexer_open_7 (fun H locs hP hD hS => ?_)
  have hP : va_P D zcl [(lx, .inr (3, [lx_0, .ref bs, .int n, lx_3, lx_4, lx_5, lx_6, lx_7]))] H := hP
  have hD : va_D A [(lx, .inr (3, [lx_0, .ref bs, .int n, lx_3, lx_4, lx_5, lx_6, lx_7]))] := hD
  refine lv_aload_n hx hb d_Lexer_open_10 rfl (lv_at hl 0 rfl) ?_
  refine lv_iconst (v := 0) hx hb d_Lexer_open_11 (by decide) ?_
  refine va_put (D := D) (ci := 3) (v := .int 0) (ty := .int) (C := "ProofDesk$Lexer") (T := F_Lexer) (N := 8) hx hb hts in_Lexer t_Lexer t_Lexer_ok n_Lexer hown hK hP hD hS 0 rfl rfl 3 (by decide) (hts _ kw_264) (fun _ h9 => h9) rfl (by decide +kernel) rfl rfl (Nat.le_of_ble_eq_true rfl) d_Lexer_open_12 (fun H locs hP hD hS => ?_)
  have hP : va_P D zcl [(lx, .inr (3, [lx_0, .ref bs, .int n, .int 0, lx_4, lx_5, lx_6, lx_7]))] H := hP
  have hD : va_D A [(lx, .inr (3, [lx_0, .ref bs, .int n, .int 0, lx_4, lx_5, lx_6, lx_7]))] := hD
  refine lv_aload_n hx hb d_Lexer_open_15 rfl (lv_at hl 0 rfl) ?_
  refine lv_iconst (v := 0) hx hb d_Lexer_open_16 (by decide) ?_
  refine va_put (D := D) (ci := 3) (v := .int 0) (ty := .int) (C := "ProofDesk$Lexer") (T := F_Lexer) (N := 8) hx hb hts in_Lexer t_Lexer t_Lexer_ok n_Lexer hown hK hP hD hS 0 rfl rfl 5 (by decide) (hts _ kw_267) (fun _ h9 => h9) rfl (by decide +kernel) rfl rfl (Nat.le_of_ble_eq_true rfl) d_Lexer_open_17 (fun H locs hP hD hS => ?_)
  have hP : va_P D zcl [(lx, .inr (3, [lx_0, .ref bs, .int n, .int 0, lx_4, .int 0, lx_6, lx_7]))] H := hP
  have hD : va_D A [(lx, .inr (3, [lx_0, .ref bs, .int n, .int 0, lx_4, .int 0, lx_6, lx_7]))] := hD
  refine lv_aload_n hx hb d_Lexer_open_20 rfl (lv_at hl 0 rfl) ?_
  refine lv_iconst (v := 0) hx hb d_Lexer_open_21 (by decide) ?_
  refine va_put (D := D) (ci := 3) (v := .int 0) (ty := .int) (C := "ProofDesk$Lexer") (T := F_Lexer) (N := 8) hx hb hts in_Lexer t_Lexer t_Lexer_ok n_Lexer hown hK hP hD hS 0 rfl rfl 4 (by decide) (hts _ kw_265) (fun _ h9 => h9) rfl (by decide +kernel) rfl rfl (Nat.le_of_ble_eq_true rfl) d_Lexer_open_22 (fun H locs hP hD hS => ?_)
  have hP : va_P D zcl [(lx, .inr (3, [lx_0, .ref bs, .int n, .int 0, .int 0, .int 0, lx_6, lx_7]))] H := hP
  have hD : va_D A [(lx, .inr (3, [lx_0, .ref bs, .int n, .int 0, .int 0, .int 0, lx_6, lx_7]))] := hD
  have hP9 := hP.sub (ws' := [(lx, .inr (3, [lx_0, .ref bs, .int n, .int 0, .int 0, .int 0, lx_6, lx_7]))]) [0] rfl
  have hD9 := hD.sub (ws' := [(lx, .inr (3, [lx_0, .ref bs, .int n, .int 0, .int 0, .int 0, lx_6, lx_7]))]) [0] (by decide +kernel) rfl
  refine W.widen (k := 0) (n := 0) (by omega) (by omega) ?_
  exact W.vret hx hb hr (fun t ht hW => ⟨⟨(), rfl, trivial, by rw [ht]; exact hP9, hD9⟩, hS.F ht⟩) hS.2.2 d_Lexer_open_25
abbrev b_Names_openDeclaration : ByteArray := prog_5_method_14_code
abbrev y_Names_openDeclaration : MethodName := ⟨"ProofDesk$Names", "openDeclaration", "()V"⟩
theorem d_Names_openDeclaration_0 : decode b_Names_openDeclaration 0 = .ok (.aload_n 0, 1) := by decide +kernel
theorem d_Names_openDeclaration_1 : decode b_Names_openDeclaration 1 = .ok (.dup, 1) := by decide +kernel
theorem d_Names_openDeclaration_2 : decode b_Names_openDeclaration 2 = .ok (.getfield 75, 3) := by decide +kernel
theorem kw_149 : (Jvm.Cond.fieldLink "ProofDesk$Names" (75 : Nat) "ProofDesk$Names" "serial" "I") ∈ zw := List.mem_filter.mpr ⟨List.mem_append_right _ (List.mem_of_getElem? (i := 149) (by decide +kernel)), by decide +kernel⟩
theorem d_Names_openDeclaration_5 : decode b_Names_openDeclaration 5 = .ok (.iconst 1, 1) := by decide +kernel
theorem d_Names_openDeclaration_6 : decode b_Names_openDeclaration 6 = .ok (.iadd, 1) := by decide +kernel
theorem d_Names_openDeclaration_7 : decode b_Names_openDeclaration 7 = .ok (.putfield 75, 3) := by decide +kernel
theorem d_Names_openDeclaration_10 : decode b_Names_openDeclaration 10 = .ok (.return_, 1) := by decide +kernel
set_option maxHeartbeats 4000000 in
set_option maxRecDepth 100000 in
theorem c_Names_openDeclaration (l : Launch) (D : va_G) (cI cB cZ cS : ClassId) (sz : Nat) (nm : Nat) (se : Int32) (nm_0 : Value) (nm_1 : Value) (nm_2 : Value) (nm_3 : Value) (nm_4 : Value) : Met l y_Names_openDeclaration (zc y_Names_openDeclaration b_Names_openDeclaration 1 none) ({ frames := 0, cells := 0, slots := 0, locals := 0 }) (zPc D (zty cI cB cZ cS) [(nm, .inr (2, [nm_0, nm_1, nm_2, nm_3, nm_4, .int se]))] sz [.ref nm]) (va_Qv (fun _ : Unit => True) (fun _ t => va_P D zcl [(nm, .inr (2, [nm_0, nm_1, nm_2, nm_3, nm_4, .int (se + 1)]))] t.heap ∧ va_D (va_A [(nm, .inr (2, [nm_0, nm_1, nm_2, nm_3, nm_4, .int se]))] sz) [(nm, .inr (2, [nm_0, nm_1, nm_2, nm_3, nm_4, .int (se + 1)]))]) (va_A [(nm, .inr (2, [nm_0, nm_1, nm_2, nm_3, nm_4, .int se]))] sz)) 0 0 (va_A [(nm, .inr (2, [nm_0, nm_1, nm_2, nm_3, nm_4, .int se]))] sz) := by
  refine Met.ofW (cc := b_Names_openDeclaration) (maxL := 1) (ret := none) (by decide) rfl ?_
  intro p e s m args below meth c s₁ B hml hv
  obtain ⟨rfl, hsz, hP, ⟨hK, hN⟩, hD0⟩ := hv
  have hx := B.exec
  have hb := B.bytes
  have hr := B.returns
  have hts0 := atoms_spec (ws := zc y_Names_openDeclaration b_Names_openDeclaration 1 none) B.pre
  have hts : ∀ w ∈ zw, w.before _ s = true := fun w hw => hts0 w (List.mem_cons_of_mem _ hw)
  have hown : s.vm.findClass "ProofDesk$Names" = some m.cls := findClass_of_methodNamed B.named
  have hlocks := B.notSynchronized
  subst hsz
  have hD := hD0.self (sz := s.heap.size)
  generalize hAe : va_A [(nm, .inr (2, [nm_0, nm_1, nm_2, nm_3, nm_4, .int se]))] s.heap.size = A at hD ⊢
  have hA : ∀ q : Nat, s.heap.size ≤ q → A q := fun q h => by rw [← hAe]; exact Or.inr h
  have hS : va_S A s.heap s.heap [] := va_S.rf
  have hP : va_P D zcl [(nm, .inr (2, [nm_0, nm_1, nm_2, nm_3, nm_4, .int se]))] s.heap := hP
  have hl := lv_entry ([.ref nm]) (n := 1) (Nat.le_of_ble_eq_true rfl)
  rw [lg_entry_eq]
  generalize (lg_sl ([.ref nm]) ++ List.replicate (1 - (lg_sl ([.ref nm])).length) Slot.unset).toArray = ls at hl ⊢
  have hl : lv_has ls 1 [(0, .ref nm)] := hl
  refine lv_aload_n hx hb d_Names_openDeclaration_0 rfl (lv_at hl 0 rfl) ?_
  refine lv_dup hx hb d_Names_openDeclaration_1 rfl ?_
  refine va_get (D := D) (ci := 2) (v := .int se) (C := "ProofDesk$Names") (T := F_Names) (N := 6) hx hb hts in_Names hown hK hP 0 rfl rfl 5 (by decide) (hts _ kw_149) (fun _ h9 => h9) rfl d_Names_openDeclaration_2 ?_
  refine lv_iconst (v := 1) hx hb d_Names_openDeclaration_5 (by decide) ?_
  refine lv_iadd hx hb d_Names_openDeclaration_6 ?_
  refine va_put (D := D) (ci := 2) (v := .int (se + 1)) (ty := .int) (C := "ProofDesk$Names") (T := F_Names) (N := 6) hx hb hts in_Names t_Names t_Names_ok n_Names hown hK hP hD hS 0 rfl rfl 5 (by decide) (hts _ kw_149) (fun _ h9 => h9) rfl (by decide +kernel) rfl rfl (Nat.le_of_ble_eq_true rfl) d_Names_openDeclaration_7 (fun H locs hP hD hS => ?_)
  have hP : va_P D zcl [(nm, .inr (2, [nm_0, nm_1, nm_2, nm_3, nm_4, .int (se + 1)]))] H := hP
  have hD : va_D A [(nm, .inr (2, [nm_0, nm_1, nm_2, nm_3, nm_4, .int (se + 1)]))] := hD
  have hP9 := hP.sub (ws' := [(nm, .inr (2, [nm_0, nm_1, nm_2, nm_3, nm_4, .int (se + 1)]))]) [0] rfl
  have hD9 := hD.sub (ws' := [(nm, .inr (2, [nm_0, nm_1, nm_2, nm_3, nm_4, .int (se + 1)]))]) [0] (by decide +kernel) rfl
  refine W.widen (k := 0) (n := 0) (by omega) (by omega) ?_
  exact W.vret hx hb hr (fun t ht hW => ⟨⟨(), rfl, trivial, by rw [ht]; exact hP9, hD9⟩, hS.F ht⟩) hS.2.2 d_Names_openDeclaration_10
abbrev b_Lexer_skipBlanks : ByteArray := prog_4_method_7_code
abbrev y_Lexer_skipBlanks : MethodName := ⟨"ProofDesk$Lexer", "skipBlanks", "()Z"⟩
theorem d_Lexer_skipBlanks_0 : decode b_Lexer_skipBlanks 0 = .ok (.aload_n 0, 1) := by decide +kernel
theorem d_Lexer_skipBlanks_1 : decode b_Lexer_skipBlanks 1 = .ok (.getfield 19, 3) := by decide +kernel
theorem d_Lexer_skipBlanks_4 : decode b_Lexer_skipBlanks 4 = .ok (.istore_n 1, 1) := by decide +kernel
theorem d_Lexer_skipBlanks_5 : decode b_Lexer_skipBlanks 5 = .ok (.iload_n 1, 1) := by decide +kernel
theorem d_Lexer_skipBlanks_6 : decode b_Lexer_skipBlanks 6 = .ok (.ifCond .lt 150, 3) := by decide +kernel
theorem d_Lexer_skipBlanks_9 : decode b_Lexer_skipBlanks 9 = .ok (.aload_n 0, 1) := by decide +kernel
theorem d_Lexer_skipBlanks_10 : decode b_Lexer_skipBlanks 10 = .ok (.getfield 23, 3) := by decide +kernel
theorem d_Lexer_skipBlanks_13 : decode b_Lexer_skipBlanks 13 = .ok (.aload_n 0, 1) := by decide +kernel
theorem d_Lexer_skipBlanks_14 : decode b_Lexer_skipBlanks 14 = .ok (.getfield 19, 3) := by decide +kernel
theorem d_Lexer_skipBlanks_17 : decode b_Lexer_skipBlanks 17 = .ok (.if_icmp .ge 139, 3) := by decide +kernel
theorem d_Lexer_skipBlanks_156 : decode b_Lexer_skipBlanks 156 = .ok (.iconst 1, 1) := by decide +kernel
theorem d_Lexer_skipBlanks_157 : decode b_Lexer_skipBlanks 157 = .ok (.ireturn, 1) := by decide +kernel
set_option maxHeartbeats 4000000 in
set_option maxRecDepth 100000 in
theorem c_Lexer_skipBlanks_0 (l : Launch) (D : va_G) (cI cB cZ cS : ClassId) (sz : Nat) (lx : Nat) (lx_0 : Value) (lx_1 : Value) (lx_4 : Value) (lx_5 : Value) (lx_6 : Value) (lx_7 : Value) : Met l y_Lexer_skipBlanks (zc y_Lexer_skipBlanks b_Lexer_skipBlanks 4 (some .boolean)) ({ frames := 0, cells := 0, slots := 0, locals := 0 }) (zPc D (zty cI cB cZ cS) [(lx, .inr (3, [lx_0, lx_1, .int 0, .int 0, lx_4, lx_5, lx_6, lx_7]))] sz [.ref lx]) (va_Qi (fun (r : Int32) (_ : Unit) => r = 1) (fun _ t => va_P D zcl [(lx, .inr (3, [lx_0, lx_1, .int 0, .int 0, lx_4, lx_5, lx_6, lx_7]))] t.heap ∧ va_D (va_A [(lx, .inr (3, [lx_0, lx_1, .int 0, .int 0, lx_4, lx_5, lx_6, lx_7]))] sz) [(lx, .inr (3, [lx_0, lx_1, .int 0, .int 0, lx_4, lx_5, lx_6, lx_7]))]) (va_A [(lx, .inr (3, [lx_0, lx_1, .int 0, .int 0, lx_4, lx_5, lx_6, lx_7]))] sz)) 0 0 (va_A [(lx, .inr (3, [lx_0, lx_1, .int 0, .int 0, lx_4, lx_5, lx_6, lx_7]))] sz) := by
  refine Met.ofW (cc := b_Lexer_skipBlanks) (maxL := 4) (ret := (some .boolean)) (by decide) rfl ?_
  intro p e s m args below meth c s₁ B hml hv
  obtain ⟨rfl, hsz, hP, ⟨hK, hN⟩, hD0⟩ := hv
  have hx := B.exec
  have hb := B.bytes
  have hr := B.returns
  have hts0 := atoms_spec (ws := zc y_Lexer_skipBlanks b_Lexer_skipBlanks 4 (some .boolean)) B.pre
  have hts : ∀ w ∈ zw, w.before _ s = true := fun w hw => hts0 w (List.mem_cons_of_mem _ hw)
  have hown : s.vm.findClass "ProofDesk$Lexer" = some m.cls := findClass_of_methodNamed B.named
  have hlocks := B.notSynchronized
  subst hsz
  have hD := hD0.self (sz := s.heap.size)
  generalize hAe : va_A [(lx, .inr (3, [lx_0, lx_1, .int 0, .int 0, lx_4, lx_5, lx_6, lx_7]))] s.heap.size = A at hD ⊢
  have hA : ∀ q : Nat, s.heap.size ≤ q → A q := fun q h => by rw [← hAe]; exact Or.inr h
  have hS : va_S A s.heap s.heap [] := va_S.rf
  have hP : va_P D zcl [(lx, .inr (3, [lx_0, lx_1, .int 0, .int 0, lx_4, lx_5, lx_6, lx_7]))] s.heap := hP
  have hl := lv_entry ([.ref lx]) (n := 4) (Nat.le_of_ble_eq_true rfl)
  rw [lg_entry_eq]
  generalize (lg_sl ([.ref lx]) ++ List.replicate (4 - (lg_sl ([.ref lx])).length) Slot.unset).toArray = ls at hl ⊢
  have hl : lv_has ls 4 [(0, .ref lx)] := hl
  refine lv_aload_n hx hb d_Lexer_skipBlanks_0 rfl (lv_at hl 0 rfl) ?_
  refine va_get (D := D) (ci := 3) (v := .int 0) (C := "ProofDesk$Lexer") (T := F_Lexer) (N := 8) hx hb hts in_Lexer hown hK hP 0 rfl rfl 2 (by decide) (hts _ kw_263) (fun _ h9 => h9) rfl d_Lexer_skipBlanks_1 ?_
  refine lv_istore_n (lv' := [(1, .int 0), (0, .ref lx)]) hx hb d_Lexer_skipBlanks_4 rfl hl (by decide) rfl (fun ls hl => ?_)
  refine lv_iload_n hx hb d_Lexer_skipBlanks_5 rfl (lv_at hl 0 rfl) ?_
  have hc_1 : ¬ (0 : Int32) < 0 := by decide +kernel
  refine lv_if_lt hx hb d_Lexer_skipBlanks_6 rfl (fun h => absurd h hc_1) (fun _ => ?_)
  refine lv_aload_n hx hb d_Lexer_skipBlanks_9 rfl (lv_at hl 1 rfl) ?_
  refine va_get (D := D) (ci := 3) (v := .int 0) (C := "ProofDesk$Lexer") (T := F_Lexer) (N := 8) hx hb hts in_Lexer hown hK hP 0 rfl rfl 3 (by decide) (hts _ kw_264) (fun _ h9 => h9) rfl d_Lexer_skipBlanks_10 ?_
  refine lv_aload_n hx hb d_Lexer_skipBlanks_13 rfl (lv_at hl 1 rfl) ?_
  refine va_get (D := D) (ci := 3) (v := .int 0) (C := "ProofDesk$Lexer") (T := F_Lexer) (N := 8) hx hb hts in_Lexer hown hK hP 0 rfl rfl 2 (by decide) (hts _ kw_263) (fun _ h9 => h9) rfl d_Lexer_skipBlanks_14 ?_
  have hc_2 : (0 : Int32) ≤ 0 := by decide +kernel
  refine lv_icmp_ge hx hb d_Lexer_skipBlanks_17 rfl (fun _ => ?_) (fun h => absurd hc_2 h)
  refine lv_iconst (v := 1) hx hb d_Lexer_skipBlanks_156 (by decide) ?_
  have hP9 := hP.sub (ws' := [(lx, .inr (3, [lx_0, lx_1, .int 0, .int 0, lx_4, lx_5, lx_6, lx_7]))]) [0] rfl
  have hD9 := hD.sub (ws' := [(lx, .inr (3, [lx_0, lx_1, .int 0, .int 0, lx_4, lx_5, lx_6, lx_7]))]) [0] (by decide +kernel) rfl
  refine W.widen (k := 0) (n := 0) (by omega) (by omega) ?_
  exact W.zret (v := 1) hx hb hr rfl (fun t ht hW => ⟨⟨1, (), rfl, rfl, by rw [ht]; exact hP9, hD9⟩, hS.F ht⟩) hS.2.2 d_Lexer_skipBlanks_157
abbrev b_Lexer_advance : ByteArray := prog_4_method_3_code
abbrev y_Lexer_advance : MethodName := ⟨"ProofDesk$Lexer", "advance", "()V"⟩
theorem d_Lexer_advance_0 : decode b_Lexer_advance 0 = .ok (.aload_n 0, 1) := by decide +kernel
theorem d_Lexer_advance_1 : decode b_Lexer_advance 1 = .ok (.invokevirtual 32, 3) := by decide +kernel
set_option maxRecDepth 100000 in
theorem kw_627 : (Jvm.Cond.code ({ cls := "ProofDesk$Lexer", name := "skipBlanks", desc := "()Z" } : Jvm.MethodName) prog_4_method_7_code (4 : Nat) (Option.some Jvm.ClassFile.FieldType.boolean)) ∈ zw := List.mem_filter.mpr ⟨List.mem_append_right _ (List.mem_of_getElem? (i := 627) rfl), by decide +kernel⟩
theorem kw_624 : (Jvm.Cond.methodLink "ProofDesk$Lexer" (32 : Nat) ({ cls := "ProofDesk$Lexer", name := "skipBlanks", desc := "()Z" } : Jvm.MethodName)) ∈ zw := List.mem_filter.mpr ⟨List.mem_append_right _ (List.mem_of_getElem? (i := 624) (by decide +kernel)), by decide +kernel⟩
theorem kw_626 : (Jvm.Cond.instanceMethod ({ cls := "ProofDesk$Lexer", name := "skipBlanks", desc := "()Z" } : Jvm.MethodName)) ∈ zw := List.mem_filter.mpr ⟨List.mem_append_right _ (List.mem_of_getElem? (i := 626) (by decide +kernel)), by decide +kernel⟩
theorem kp_3 : (Jvm.Cond.selects "ProofDesk$Lexer" ({ cls := "ProofDesk$Lexer", name := "skipBlanks", desc := "()Z" } : Jvm.MethodName) ({ cls := "ProofDesk$Lexer", name := "skipBlanks", desc := "()Z" } : Jvm.MethodName)) ∈ zw := List.mem_filter.mpr ⟨List.mem_append_left _ (List.mem_of_getElem? (i := 3) (by decide +kernel)), by decide +kernel⟩
theorem d_Lexer_advance_4 : decode b_Lexer_advance 4 = .ok (.istore_n 1, 1) := by decide +kernel
theorem d_Lexer_advance_5 : decode b_Lexer_advance 5 = .ok (.aload_n 0, 1) := by decide +kernel
theorem d_Lexer_advance_6 : decode b_Lexer_advance 6 = .ok (.aload_n 0, 1) := by decide +kernel
theorem d_Lexer_advance_7 : decode b_Lexer_advance 7 = .ok (.getfield 23, 3) := by decide +kernel
theorem d_Lexer_advance_10 : decode b_Lexer_advance 10 = .ok (.putfield 26, 3) := by decide +kernel
theorem d_Lexer_advance_13 : decode b_Lexer_advance 13 = .ok (.iload_n 1, 1) := by decide +kernel
theorem d_Lexer_advance_14 : decode b_Lexer_advance 14 = .ok (.ifCond .ne 11, 3) := by decide +kernel
theorem d_Lexer_advance_25 : decode b_Lexer_advance 25 = .ok (.aload_n 0, 1) := by decide +kernel
theorem d_Lexer_advance_26 : decode b_Lexer_advance 26 = .ok (.getfield 23, 3) := by decide +kernel
theorem d_Lexer_advance_29 : decode b_Lexer_advance 29 = .ok (.aload_n 0, 1) := by decide +kernel
theorem d_Lexer_advance_30 : decode b_Lexer_advance 30 = .ok (.getfield 19, 3) := by decide +kernel
theorem d_Lexer_advance_33 : decode b_Lexer_advance 33 = .ok (.if_icmp .lt 11, 3) := by decide +kernel
theorem d_Lexer_advance_36 : decode b_Lexer_advance 36 = .ok (.aload_n 0, 1) := by decide +kernel
theorem d_Lexer_advance_37 : decode b_Lexer_advance 37 = .ok (.iconst 0, 1) := by decide +kernel
theorem d_Lexer_advance_38 : decode b_Lexer_advance 38 = .ok (.putfield 29, 3) := by decide +kernel
theorem d_Lexer_advance_41 : decode b_Lexer_advance 41 = .ok (.goto 29, 3) := by decide +kernel
theorem d_Lexer_advance_70 : decode b_Lexer_advance 70 = .ok (.return_, 1) := by decide +kernel
set_option maxHeartbeats 4000000 in
set_option maxRecDepth 100000 in
theorem c_Lexer_advance_0 (l : Launch) (D : va_G) (cI cB cZ cS : ClassId) (sz : Nat) (lx : Nat) (lx_0 : Value) (lx_1 : Value) (lx_4 : Value) (lx_5 : Value) (lx_6 : Value) (lx_7 : Value) : Met l y_Lexer_advance (zc y_Lexer_advance b_Lexer_advance 2 none) ({ frames := 1, cells := 0, slots := 0, locals := 23 }) (zPc D (zty cI cB cZ cS) [(lx, .inr (3, [lx_0, lx_1, .int 0, .int 0, lx_4, lx_5, lx_6, lx_7]))] sz [.ref lx]) (va_Qv (fun _ : Unit => True) (fun _ t => va_P D zcl [(lx, .inr (3, [lx_0, lx_1, .int 0, .int 0, .int 0, .int 0, lx_6, lx_7]))] t.heap ∧ va_D (va_A [(lx, .inr (3, [lx_0, lx_1, .int 0, .int 0, lx_4, lx_5, lx_6, lx_7]))] sz) [(lx, .inr (3, [lx_0, lx_1, .int 0, .int 0, .int 0, .int 0, lx_6, lx_7]))]) (va_A [(lx, .inr (3, [lx_0, lx_1, .int 0, .int 0, lx_4, lx_5, lx_6, lx_7]))] sz)) 0 0 (va_A [(lx, .inr (3, [lx_0, lx_1, .int 0, .int 0, lx_4, lx_5, lx_6, lx_7]))] sz) := by
  refine Met.ofW (cc := b_Lexer_advance) (maxL := 2) (ret := none) (by decide) rfl ?_
  intro p e s m args below meth c s₁ B hml hv
  obtain ⟨rfl, hsz, hP, ⟨hK, hN⟩, hD0⟩ := hv
  have hx := B.exec
  have hb := B.bytes
  have hr := B.returns
  have hts0 := atoms_spec (ws := zc y_Lexer_advance b_Lexer_advance 2 none) B.pre
  have hts : ∀ w ∈ zw, w.before _ s = true := fun w hw => hts0 w (List.mem_cons_of_mem _ hw)
  have hown : s.vm.findClass "ProofDesk$Lexer" = some m.cls := findClass_of_methodNamed B.named
  have hlocks := B.notSynchronized
  subst hsz
  have hD := hD0.self (sz := s.heap.size)
  generalize hAe : va_A [(lx, .inr (3, [lx_0, lx_1, .int 0, .int 0, lx_4, lx_5, lx_6, lx_7]))] s.heap.size = A at hD ⊢
  have hA : ∀ q : Nat, s.heap.size ≤ q → A q := fun q h => by rw [← hAe]; exact Or.inr h
  have hS : va_S A s.heap s.heap [] := va_S.rf
  have hP : va_P D zcl [(lx, .inr (3, [lx_0, lx_1, .int 0, .int 0, lx_4, lx_5, lx_6, lx_7]))] s.heap := hP
  have hl := lv_entry ([.ref lx]) (n := 2) (Nat.le_of_ble_eq_true rfl)
  rw [lg_entry_eq]
  generalize (lg_sl ([.ref lx]) ++ List.replicate (2 - (lg_sl ([.ref lx])).length) Slot.unset).toArray = ls at hl ⊢
  have hl : lv_has ls 2 [(0, .ref lx)] := hl
  refine lv_aload_n hx hb d_Lexer_advance_0 rfl (lv_at hl 0 rfl) ?_
  have hPc := hP.sub (ws' := [(lx, .inr (3, [lx_0, lx_1, .int 0, .int 0, lx_4, lx_5, lx_6, lx_7]))]) [0] rfl
  have hDc := hD.sub (ws' := [(lx, .inr (3, [lx_0, lx_1, .int 0, .int 0, lx_4, lx_5, lx_6, lx_7]))]) [0] (by decide +kernel) rfl
  have hFc := va_free (wc := [(lx, .inr (3, [lx_0, lx_1, .int 0, .int 0, lx_4, lx_5, lx_6, lx_7]))]) hD hS hA [0] rfl
  have hkc : 0 + 0 ≤ 0 := by omega
  have hks : 0 + 0 ≤ 0 := by omega
  refine va_calli (va_runV (As := []) (rest := []) ⟨hx, hb, hml, hown, hts⟩ (c_Lexer_skipBlanks_0 l D cI cB cZ cS s.heap.size lx lx_0 lx_1 lx_4 lx_5 lx_6 lx_7) (⟨callB_of 0 hts (zgood kw_627) rfl rfl rfl (hts _ kw_10) (hts _ kw_624) (by decide +kernel) ⟨Nat.le_of_ble_eq_true rfl, Nat.le_of_ble_eq_true rfl⟩, hts _ kw_626, hts _ kp_3⟩) (zPreV hPc hK hN hDc (va_recv (q := ("ProofDesk$Lexer", F_Lexer, 8)) hK hP rfl (q0 := 0) rfl)) rfl rfl hl.1 rfl (lv_room (Nat.le_of_ble_eq_true rfl)) d_Lexer_advance_1 ⟨hkc, hks⟩) hS (fun q _ h => hFc q h) hFc (fun r u t H1 locs ht hvm hw hB hz1 hk1 hS => ?_)
  obtain ⟨hP1, hD1⟩ := hB
  rw [ht] at hP1
  obtain ⟨hP, hD⟩ := va_join (wr := []) (w1 := [(lx, .inr (3, [lx_0, lx_1, .int 0, .int 0, lx_4, lx_5, lx_6, lx_7]))]) hP hD [0] [] rfl rfl (by decide +kernel) (by decide +kernel) hk1 hFc hP1 hD1
  generalize H1 = H at hP hS ⊢
  have hP : va_P D zcl [(lx, .inr (3, [lx_0, lx_1, .int 0, .int 0, lx_4, lx_5, lx_6, lx_7]))] H := hP
  have hD : va_D A [(lx, .inr (3, [lx_0, lx_1, .int 0, .int 0, lx_4, lx_5, lx_6, lx_7]))] := hD
  subst hw
  refine W.widen (k := 0) (n := 0) (by omega) (by omega) ?_
  refine lv_istore_n (lv' := [(1, .int 1), (0, .ref lx)]) hx hb d_Lexer_advance_4 rfl hl (by decide) rfl (fun ls hl => ?_)
  refine lv_aload_n hx hb d_Lexer_advance_5 rfl (lv_at hl 1 rfl) ?_
  refine lv_aload_n hx hb d_Lexer_advance_6 rfl (lv_at hl 1 rfl) ?_
  refine va_get (D := D) (ci := 3) (v := .int 0) (C := "ProofDesk$Lexer") (T := F_Lexer) (N := 8) hx hb hts in_Lexer hown hK hP 0 rfl rfl 3 (by decide) (hts _ kw_264) (fun _ h9 => h9) rfl d_Lexer_advance_7 ?_
  refine va_put (D := D) (ci := 3) (v := .int 0) (ty := .int) (C := "ProofDesk$Lexer") (T := F_Lexer) (N := 8) hx hb hts in_Lexer t_Lexer t_Lexer_ok n_Lexer hown hK hP hD hS 0 rfl rfl 5 (by decide) (hts _ kw_267) (fun _ h9 => h9) rfl (by decide +kernel) rfl rfl (Nat.le_of_ble_eq_true rfl) d_Lexer_advance_10 (fun H locs hP hD hS => ?_)
  have hP : va_P D zcl [(lx, .inr (3, [lx_0, lx_1, .int 0, .int 0, lx_4, .int 0, lx_6, lx_7]))] H := hP
  have hD : va_D A [(lx, .inr (3, [lx_0, lx_1, .int 0, .int 0, lx_4, .int 0, lx_6, lx_7]))] := hD
  refine lv_iload_n hx hb d_Lexer_advance_13 rfl (lv_at hl 0 rfl) ?_
  have hc_1 : ¬ (1 : Int32) = 0 := by decide +kernel
  refine lv_if_ne hx hb d_Lexer_advance_14 rfl (fun _ => ?_) (fun h => absurd h hc_1)
  refine lv_aload_n hx hb d_Lexer_advance_25 rfl (lv_at hl 1 rfl) ?_
  refine va_get (D := D) (ci := 3) (v := .int 0) (C := "ProofDesk$Lexer") (T := F_Lexer) (N := 8) hx hb hts in_Lexer hown hK hP 0 rfl rfl 3 (by decide) (hts _ kw_264) (fun _ h9 => h9) rfl d_Lexer_advance_26 ?_
  refine lv_aload_n hx hb d_Lexer_advance_29 rfl (lv_at hl 1 rfl) ?_
  refine va_get (D := D) (ci := 3) (v := .int 0) (C := "ProofDesk$Lexer") (T := F_Lexer) (N := 8) hx hb hts in_Lexer hown hK hP 0 rfl rfl 2 (by decide) (hts _ kw_263) (fun _ h9 => h9) rfl d_Lexer_advance_30 ?_
  have hc_2 : ¬ (0 : Int32) < 0 := by decide +kernel
  refine lv_icmp_lt hx hb d_Lexer_advance_33 rfl (fun h => absurd h hc_2) (fun _ => ?_)
  refine lv_aload_n hx hb d_Lexer_advance_36 rfl (lv_at hl 1 rfl) ?_
  refine lv_iconst (v := 0) hx hb d_Lexer_advance_37 (by decide) ?_
  refine va_put (D := D) (ci := 3) (v := .int 0) (ty := .int) (C := "ProofDesk$Lexer") (T := F_Lexer) (N := 8) hx hb hts in_Lexer t_Lexer t_Lexer_ok n_Lexer hown hK hP hD hS 0 rfl rfl 4 (by decide) (hts _ kw_265) (fun _ h9 => h9) rfl (by decide +kernel) rfl rfl (Nat.le_of_ble_eq_true rfl) d_Lexer_advance_38 (fun H locs hP hD hS => ?_)
  have hP : va_P D zcl [(lx, .inr (3, [lx_0, lx_1, .int 0, .int 0, .int 0, .int 0, lx_6, lx_7]))] H := hP
  have hD : va_D A [(lx, .inr (3, [lx_0, lx_1, .int 0, .int 0, .int 0, .int 0, lx_6, lx_7]))] := hD
  refine lv_goto hx hb d_Lexer_advance_41 rfl ?_
  have hP9 := hP.sub (ws' := [(lx, .inr (3, [lx_0, lx_1, .int 0, .int 0, .int 0, .int 0, lx_6, lx_7]))]) [0] rfl
  have hD9 := hD.sub (ws' := [(lx, .inr (3, [lx_0, lx_1, .int 0, .int 0, .int 0, .int 0, lx_6, lx_7]))]) [0] (by decide +kernel) rfl
  refine W.widen (k := 0) (n := 0) (by omega) (by omega) ?_
  exact W.vret hx hb hr (fun t ht hW => ⟨⟨(), rfl, trivial, by rw [ht]; exact hP9, hD9⟩, hS.F ht⟩) hS.2.2 d_Lexer_advance_70
abbrev b_Parser_readDeclaration : ByteArray := prog_6_method_3_code
abbrev y_Parser_readDeclaration : MethodName := ⟨"ProofDesk$Parser", "readDeclaration", "()Z"⟩
theorem d_Parser_readDeclaration_0 : decode b_Parser_readDeclaration 0 = .ok (.aload_n 0, 1) := by decide +kernel
theorem d_Parser_readDeclaration_1 : decode b_Parser_readDeclaration 1 = .ok (.getfield 51, 3) := by decide +kernel
theorem d_Parser_readDeclaration_4 : decode b_Parser_readDeclaration 4 = .ok (.invokevirtual 59, 3) := by decide +kernel
set_option maxRecDepth 100000 in
theorem kw_615 : (Jvm.Cond.code ({ cls := "ProofDesk$Ledger", name := "open", desc := "()V" } : Jvm.MethodName) prog_3_method_3_code (1 : Nat) (Option.none : Option Jvm.ClassFile.FieldType)) ∈ zw := List.mem_filter.mpr ⟨List.mem_append_right _ (List.mem_of_getElem? (i := 615) rfl), by decide +kernel⟩
theorem kw_612 : (Jvm.Cond.methodLink "ProofDesk$Parser" (59 : Nat) ({ cls := "ProofDesk$Ledger", name := "open", desc := "()V" } : Jvm.MethodName)) ∈ zw := List.mem_filter.mpr ⟨List.mem_append_right _ (List.mem_of_getElem? (i := 612) (by decide +kernel)), by decide +kernel⟩
theorem kw_613 : (Jvm.Cond.instanceMethod ({ cls := "ProofDesk$Ledger", name := "open", desc := "()V" } : Jvm.MethodName)) ∈ zw := List.mem_filter.mpr ⟨List.mem_append_right _ (List.mem_of_getElem? (i := 613) (by decide +kernel)), by decide +kernel⟩
theorem kw_614 : (Jvm.Cond.selects "ProofDesk$Ledger" ({ cls := "ProofDesk$Ledger", name := "open", desc := "()V" } : Jvm.MethodName) ({ cls := "ProofDesk$Ledger", name := "open", desc := "()V" } : Jvm.MethodName)) ∈ zw := List.mem_filter.mpr ⟨List.mem_append_right _ (List.mem_of_getElem? (i := 614) (by decide +kernel)), by decide +kernel⟩
theorem d_Parser_readDeclaration_7 : decode b_Parser_readDeclaration 7 = .ok (.aload_n 0, 1) := by decide +kernel
theorem d_Parser_readDeclaration_8 : decode b_Parser_readDeclaration 8 = .ok (.getfield 16, 3) := by decide +kernel
theorem d_Parser_readDeclaration_11 : decode b_Parser_readDeclaration 11 = .ok (.iconst 0, 1) := by decide +kernel
theorem d_Parser_readDeclaration_12 : decode b_Parser_readDeclaration 12 = .ok (.putfield 64, 3) := by decide +kernel
theorem kw_52 : (Jvm.Cond.fieldLinkNest "ProofDesk$Parser" (64 : Nat) "ProofDesk$Pile" "count" "I" "ProofDesk") ∈ zn := List.mem_filter.mpr ⟨List.mem_append_right _ (List.mem_of_getElem? (i := 52) (by decide +kernel)), by decide +kernel⟩
theorem d_Parser_readDeclaration_15 : decode b_Parser_readDeclaration 15 = .ok (.aload_n 0, 1) := by decide +kernel
theorem d_Parser_readDeclaration_16 : decode b_Parser_readDeclaration 16 = .ok (.getfield 20, 3) := by decide +kernel
theorem d_Parser_readDeclaration_19 : decode b_Parser_readDeclaration 19 = .ok (.iconst 0, 1) := by decide +kernel
theorem d_Parser_readDeclaration_20 : decode b_Parser_readDeclaration 20 = .ok (.putfield 64, 3) := by decide +kernel
theorem d_Parser_readDeclaration_23 : decode b_Parser_readDeclaration 23 = .ok (.aload_n 0, 1) := by decide +kernel
theorem d_Parser_readDeclaration_24 : decode b_Parser_readDeclaration 24 = .ok (.getfield 23, 3) := by decide +kernel
theorem d_Parser_readDeclaration_27 : decode b_Parser_readDeclaration 27 = .ok (.iconst 0, 1) := by decide +kernel
theorem d_Parser_readDeclaration_28 : decode b_Parser_readDeclaration 28 = .ok (.putfield 64, 3) := by decide +kernel
theorem d_Parser_readDeclaration_31 : decode b_Parser_readDeclaration 31 = .ok (.aload_n 0, 1) := by decide +kernel
theorem d_Parser_readDeclaration_32 : decode b_Parser_readDeclaration 32 = .ok (.getfield 26, 3) := by decide +kernel
theorem d_Parser_readDeclaration_35 : decode b_Parser_readDeclaration 35 = .ok (.iconst 0, 1) := by decide +kernel
theorem d_Parser_readDeclaration_36 : decode b_Parser_readDeclaration 36 = .ok (.putfield 64, 3) := by decide +kernel
theorem d_Parser_readDeclaration_39 : decode b_Parser_readDeclaration 39 = .ok (.aload_n 0, 1) := by decide +kernel
theorem d_Parser_readDeclaration_40 : decode b_Parser_readDeclaration 40 = .ok (.iconst 1, 1) := by decide +kernel
theorem d_Parser_readDeclaration_41 : decode b_Parser_readDeclaration 41 = .ok (.putfield 67, 3) := by decide +kernel
theorem kw_310 : (Jvm.Cond.fieldLink "ProofDesk$Parser" (67 : Nat) "ProofDesk$Parser" "depth" "I") ∈ zw := List.mem_filter.mpr ⟨List.mem_append_right _ (List.mem_of_getElem? (i := 310) (by decide +kernel)), by decide +kernel⟩
theorem d_Parser_readDeclaration_44 : decode b_Parser_readDeclaration 44 = .ok (.aload_n 0, 1) := by decide +kernel
theorem d_Parser_readDeclaration_45 : decode b_Parser_readDeclaration 45 = .ok (.getfield 39, 3) := by decide +kernel
theorem d_Parser_readDeclaration_48 : decode b_Parser_readDeclaration 48 = .ok (.invokevirtual 70, 3) := by decide +kernel
set_option maxRecDepth 100000 in
theorem kw_619 : (Jvm.Cond.code ({ cls := "ProofDesk$Names", name := "openDeclaration", desc := "()V" } : Jvm.MethodName) prog_5_method_14_code (1 : Nat) (Option.none : Option Jvm.ClassFile.FieldType)) ∈ zw := List.mem_filter.mpr ⟨List.mem_append_right _ (List.mem_of_getElem? (i := 619) rfl), by decide +kernel⟩
theorem kw_616 : (Jvm.Cond.methodLink "ProofDesk$Parser" (70 : Nat) ({ cls := "ProofDesk$Names", name := "openDeclaration", desc := "()V" } : Jvm.MethodName)) ∈ zw := List.mem_filter.mpr ⟨List.mem_append_right _ (List.mem_of_getElem? (i := 616) (by decide +kernel)), by decide +kernel⟩
theorem kw_617 : (Jvm.Cond.instanceMethod ({ cls := "ProofDesk$Names", name := "openDeclaration", desc := "()V" } : Jvm.MethodName)) ∈ zw := List.mem_filter.mpr ⟨List.mem_append_right _ (List.mem_of_getElem? (i := 617) (by decide +kernel)), by decide +kernel⟩
theorem kw_618 : (Jvm.Cond.selects "ProofDesk$Names" ({ cls := "ProofDesk$Names", name := "openDeclaration", desc := "()V" } : Jvm.MethodName) ({ cls := "ProofDesk$Names", name := "openDeclaration", desc := "()V" } : Jvm.MethodName)) ∈ zw := List.mem_filter.mpr ⟨List.mem_append_right _ (List.mem_of_getElem? (i := 618) (by decide +kernel)), by decide +kernel⟩
theorem d_Parser_readDeclaration_51 : decode b_Parser_readDeclaration 51 = .ok (.aload_n 0, 1) := by decide +kernel
theorem d_Parser_readDeclaration_52 : decode b_Parser_readDeclaration 52 = .ok (.bipush 17, 2) := by decide +kernel
theorem d_Parser_readDeclaration_54 : decode b_Parser_readDeclaration 54 = .ok (.putfield 55, 3) := by decide +kernel
theorem kw_309 : (Jvm.Cond.fieldLink "ProofDesk$Parser" (55 : Nat) "ProofDesk$Parser" "mode" "I") ∈ zw := List.mem_filter.mpr ⟨List.mem_append_right _ (List.mem_of_getElem? (i := 309) (by decide +kernel)), by decide +kernel⟩
theorem d_Parser_readDeclaration_57 : decode b_Parser_readDeclaration 57 = .ok (.aload_n 0, 1) := by decide +kernel
theorem d_Parser_readDeclaration_58 : decode b_Parser_readDeclaration 58 = .ok (.getfield 29, 3) := by decide +kernel
theorem d_Parser_readDeclaration_61 : decode b_Parser_readDeclaration 61 = .ok (.invokevirtual 75, 3) := by decide +kernel
set_option maxRecDepth 100000 in
theorem kw_623 : (Jvm.Cond.code ({ cls := "ProofDesk$Lexer", name := "advance", desc := "()V" } : Jvm.MethodName) prog_4_method_3_code (2 : Nat) (Option.none : Option Jvm.ClassFile.FieldType)) ∈ zw := List.mem_filter.mpr ⟨List.mem_append_right _ (List.mem_of_getElem? (i := 623) rfl), by decide +kernel⟩
theorem kw_620 : (Jvm.Cond.methodLink "ProofDesk$Parser" (75 : Nat) ({ cls := "ProofDesk$Lexer", name := "advance", desc := "()V" } : Jvm.MethodName)) ∈ zw := List.mem_filter.mpr ⟨List.mem_append_right _ (List.mem_of_getElem? (i := 620) (by decide +kernel)), by decide +kernel⟩
theorem kw_621 : (Jvm.Cond.instanceMethod ({ cls := "ProofDesk$Lexer", name := "advance", desc := "()V" } : Jvm.MethodName)) ∈ zw := List.mem_filter.mpr ⟨List.mem_append_right _ (List.mem_of_getElem? (i := 621) (by decide +kernel)), by decide +kernel⟩
theorem kw_622 : (Jvm.Cond.selects "ProofDesk$Lexer" ({ cls := "ProofDesk$Lexer", name := "advance", desc := "()V" } : Jvm.MethodName) ({ cls := "ProofDesk$Lexer", name := "advance", desc := "()V" } : Jvm.MethodName)) ∈ zw := List.mem_filter.mpr ⟨List.mem_append_right _ (List.mem_of_getElem? (i := 622) (by decide +kernel)), by decide +kernel⟩
theorem d_Parser_readDeclaration_64 : decode b_Parser_readDeclaration 64 = .ok (.aload_n 0, 1) := by decide +kernel
theorem d_Parser_readDeclaration_65 : decode b_Parser_readDeclaration 65 = .ok (.aload_n 0, 1) := by decide +kernel
theorem d_Parser_readDeclaration_66 : decode b_Parser_readDeclaration 66 = .ok (.getfield 29, 3) := by decide +kernel
theorem d_Parser_readDeclaration_69 : decode b_Parser_readDeclaration 69 = .ok (.getfield 78, 3) := by decide +kernel
theorem kw_266 : (Jvm.Cond.fieldLinkNest "ProofDesk$Parser" (78 : Nat) "ProofDesk$Lexer" "token" "I" "ProofDesk") ∈ zn := List.mem_filter.mpr ⟨List.mem_append_right _ (List.mem_of_getElem? (i := 266) (by decide +kernel)), by decide +kernel⟩
theorem d_Parser_readDeclaration_72 : decode b_Parser_readDeclaration 72 = .ok (.putfield 81, 3) := by decide +kernel
theorem kw_315 : (Jvm.Cond.fieldLink "ProofDesk$Parser" (81 : Nat) "ProofDesk$Parser" "word" "I") ∈ zw := List.mem_filter.mpr ⟨List.mem_append_right _ (List.mem_of_getElem? (i := 315) (by decide +kernel)), by decide +kernel⟩
theorem d_Parser_readDeclaration_75 : decode b_Parser_readDeclaration 75 = .ok (.aload_n 0, 1) := by decide +kernel
theorem d_Parser_readDeclaration_76 : decode b_Parser_readDeclaration 76 = .ok (.aload_n 0, 1) := by decide +kernel
theorem d_Parser_readDeclaration_77 : decode b_Parser_readDeclaration 77 = .ok (.getfield 29, 3) := by decide +kernel
theorem d_Parser_readDeclaration_80 : decode b_Parser_readDeclaration 80 = .ok (.getfield 84, 3) := by decide +kernel
theorem kw_268 : (Jvm.Cond.fieldLinkNest "ProofDesk$Parser" (84 : Nat) "ProofDesk$Lexer" "start" "I" "ProofDesk") ∈ zn := List.mem_filter.mpr ⟨List.mem_append_right _ (List.mem_of_getElem? (i := 268) (by decide +kernel)), by decide +kernel⟩
theorem d_Parser_readDeclaration_83 : decode b_Parser_readDeclaration 83 = .ok (.putfield 87, 3) := by decide +kernel
theorem kw_318 : (Jvm.Cond.fieldLink "ProofDesk$Parser" (87 : Nat) "ProofDesk$Parser" "start" "I") ∈ zw := List.mem_filter.mpr ⟨List.mem_append_right _ (List.mem_of_getElem? (i := 318) (by decide +kernel)), by decide +kernel⟩
theorem d_Parser_readDeclaration_86 : decode b_Parser_readDeclaration 86 = .ok (.aload_n 0, 1) := by decide +kernel
theorem d_Parser_readDeclaration_87 : decode b_Parser_readDeclaration 87 = .ok (.iconst (-1), 1) := by decide +kernel
theorem d_Parser_readDeclaration_88 : decode b_Parser_readDeclaration 88 = .ok (.putfield 88, 3) := by decide +kernel
theorem kw_319 : (Jvm.Cond.fieldLink "ProofDesk$Parser" (88 : Nat) "ProofDesk$Parser" "name" "I") ∈ zw := List.mem_filter.mpr ⟨List.mem_append_right _ (List.mem_of_getElem? (i := 319) (by decide +kernel)), by decide +kernel⟩
theorem d_Parser_readDeclaration_91 : decode b_Parser_readDeclaration 91 = .ok (.aload_n 0, 1) := by decide +kernel
theorem d_Parser_readDeclaration_92 : decode b_Parser_readDeclaration 92 = .ok (.iconst (-1), 1) := by decide +kernel
theorem d_Parser_readDeclaration_93 : decode b_Parser_readDeclaration 93 = .ok (.putfield 91, 3) := by decide +kernel
theorem kw_323 : (Jvm.Cond.fieldLink "ProofDesk$Parser" (91 : Nat) "ProofDesk$Parser" "told" "I") ∈ zw := List.mem_filter.mpr ⟨List.mem_append_right _ (List.mem_of_getElem? (i := 323) (by decide +kernel)), by decide +kernel⟩
theorem d_Parser_readDeclaration_96 : decode b_Parser_readDeclaration 96 = .ok (.aload_n 0, 1) := by decide +kernel
theorem d_Parser_readDeclaration_97 : decode b_Parser_readDeclaration 97 = .ok (.iconst (-1), 1) := by decide +kernel
theorem d_Parser_readDeclaration_98 : decode b_Parser_readDeclaration 98 = .ok (.putfield 94, 3) := by decide +kernel
theorem kw_325 : (Jvm.Cond.fieldLink "ProofDesk$Parser" (94 : Nat) "ProofDesk$Parser" "value" "I") ∈ zw := List.mem_filter.mpr ⟨List.mem_append_right _ (List.mem_of_getElem? (i := 325) (by decide +kernel)), by decide +kernel⟩
theorem d_Parser_readDeclaration_101 : decode b_Parser_readDeclaration 101 = .ok (.aload_n 0, 1) := by decide +kernel
theorem d_Parser_readDeclaration_102 : decode b_Parser_readDeclaration 102 = .ok (.getfield 81, 3) := by decide +kernel
theorem d_Parser_readDeclaration_105 : decode b_Parser_readDeclaration 105 = .ok (.ifCond .ne 5, 3) := by decide +kernel
theorem d_Parser_readDeclaration_108 : decode b_Parser_readDeclaration 108 = .ok (.iconst 0, 1) := by decide +kernel
theorem d_Parser_readDeclaration_109 : decode b_Parser_readDeclaration 109 = .ok (.ireturn, 1) := by decide +kernel
set_option maxHeartbeats 4000000 in
set_option maxRecDepth 100000 in
theorem c_Parser_readDeclaration_0 (l : Launch) (D : va_G) (cI cB cZ cS : ClassId) (sz : Nat) (ps : Nat) (le : Nat) (fr : Nat) (wa : Nat) (bo : Nat) (co : Nat) (nm : Nat) (lx : Nat) (ps_2 : Value) (ps_3 : Value) (ps_7 : Value) (ps_8 : Value) (ps_9 : Value) (ps_10 : Value) (ps_11 : Value) (ps_12 : Value) (ps_13 : Value) (ps_14 : Value) (ps_15 : Value) (ps_17 : Value) (ps_18 : Value) (le_0 : Value) (le_1 : Value) (le_2 : Value) (le_3 : Value) (le_4 : Value) (le_5 : Value) (fr_0 : Value) (fr_1 : Value) (fr_2 : Value) (wa_0 : Value) (wa_1 : Value) (wa_2 : Value) (bo_0 : Value) (bo_1 : Value) (bo_2 : Value) (co_0 : Value) (co_1 : Value) (co_2 : Value) (se : Int32) (nm_0 : Value) (nm_1 : Value) (nm_2 : Value) (nm_3 : Value) (nm_4 : Value) (lx_0 : Value) (lx_1 : Value) (lx_4 : Value) (lx_5 : Value) (lx_6 : Value) (lx_7 : Value) : Met l y_Parser_readDeclaration (zc y_Parser_readDeclaration b_Parser_readDeclaration 2 (some .boolean)) ({ frames := 2, cells := 0, slots := 0, locals := 44 }) (zPc D (zty cI cB cZ cS) [(ps, .inr (6, [.ref lx, .ref nm, ps_2, ps_3, .ref le, .ref fr, .ref wa, ps_7, ps_8, ps_9, ps_10, ps_11, ps_12, ps_13, ps_14, ps_15, .ref bo, ps_17, ps_18, .ref co])), (le, .inr (1, [le_0, le_1, le_2, le_3, le_4, le_5])), (fr, .inr (0, [fr_0, fr_1, fr_2])), (wa, .inr (0, [wa_0, wa_1, wa_2])), (bo, .inr (0, [bo_0, bo_1, bo_2])), (co, .inr (0, [co_0, co_1, co_2])), (nm, .inr (2, [nm_0, nm_1, nm_2, nm_3, nm_4, .int se])), (lx, .inr (3, [lx_0, lx_1, .int 0, .int 0, lx_4, lx_5, lx_6, lx_7]))] sz [.ref ps]) (va_Qi (fun (r : Int32) (_ : Unit) => r = 0) (fun _ t => va_P D zcl [(ps, .inr (6, [.ref lx, .ref nm, ps_2, ps_3, .ref le, .ref fr, .ref wa, .int 17, .int 1, ps_9, ps_10, ps_11, ps_12, .int 0, .int 0, .int (-1), .ref bo, .int (-1), .int (-1), .ref co])), (le, .inr (1, [le_0, le_1, .int 0, .int 0, .int 0, .int 0])), (fr, .inr (0, [fr_0, fr_1, .int 0])), (wa, .inr (0, [wa_0, wa_1, .int 0])), (bo, .inr (0, [bo_0, bo_1, .int 0])), (co, .inr (0, [co_0, co_1, .int 0])), (nm, .inr (2, [nm_0, nm_1, nm_2, nm_3, nm_4, .int (se + 1)])), (lx, .inr (3, [lx_0, lx_1, .int 0, .int 0, .int 0, .int 0, lx_6, lx_7]))] t.heap ∧ va_D (va_A [(ps, .inr (6, [.ref lx, .ref nm, ps_2, ps_3, .ref le, .ref fr, .ref wa, ps_7, ps_8, ps_9, ps_10, ps_11, ps_12, ps_13, ps_14, ps_15, .ref bo, ps_17, ps_18, .ref co])), (le, .inr (1, [le_0, le_1, le_2, le_3, le_4, le_5])), (fr, .inr (0, [fr_0, fr_1, fr_2])), (wa, .inr (0, [wa_0, wa_1, wa_2])), (bo, .inr (0, [bo_0, bo_1, bo_2])), (co, .inr (0, [co_0, co_1, co_2])), (nm, .inr (2, [nm_0, nm_1, nm_2, nm_3, nm_4, .int se])), (lx, .inr (3, [lx_0, lx_1, .int 0, .int 0, lx_4, lx_5, lx_6, lx_7]))] sz) [(ps, .inr (6, [.ref lx, .ref nm, ps_2, ps_3, .ref le, .ref fr, .ref wa, .int 17, .int 1, ps_9, ps_10, ps_11, ps_12, .int 0, .int 0, .int (-1), .ref bo, .int (-1), .int (-1), .ref co])), (le, .inr (1, [le_0, le_1, .int 0, .int 0, .int 0, .int 0])), (fr, .inr (0, [fr_0, fr_1, .int 0])), (wa, .inr (0, [wa_0, wa_1, .int 0])), (bo, .inr (0, [bo_0, bo_1, .int 0])), (co, .inr (0, [co_0, co_1, .int 0])), (nm, .inr (2, [nm_0, nm_1, nm_2, nm_3, nm_4, .int (se + 1)])), (lx, .inr (3, [lx_0, lx_1, .int 0, .int 0, .int 0, .int 0, lx_6, lx_7]))]) (va_A [(ps, .inr (6, [.ref lx, .ref nm, ps_2, ps_3, .ref le, .ref fr, .ref wa, ps_7, ps_8, ps_9, ps_10, ps_11, ps_12, ps_13, ps_14, ps_15, .ref bo, ps_17, ps_18, .ref co])), (le, .inr (1, [le_0, le_1, le_2, le_3, le_4, le_5])), (fr, .inr (0, [fr_0, fr_1, fr_2])), (wa, .inr (0, [wa_0, wa_1, wa_2])), (bo, .inr (0, [bo_0, bo_1, bo_2])), (co, .inr (0, [co_0, co_1, co_2])), (nm, .inr (2, [nm_0, nm_1, nm_2, nm_3, nm_4, .int se])), (lx, .inr (3, [lx_0, lx_1, .int 0, .int 0, lx_4, lx_5, lx_6, lx_7]))] sz)) 0 0 (va_A [(ps, .inr (6, [.ref lx, .ref nm, ps_2, ps_3, .ref le, .ref fr, .ref wa, ps_7, ps_8, ps_9, ps_10, ps_11, ps_12, ps_13, ps_14, ps_15, .ref bo, ps_17, ps_18, .ref co])), (le, .inr (1, [le_0, le_1, le_2, le_3, le_4, le_5])), (fr, .inr (0, [fr_0, fr_1, fr_2])), (wa, .inr (0, [wa_0, wa_1, wa_2])), (bo, .inr (0, [bo_0, bo_1, bo_2])), (co, .inr (0, [co_0, co_1, co_2])), (nm, .inr (2, [nm_0, nm_1, nm_2, nm_3, nm_4, .int se])), (lx, .inr (3, [lx_0, lx_1, .int 0, .int 0, lx_4, lx_5, lx_6, lx_7]))] sz) := by
  refine Met.ofW (cc := b_Parser_readDeclaration) (maxL := 2) (ret := (some .boolean)) (by decide) rfl ?_
  intro p e s m args below meth c s₁ B hml hv
  obtain ⟨rfl, hsz, hP, ⟨hK, hN⟩, hD0⟩ := hv
  have hx := B.exec
  have hb := B.bytes
  have hr := B.returns
  have hts0 := atoms_spec (ws := zc y_Parser_readDeclaration b_Parser_readDeclaration 2 (some .boolean)) B.pre
  have hts : ∀ w ∈ zw, w.before _ s = true := fun w hw => hts0 w (List.mem_cons_of_mem _ hw)
  have hown : s.vm.findClass "ProofDesk$Parser" = some m.cls := findClass_of_methodNamed B.named
  have hlocks := B.notSynchronized
  subst hsz
  have hD := hD0.self (sz := s.heap.size)
  generalize hAe : va_A [(ps, .inr (6, [.ref lx, .ref nm, ps_2, ps_3, .ref le, .ref fr, .ref wa, ps_7, ps_8, ps_9, ps_10, ps_11, ps_12, ps_13, ps_14, ps_15, .ref bo, ps_17, ps_18, .ref co])), (le, .inr (1, [le_0, le_1, le_2, le_3, le_4, le_5])), (fr, .inr (0, [fr_0, fr_1, fr_2])), (wa, .inr (0, [wa_0, wa_1, wa_2])), (bo, .inr (0, [bo_0, bo_1, bo_2])), (co, .inr (0, [co_0, co_1, co_2])), (nm, .inr (2, [nm_0, nm_1, nm_2, nm_3, nm_4, .int se])), (lx, .inr (3, [lx_0, lx_1, .int 0, .int 0, lx_4, lx_5, lx_6, lx_7]))] s.heap.size = A at hD ⊢
  have hA : ∀ q : Nat, s.heap.size ≤ q → A q := fun q h => by rw [← hAe]; exact Or.inr h
  have hS : va_S A s.heap s.heap [] := va_S.rf
  have hP : va_P D zcl [(ps, .inr (6, [.ref lx, .ref nm, ps_2, ps_3, .ref le, .ref fr, .ref wa, ps_7, ps_8, ps_9, ps_10, ps_11, ps_12, ps_13, ps_14, ps_15, .ref bo, ps_17, ps_18, .ref co])), (le, .inr (1, [le_0, le_1, le_2, le_3, le_4, le_5])), (fr, .inr (0, [fr_0, fr_1, fr_2])), (wa, .inr (0, [wa_0, wa_1, wa_2])), (bo, .inr (0, [bo_0, bo_1, bo_2])), (co, .inr (0, [co_0, co_1, co_2])), (nm, .inr (2, [nm_0, nm_1, nm_2, nm_3, nm_4, .int se])), (lx, .inr (3, [lx_0, lx_1, .int 0, .int 0, lx_4, lx_5, lx_6, lx_7]))] s.heap := hP
  have hl := lv_entry ([.ref ps]) (n := 2) (Nat.le_of_ble_eq_true rfl)
  rw [lg_entry_eq]
  generalize (lg_sl ([.ref ps]) ++ List.replicate (2 - (lg_sl ([.ref ps])).length) Slot.unset).toArray = ls at hl ⊢
  have hl : lv_has ls 2 [(0, .ref ps)] := hl
  refine lv_aload_n hx hb d_Parser_readDeclaration_0 rfl (lv_at hl 0 rfl) ?_
  refine va_get (D := D) (ci := 6) (v := .ref le) (C := "ProofDesk$Parser") (T := F_Parser) (N := 20) hx hb hts in_Parser hown hK hP 0 rfl rfl 4 (by decide) (hts _ kw_306) (fun _ h9 => h9) rfl d_Parser_readDeclaration_1 ?_
  have hPc := hP.sub (ws' := [(le, .inr (1, [le_0, le_1, le_2, le_3, le_4, le_5]))]) [1] rfl
  have hDc := hD.sub (ws' := [(le, .inr (1, [le_0, le_1, le_2, le_3, le_4, le_5]))]) [1] (by decide +kernel) rfl
  have hFc := va_free (wc := [(le, .inr (1, [le_0, le_1, le_2, le_3, le_4, le_5]))]) hD hS hA [1] rfl
  have hkc : 0 + 0 ≤ 0 := by omega
  have hks : 0 + 0 ≤ 0 := by omega
  refine va_callv (va_runV (As := []) (rest := []) ⟨hx, hb, hml, hown, hts⟩ (c_Ledger_open l D cI cB cZ cS s.heap.size le le_0 le_1 le_2 le_3 le_4 le_5) (⟨callB_of 0 hts (zgood kw_615) rfl rfl rfl (hts _ kw_2) (hts _ kw_612) (by decide +kernel) ⟨Nat.le_of_ble_eq_true rfl, Nat.le_of_ble_eq_true rfl⟩, hts _ kw_613, hts _ kw_614⟩) (zPreV hPc hK hN hDc (va_recv (q := ("ProofDesk$Ledger", F_Ledger, 6)) hK hP rfl (q0 := 1) rfl)) rfl rfl hl.1 rfl (lv_room (Nat.le_of_ble_eq_true rfl)) d_Parser_readDeclaration_4 ⟨hkc, hks⟩) hS (fun q _ h => hFc q h) hFc (fun u t H1 locs ht hvm hw hB hz1 hk1 hS => ?_)
  obtain ⟨hP1, hD1⟩ := hB
  rw [ht] at hP1
  obtain ⟨hP, hD⟩ := va_join (wr := [(ps, .inr (6, [.ref lx, .ref nm, ps_2, ps_3, .ref le, .ref fr, .ref wa, ps_7, ps_8, ps_9, ps_10, ps_11, ps_12, ps_13, ps_14, ps_15, .ref bo, ps_17, ps_18, .ref co])), (fr, .inr (0, [fr_0, fr_1, fr_2])), (wa, .inr (0, [wa_0, wa_1, wa_2])), (bo, .inr (0, [bo_0, bo_1, bo_2])), (co, .inr (0, [co_0, co_1, co_2])), (nm, .inr (2, [nm_0, nm_1, nm_2, nm_3, nm_4, .int se])), (lx, .inr (3, [lx_0, lx_1, .int 0, .int 0, lx_4, lx_5, lx_6, lx_7]))]) (w1 := [(le, .inr (1, [le_0, le_1, .int 0, .int 0, .int 0, .int 0]))]) hP hD [1] [0, 2, 3, 4, 5, 6, 7] rfl rfl (by decide +kernel) (by decide +kernel) hk1 hFc hP1 hD1
  generalize H1 = H at hP hS ⊢
  have hP : va_P D zcl [(ps, .inr (6, [.ref lx, .ref nm, ps_2, ps_3, .ref le, .ref fr, .ref wa, ps_7, ps_8, ps_9, ps_10, ps_11, ps_12, ps_13, ps_14, ps_15, .ref bo, ps_17, ps_18, .ref co])), (fr, .inr (0, [fr_0, fr_1, fr_2])), (wa, .inr (0, [wa_0, wa_1, wa_2])), (bo, .inr (0, [bo_0, bo_1, bo_2])), (co, .inr (0, [co_0, co_1, co_2])), (nm, .inr (2, [nm_0, nm_1, nm_2, nm_3, nm_4, .int se])), (lx, .inr (3, [lx_0, lx_1, .int 0, .int 0, lx_4, lx_5, lx_6, lx_7])), (le, .inr (1, [le_0, le_1, .int 0, .int 0, .int 0, .int 0]))] H := hP
  have hD : va_D A [(ps, .inr (6, [.ref lx, .ref nm, ps_2, ps_3, .ref le, .ref fr, .ref wa, ps_7, ps_8, ps_9, ps_10, ps_11, ps_12, ps_13, ps_14, ps_15, .ref bo, ps_17, ps_18, .ref co])), (fr, .inr (0, [fr_0, fr_1, fr_2])), (wa, .inr (0, [wa_0, wa_1, wa_2])), (bo, .inr (0, [bo_0, bo_1, bo_2])), (co, .inr (0, [co_0, co_1, co_2])), (nm, .inr (2, [nm_0, nm_1, nm_2, nm_3, nm_4, .int se])), (lx, .inr (3, [lx_0, lx_1, .int 0, .int 0, lx_4, lx_5, lx_6, lx_7])), (le, .inr (1, [le_0, le_1, .int 0, .int 0, .int 0, .int 0]))] := hD
  refine W.widen (k := 0) (n := 0) (by omega) (by omega) ?_
  refine lv_aload_n hx hb d_Parser_readDeclaration_7 rfl (lv_at hl 0 rfl) ?_
  refine va_get (D := D) (ci := 6) (v := .ref fr) (C := "ProofDesk$Parser") (T := F_Parser) (N := 20) hx hb hts in_Parser hown hK hP 0 rfl rfl 5 (by decide) (hts _ kw_307) (fun _ h9 => h9) rfl d_Parser_readDeclaration_8 ?_
  refine lv_iconst (v := 0) hx hb d_Parser_readDeclaration_11 (by decide) ?_
  refine va_putN (D := D) (ci := 0) (v := .int 0) (ty := .int) (C := "ProofDesk$Pile") (T := F_Pile) (N := 3) hx hb hts in_Pile t_Pile t_Pile_ok n_Pile hown hK hP hD hS 1 rfl rfl 2 (by decide) (va_Nw.use rfl (hN _ kw_52)) (fun _ h9 => h9) rfl (by decide +kernel) rfl rfl (Nat.le_of_ble_eq_true rfl) d_Parser_readDeclaration_12 (fun H locs hP hD hS => ?_)
  have hP : va_P D zcl [(ps, .inr (6, [.ref lx, .ref nm, ps_2, ps_3, .ref le, .ref fr, .ref wa, ps_7, ps_8, ps_9, ps_10, ps_11, ps_12, ps_13, ps_14, ps_15, .ref bo, ps_17, ps_18, .ref co])), (fr, .inr (0, [fr_0, fr_1, .int 0])), (wa, .inr (0, [wa_0, wa_1, wa_2])), (bo, .inr (0, [bo_0, bo_1, bo_2])), (co, .inr (0, [co_0, co_1, co_2])), (nm, .inr (2, [nm_0, nm_1, nm_2, nm_3, nm_4, .int se])), (lx, .inr (3, [lx_0, lx_1, .int 0, .int 0, lx_4, lx_5, lx_6, lx_7])), (le, .inr (1, [le_0, le_1, .int 0, .int 0, .int 0, .int 0]))] H := hP
  have hD : va_D A [(ps, .inr (6, [.ref lx, .ref nm, ps_2, ps_3, .ref le, .ref fr, .ref wa, ps_7, ps_8, ps_9, ps_10, ps_11, ps_12, ps_13, ps_14, ps_15, .ref bo, ps_17, ps_18, .ref co])), (fr, .inr (0, [fr_0, fr_1, .int 0])), (wa, .inr (0, [wa_0, wa_1, wa_2])), (bo, .inr (0, [bo_0, bo_1, bo_2])), (co, .inr (0, [co_0, co_1, co_2])), (nm, .inr (2, [nm_0, nm_1, nm_2, nm_3, nm_4, .int se])), (lx, .inr (3, [lx_0, lx_1, .int 0, .int 0, lx_4, lx_5, lx_6, lx_7])), (le, .inr (1, [le_0, le_1, .int 0, .int 0, .int 0, .int 0]))] := hD
  refine lv_aload_n hx hb d_Parser_readDeclaration_15 rfl (lv_at hl 0 rfl) ?_
  refine va_get (D := D) (ci := 6) (v := .ref wa) (C := "ProofDesk$Parser") (T := F_Parser) (N := 20) hx hb hts in_Parser hown hK hP 0 rfl rfl 6 (by decide) (hts _ kw_308) (fun _ h9 => h9) rfl d_Parser_readDeclaration_16 ?_
  refine lv_iconst (v := 0) hx hb d_Parser_readDeclaration_19 (by decide) ?_
  refine va_putN (D := D) (ci := 0) (v := .int 0) (ty := .int) (C := "ProofDesk$Pile") (T := F_Pile) (N := 3) hx hb hts in_Pile t_Pile t_Pile_ok n_Pile hown hK hP hD hS 2 rfl rfl 2 (by decide) (va_Nw.use rfl (hN _ kw_52)) (fun _ h9 => h9) rfl (by decide +kernel) rfl rfl (Nat.le_of_ble_eq_true rfl) d_Parser_readDeclaration_20 (fun H locs hP hD hS => ?_)
  have hP : va_P D zcl [(ps, .inr (6, [.ref lx, .ref nm, ps_2, ps_3, .ref le, .ref fr, .ref wa, ps_7, ps_8, ps_9, ps_10, ps_11, ps_12, ps_13, ps_14, ps_15, .ref bo, ps_17, ps_18, .ref co])), (fr, .inr (0, [fr_0, fr_1, .int 0])), (wa, .inr (0, [wa_0, wa_1, .int 0])), (bo, .inr (0, [bo_0, bo_1, bo_2])), (co, .inr (0, [co_0, co_1, co_2])), (nm, .inr (2, [nm_0, nm_1, nm_2, nm_3, nm_4, .int se])), (lx, .inr (3, [lx_0, lx_1, .int 0, .int 0, lx_4, lx_5, lx_6, lx_7])), (le, .inr (1, [le_0, le_1, .int 0, .int 0, .int 0, .int 0]))] H := hP
  have hD : va_D A [(ps, .inr (6, [.ref lx, .ref nm, ps_2, ps_3, .ref le, .ref fr, .ref wa, ps_7, ps_8, ps_9, ps_10, ps_11, ps_12, ps_13, ps_14, ps_15, .ref bo, ps_17, ps_18, .ref co])), (fr, .inr (0, [fr_0, fr_1, .int 0])), (wa, .inr (0, [wa_0, wa_1, .int 0])), (bo, .inr (0, [bo_0, bo_1, bo_2])), (co, .inr (0, [co_0, co_1, co_2])), (nm, .inr (2, [nm_0, nm_1, nm_2, nm_3, nm_4, .int se])), (lx, .inr (3, [lx_0, lx_1, .int 0, .int 0, lx_4, lx_5, lx_6, lx_7])), (le, .inr (1, [le_0, le_1, .int 0, .int 0, .int 0, .int 0]))] := hD
  refine lv_aload_n hx hb d_Parser_readDeclaration_23 rfl (lv_at hl 0 rfl) ?_
  refine va_get (D := D) (ci := 6) (v := .ref bo) (C := "ProofDesk$Parser") (T := F_Parser) (N := 20) hx hb hts in_Parser hown hK hP 0 rfl rfl 16 (by decide) (hts _ kw_321) (fun _ h9 => h9) rfl d_Parser_readDeclaration_24 ?_
  refine lv_iconst (v := 0) hx hb d_Parser_readDeclaration_27 (by decide) ?_
  refine va_putN (D := D) (ci := 0) (v := .int 0) (ty := .int) (C := "ProofDesk$Pile") (T := F_Pile) (N := 3) hx hb hts in_Pile t_Pile t_Pile_ok n_Pile hown hK hP hD hS 3 rfl rfl 2 (by decide) (va_Nw.use rfl (hN _ kw_52)) (fun _ h9 => h9) rfl (by decide +kernel) rfl rfl (Nat.le_of_ble_eq_true rfl) d_Parser_readDeclaration_28 (fun H locs hP hD hS => ?_)
  have hP : va_P D zcl [(ps, .inr (6, [.ref lx, .ref nm, ps_2, ps_3, .ref le, .ref fr, .ref wa, ps_7, ps_8, ps_9, ps_10, ps_11, ps_12, ps_13, ps_14, ps_15, .ref bo, ps_17, ps_18, .ref co])), (fr, .inr (0, [fr_0, fr_1, .int 0])), (wa, .inr (0, [wa_0, wa_1, .int 0])), (bo, .inr (0, [bo_0, bo_1, .int 0])), (co, .inr (0, [co_0, co_1, co_2])), (nm, .inr (2, [nm_0, nm_1, nm_2, nm_3, nm_4, .int se])), (lx, .inr (3, [lx_0, lx_1, .int 0, .int 0, lx_4, lx_5, lx_6, lx_7])), (le, .inr (1, [le_0, le_1, .int 0, .int 0, .int 0, .int 0]))] H := hP
  have hD : va_D A [(ps, .inr (6, [.ref lx, .ref nm, ps_2, ps_3, .ref le, .ref fr, .ref wa, ps_7, ps_8, ps_9, ps_10, ps_11, ps_12, ps_13, ps_14, ps_15, .ref bo, ps_17, ps_18, .ref co])), (fr, .inr (0, [fr_0, fr_1, .int 0])), (wa, .inr (0, [wa_0, wa_1, .int 0])), (bo, .inr (0, [bo_0, bo_1, .int 0])), (co, .inr (0, [co_0, co_1, co_2])), (nm, .inr (2, [nm_0, nm_1, nm_2, nm_3, nm_4, .int se])), (lx, .inr (3, [lx_0, lx_1, .int 0, .int 0, lx_4, lx_5, lx_6, lx_7])), (le, .inr (1, [le_0, le_1, .int 0, .int 0, .int 0, .int 0]))] := hD
  refine lv_aload_n hx hb d_Parser_readDeclaration_31 rfl (lv_at hl 0 rfl) ?_
  refine va_get (D := D) (ci := 6) (v := .ref co) (C := "ProofDesk$Parser") (T := F_Parser) (N := 20) hx hb hts in_Parser hown hK hP 0 rfl rfl 19 (by decide) (hts _ kw_327) (fun _ h9 => h9) rfl d_Parser_readDeclaration_32 ?_
  refine lv_iconst (v := 0) hx hb d_Parser_readDeclaration_35 (by decide) ?_
  refine va_putN (D := D) (ci := 0) (v := .int 0) (ty := .int) (C := "ProofDesk$Pile") (T := F_Pile) (N := 3) hx hb hts in_Pile t_Pile t_Pile_ok n_Pile hown hK hP hD hS 4 rfl rfl 2 (by decide) (va_Nw.use rfl (hN _ kw_52)) (fun _ h9 => h9) rfl (by decide +kernel) rfl rfl (Nat.le_of_ble_eq_true rfl) d_Parser_readDeclaration_36 (fun H locs hP hD hS => ?_)
  have hP : va_P D zcl [(ps, .inr (6, [.ref lx, .ref nm, ps_2, ps_3, .ref le, .ref fr, .ref wa, ps_7, ps_8, ps_9, ps_10, ps_11, ps_12, ps_13, ps_14, ps_15, .ref bo, ps_17, ps_18, .ref co])), (fr, .inr (0, [fr_0, fr_1, .int 0])), (wa, .inr (0, [wa_0, wa_1, .int 0])), (bo, .inr (0, [bo_0, bo_1, .int 0])), (co, .inr (0, [co_0, co_1, .int 0])), (nm, .inr (2, [nm_0, nm_1, nm_2, nm_3, nm_4, .int se])), (lx, .inr (3, [lx_0, lx_1, .int 0, .int 0, lx_4, lx_5, lx_6, lx_7])), (le, .inr (1, [le_0, le_1, .int 0, .int 0, .int 0, .int 0]))] H := hP
  have hD : va_D A [(ps, .inr (6, [.ref lx, .ref nm, ps_2, ps_3, .ref le, .ref fr, .ref wa, ps_7, ps_8, ps_9, ps_10, ps_11, ps_12, ps_13, ps_14, ps_15, .ref bo, ps_17, ps_18, .ref co])), (fr, .inr (0, [fr_0, fr_1, .int 0])), (wa, .inr (0, [wa_0, wa_1, .int 0])), (bo, .inr (0, [bo_0, bo_1, .int 0])), (co, .inr (0, [co_0, co_1, .int 0])), (nm, .inr (2, [nm_0, nm_1, nm_2, nm_3, nm_4, .int se])), (lx, .inr (3, [lx_0, lx_1, .int 0, .int 0, lx_4, lx_5, lx_6, lx_7])), (le, .inr (1, [le_0, le_1, .int 0, .int 0, .int 0, .int 0]))] := hD
  refine lv_aload_n hx hb d_Parser_readDeclaration_39 rfl (lv_at hl 0 rfl) ?_
  refine lv_iconst (v := 1) hx hb d_Parser_readDeclaration_40 (by decide) ?_
  refine va_put (D := D) (ci := 6) (v := .int 1) (ty := .int) (C := "ProofDesk$Parser") (T := F_Parser) (N := 20) hx hb hts in_Parser t_Parser t_Parser_ok n_Parser hown hK hP hD hS 0 rfl rfl 8 (by decide) (hts _ kw_310) (fun _ h9 => h9) rfl (by decide +kernel) rfl rfl (Nat.le_of_ble_eq_true rfl) d_Parser_readDeclaration_41 (fun H locs hP hD hS => ?_)
  have hP : va_P D zcl [(ps, .inr (6, [.ref lx, .ref nm, ps_2, ps_3, .ref le, .ref fr, .ref wa, ps_7, .int 1, ps_9, ps_10, ps_11, ps_12, ps_13, ps_14, ps_15, .ref bo, ps_17, ps_18, .ref co])), (fr, .inr (0, [fr_0, fr_1, .int 0])), (wa, .inr (0, [wa_0, wa_1, .int 0])), (bo, .inr (0, [bo_0, bo_1, .int 0])), (co, .inr (0, [co_0, co_1, .int 0])), (nm, .inr (2, [nm_0, nm_1, nm_2, nm_3, nm_4, .int se])), (lx, .inr (3, [lx_0, lx_1, .int 0, .int 0, lx_4, lx_5, lx_6, lx_7])), (le, .inr (1, [le_0, le_1, .int 0, .int 0, .int 0, .int 0]))] H := hP
  have hD : va_D A [(ps, .inr (6, [.ref lx, .ref nm, ps_2, ps_3, .ref le, .ref fr, .ref wa, ps_7, .int 1, ps_9, ps_10, ps_11, ps_12, ps_13, ps_14, ps_15, .ref bo, ps_17, ps_18, .ref co])), (fr, .inr (0, [fr_0, fr_1, .int 0])), (wa, .inr (0, [wa_0, wa_1, .int 0])), (bo, .inr (0, [bo_0, bo_1, .int 0])), (co, .inr (0, [co_0, co_1, .int 0])), (nm, .inr (2, [nm_0, nm_1, nm_2, nm_3, nm_4, .int se])), (lx, .inr (3, [lx_0, lx_1, .int 0, .int 0, lx_4, lx_5, lx_6, lx_7])), (le, .inr (1, [le_0, le_1, .int 0, .int 0, .int 0, .int 0]))] := hD
  refine lv_aload_n hx hb d_Parser_readDeclaration_44 rfl (lv_at hl 0 rfl) ?_
  refine va_get (D := D) (ci := 6) (v := .ref nm) (C := "ProofDesk$Parser") (T := F_Parser) (N := 20) hx hb hts in_Parser hown hK hP 0 rfl rfl 1 (by decide) (hts _ kw_300) (fun _ h9 => h9) rfl d_Parser_readDeclaration_45 ?_
  have hPc := hP.sub (ws' := [(nm, .inr (2, [nm_0, nm_1, nm_2, nm_3, nm_4, .int se]))]) [5] rfl
  have hDc := hD.sub (ws' := [(nm, .inr (2, [nm_0, nm_1, nm_2, nm_3, nm_4, .int se]))]) [5] (by decide +kernel) rfl
  have hFc := va_free (wc := [(nm, .inr (2, [nm_0, nm_1, nm_2, nm_3, nm_4, .int se]))]) hD hS hA [5] rfl
  have hkc : 0 + 0 ≤ 0 := by omega
  have hks : 0 + 0 ≤ 0 := by omega
  refine va_callv (va_runV (As := []) (rest := []) ⟨hx, hb, hml, hown, hts⟩ (c_Names_openDeclaration l D cI cB cZ cS H.size nm se nm_0 nm_1 nm_2 nm_3 nm_4) (⟨callB_of 0 hts (zgood kw_619) rfl rfl rfl (hts _ kw_4) (hts _ kw_616) (by decide +kernel) ⟨Nat.le_of_ble_eq_true rfl, Nat.le_of_ble_eq_true rfl⟩, hts _ kw_617, hts _ kw_618⟩) (zPreV hPc hK hN hDc (va_recv (q := ("ProofDesk$Names", F_Names, 6)) hK hP rfl (q0 := 5) rfl)) rfl rfl hl.1 rfl (lv_room (Nat.le_of_ble_eq_true rfl)) d_Parser_readDeclaration_48 ⟨hkc, hks⟩) hS (fun q _ h => hFc q h) hFc (fun u t H1 locs ht hvm hw hB hz1 hk1 hS => ?_)
  obtain ⟨hP1, hD1⟩ := hB
  rw [ht] at hP1
  obtain ⟨hP, hD⟩ := va_join (wr := [(ps, .inr (6, [.ref lx, .ref nm, ps_2, ps_3, .ref le, .ref fr, .ref wa, ps_7, .int 1, ps_9, ps_10, ps_11, ps_12, ps_13, ps_14, ps_15, .ref bo, ps_17, ps_18, .ref co])), (fr, .inr (0, [fr_0, fr_1, .int 0])), (wa, .inr (0, [wa_0, wa_1, .int 0])), (bo, .inr (0, [bo_0, bo_1, .int 0])), (co, .inr (0, [co_0, co_1, .int 0])), (lx, .inr (3, [lx_0, lx_1, .int 0, .int 0, lx_4, lx_5, lx_6, lx_7])), (le, .inr (1, [le_0, le_1, .int 0, .int 0, .int 0, .int 0]))]) (w1 := [(nm, .inr (2, [nm_0, nm_1, nm_2, nm_3, nm_4, .int (se + 1)]))]) hP hD [5] [0, 1, 2, 3, 4, 6, 7] rfl rfl (by decide +kernel) (by decide +kernel) hk1 hFc hP1 hD1
  generalize H1 = H at hP hS ⊢
  have hP : va_P D zcl [(ps, .inr (6, [.ref lx, .ref nm, ps_2, ps_3, .ref le, .ref fr, .ref wa, ps_7, .int 1, ps_9, ps_10, ps_11, ps_12, ps_13, ps_14, ps_15, .ref bo, ps_17, ps_18, .ref co])), (fr, .inr (0, [fr_0, fr_1, .int 0])), (wa, .inr (0, [wa_0, wa_1, .int 0])), (bo, .inr (0, [bo_0, bo_1, .int 0])), (co, .inr (0, [co_0, co_1, .int 0])), (lx, .inr (3, [lx_0, lx_1, .int 0, .int 0, lx_4, lx_5, lx_6, lx_7])), (le, .inr (1, [le_0, le_1, .int 0, .int 0, .int 0, .int 0])), (nm, .inr (2, [nm_0, nm_1, nm_2, nm_3, nm_4, .int (se + 1)]))] H := hP
  have hD : va_D A [(ps, .inr (6, [.ref lx, .ref nm, ps_2, ps_3, .ref le, .ref fr, .ref wa, ps_7, .int 1, ps_9, ps_10, ps_11, ps_12, ps_13, ps_14, ps_15, .ref bo, ps_17, ps_18, .ref co])), (fr, .inr (0, [fr_0, fr_1, .int 0])), (wa, .inr (0, [wa_0, wa_1, .int 0])), (bo, .inr (0, [bo_0, bo_1, .int 0])), (co, .inr (0, [co_0, co_1, .int 0])), (lx, .inr (3, [lx_0, lx_1, .int 0, .int 0, lx_4, lx_5, lx_6, lx_7])), (le, .inr (1, [le_0, le_1, .int 0, .int 0, .int 0, .int 0])), (nm, .inr (2, [nm_0, nm_1, nm_2, nm_3, nm_4, .int (se + 1)]))] := hD
  refine W.widen (k := 0) (n := 0) (by omega) (by omega) ?_
  refine lv_aload_n hx hb d_Parser_readDeclaration_51 rfl (lv_at hl 0 rfl) ?_
  refine lv_bipush (v := 17) hx hb d_Parser_readDeclaration_52 (by decide) ?_
  refine va_put (D := D) (ci := 6) (v := .int 17) (ty := .int) (C := "ProofDesk$Parser") (T := F_Parser) (N := 20) hx hb hts in_Parser t_Parser t_Parser_ok n_Parser hown hK hP hD hS 0 rfl rfl 7 (by decide) (hts _ kw_309) (fun _ h9 => h9) rfl (by decide +kernel) rfl rfl (Nat.le_of_ble_eq_true rfl) d_Parser_readDeclaration_54 (fun H locs hP hD hS => ?_)
  have hP : va_P D zcl [(ps, .inr (6, [.ref lx, .ref nm, ps_2, ps_3, .ref le, .ref fr, .ref wa, .int 17, .int 1, ps_9, ps_10, ps_11, ps_12, ps_13, ps_14, ps_15, .ref bo, ps_17, ps_18, .ref co])), (fr, .inr (0, [fr_0, fr_1, .int 0])), (wa, .inr (0, [wa_0, wa_1, .int 0])), (bo, .inr (0, [bo_0, bo_1, .int 0])), (co, .inr (0, [co_0, co_1, .int 0])), (lx, .inr (3, [lx_0, lx_1, .int 0, .int 0, lx_4, lx_5, lx_6, lx_7])), (le, .inr (1, [le_0, le_1, .int 0, .int 0, .int 0, .int 0])), (nm, .inr (2, [nm_0, nm_1, nm_2, nm_3, nm_4, .int (se + 1)]))] H := hP
  have hD : va_D A [(ps, .inr (6, [.ref lx, .ref nm, ps_2, ps_3, .ref le, .ref fr, .ref wa, .int 17, .int 1, ps_9, ps_10, ps_11, ps_12, ps_13, ps_14, ps_15, .ref bo, ps_17, ps_18, .ref co])), (fr, .inr (0, [fr_0, fr_1, .int 0])), (wa, .inr (0, [wa_0, wa_1, .int 0])), (bo, .inr (0, [bo_0, bo_1, .int 0])), (co, .inr (0, [co_0, co_1, .int 0])), (lx, .inr (3, [lx_0, lx_1, .int 0, .int 0, lx_4, lx_5, lx_6, lx_7])), (le, .inr (1, [le_0, le_1, .int 0, .int 0, .int 0, .int 0])), (nm, .inr (2, [nm_0, nm_1, nm_2, nm_3, nm_4, .int (se + 1)]))] := hD
  refine lv_aload_n hx hb d_Parser_readDeclaration_57 rfl (lv_at hl 0 rfl) ?_
  refine va_get (D := D) (ci := 6) (v := .ref lx) (C := "ProofDesk$Parser") (T := F_Parser) (N := 20) hx hb hts in_Parser hown hK hP 0 rfl rfl 0 (by decide) (hts _ kw_299) (fun _ h9 => h9) rfl d_Parser_readDeclaration_58 ?_
  have hPc := hP.sub (ws' := [(lx, .inr (3, [lx_0, lx_1, .int 0, .int 0, lx_4, lx_5, lx_6, lx_7]))]) [5] rfl
  have hDc := hD.sub (ws' := [(lx, .inr (3, [lx_0, lx_1, .int 0, .int 0, lx_4, lx_5, lx_6, lx_7]))]) [5] (by decide +kernel) rfl
  have hFc := va_free (wc := [(lx, .inr (3, [lx_0, lx_1, .int 0, .int 0, lx_4, lx_5, lx_6, lx_7]))]) hD hS hA [5] rfl
  have hkc : 0 + 0 ≤ 0 := by omega
  have hks : 0 + 0 ≤ 0 := by omega
  refine va_callv (va_runV (As := []) (rest := []) ⟨hx, hb, hml, hown, hts⟩ (c_Lexer_advance_0 l D cI cB cZ cS H.size lx lx_0 lx_1 lx_4 lx_5 lx_6 lx_7) (⟨callB_of 0 hts (zgood kw_623) rfl rfl rfl (hts _ kw_10) (hts _ kw_620) (by decide +kernel) ⟨Nat.le_of_ble_eq_true rfl, Nat.le_of_ble_eq_true rfl⟩, hts _ kw_621, hts _ kw_622⟩) (zPreV hPc hK hN hDc (va_recv (q := ("ProofDesk$Lexer", F_Lexer, 8)) hK hP rfl (q0 := 5) rfl)) rfl rfl hl.1 rfl (lv_room (Nat.le_of_ble_eq_true rfl)) d_Parser_readDeclaration_61 ⟨hkc, hks⟩) hS (fun q _ h => hFc q h) hFc (fun u t H1 locs ht hvm hw hB hz1 hk1 hS => ?_)
  obtain ⟨hP1, hD1⟩ := hB
  rw [ht] at hP1
  obtain ⟨hP, hD⟩ := va_join (wr := [(ps, .inr (6, [.ref lx, .ref nm, ps_2, ps_3, .ref le, .ref fr, .ref wa, .int 17, .int 1, ps_9, ps_10, ps_11, ps_12, ps_13, ps_14, ps_15, .ref bo, ps_17, ps_18, .ref co])), (fr, .inr (0, [fr_0, fr_1, .int 0])), (wa, .inr (0, [wa_0, wa_1, .int 0])), (bo, .inr (0, [bo_0, bo_1, .int 0])), (co, .inr (0, [co_0, co_1, .int 0])), (le, .inr (1, [le_0, le_1, .int 0, .int 0, .int 0, .int 0])), (nm, .inr (2, [nm_0, nm_1, nm_2, nm_3, nm_4, .int (se + 1)]))]) (w1 := [(lx, .inr (3, [lx_0, lx_1, .int 0, .int 0, .int 0, .int 0, lx_6, lx_7]))]) hP hD [5] [0, 1, 2, 3, 4, 6, 7] rfl rfl (by decide +kernel) (by decide +kernel) hk1 hFc hP1 hD1
  generalize H1 = H at hP hS ⊢
  have hP : va_P D zcl [(ps, .inr (6, [.ref lx, .ref nm, ps_2, ps_3, .ref le, .ref fr, .ref wa, .int 17, .int 1, ps_9, ps_10, ps_11, ps_12, ps_13, ps_14, ps_15, .ref bo, ps_17, ps_18, .ref co])), (fr, .inr (0, [fr_0, fr_1, .int 0])), (wa, .inr (0, [wa_0, wa_1, .int 0])), (bo, .inr (0, [bo_0, bo_1, .int 0])), (co, .inr (0, [co_0, co_1, .int 0])), (le, .inr (1, [le_0, le_1, .int 0, .int 0, .int 0, .int 0])), (nm, .inr (2, [nm_0, nm_1, nm_2, nm_3, nm_4, .int (se + 1)])), (lx, .inr (3, [lx_0, lx_1, .int 0, .int 0, .int 0, .int 0, lx_6, lx_7]))] H := hP
  have hD : va_D A [(ps, .inr (6, [.ref lx, .ref nm, ps_2, ps_3, .ref le, .ref fr, .ref wa, .int 17, .int 1, ps_9, ps_10, ps_11, ps_12, ps_13, ps_14, ps_15, .ref bo, ps_17, ps_18, .ref co])), (fr, .inr (0, [fr_0, fr_1, .int 0])), (wa, .inr (0, [wa_0, wa_1, .int 0])), (bo, .inr (0, [bo_0, bo_1, .int 0])), (co, .inr (0, [co_0, co_1, .int 0])), (le, .inr (1, [le_0, le_1, .int 0, .int 0, .int 0, .int 0])), (nm, .inr (2, [nm_0, nm_1, nm_2, nm_3, nm_4, .int (se + 1)])), (lx, .inr (3, [lx_0, lx_1, .int 0, .int 0, .int 0, .int 0, lx_6, lx_7]))] := hD
  refine W.widen (k := 0) (n := 0) (by omega) (by omega) ?_
  refine lv_aload_n hx hb d_Parser_readDeclaration_64 rfl (lv_at hl 0 rfl) ?_
  refine lv_aload_n hx hb d_Parser_readDeclaration_65 rfl (lv_at hl 0 rfl) ?_
  refine va_get (D := D) (ci := 6) (v := .ref lx) (C := "ProofDesk$Parser") (T := F_Parser) (N := 20) hx hb hts in_Parser hown hK hP 0 rfl rfl 0 (by decide) (hts _ kw_299) (fun _ h9 => h9) rfl d_Parser_readDeclaration_66 ?_
  refine va_getN (D := D) (ci := 3) (v := .int 0) (C := "ProofDesk$Lexer") (T := F_Lexer) (N := 8) hx hb hts in_Lexer hown hK hP 7 rfl rfl 4 (by decide) (va_Nw.use rfl (hN _ kw_266)) (fun _ h9 => h9) rfl d_Parser_readDeclaration_69 ?_
  refine va_put (D := D) (ci := 6) (v := .int 0) (ty := .int) (C := "ProofDesk$Parser") (T := F_Parser) (N := 20) hx hb hts in_Parser t_Parser t_Parser_ok n_Parser hown hK hP hD hS 0 rfl rfl 13 (by decide) (hts _ kw_315) (fun _ h9 => h9) rfl (by decide +kernel) rfl rfl (Nat.le_of_ble_eq_true rfl) d_Parser_readDeclaration_72 (fun H locs hP hD hS => ?_)
  have hP : va_P D zcl [(ps, .inr (6, [.ref lx, .ref nm, ps_2, ps_3, .ref le, .ref fr, .ref wa, .int 17, .int 1, ps_9, ps_10, ps_11, ps_12, .int 0, ps_14, ps_15, .ref bo, ps_17, ps_18, .ref co])), (fr, .inr (0, [fr_0, fr_1, .int 0])), (wa, .inr (0, [wa_0, wa_1, .int 0])), (bo, .inr (0, [bo_0, bo_1, .int 0])), (co, .inr (0, [co_0, co_1, .int 0])), (le, .inr (1, [le_0, le_1, .int 0, .int 0, .int 0, .int 0])), (nm, .inr (2, [nm_0, nm_1, nm_2, nm_3, nm_4, .int (se + 1)])), (lx, .inr (3, [lx_0, lx_1, .int 0, .int 0, .int 0, .int 0, lx_6, lx_7]))] H := hP
  have hD : va_D A [(ps, .inr (6, [.ref lx, .ref nm, ps_2, ps_3, .ref le, .ref fr, .ref wa, .int 17, .int 1, ps_9, ps_10, ps_11, ps_12, .int 0, ps_14, ps_15, .ref bo, ps_17, ps_18, .ref co])), (fr, .inr (0, [fr_0, fr_1, .int 0])), (wa, .inr (0, [wa_0, wa_1, .int 0])), (bo, .inr (0, [bo_0, bo_1, .int 0])), (co, .inr (0, [co_0, co_1, .int 0])), (le, .inr (1, [le_0, le_1, .int 0, .int 0, .int 0, .int 0])), (nm, .inr (2, [nm_0, nm_1, nm_2, nm_3, nm_4, .int (se + 1)])), (lx, .inr (3, [lx_0, lx_1, .int 0, .int 0, .int 0, .int 0, lx_6, lx_7]))] := hD
  refine lv_aload_n hx hb d_Parser_readDeclaration_75 rfl (lv_at hl 0 rfl) ?_
  refine lv_aload_n hx hb d_Parser_readDeclaration_76 rfl (lv_at hl 0 rfl) ?_
  refine va_get (D := D) (ci := 6) (v := .ref lx) (C := "ProofDesk$Parser") (T := F_Parser) (N := 20) hx hb hts in_Parser hown hK hP 0 rfl rfl 0 (by decide) (hts _ kw_299) (fun _ h9 => h9) rfl d_Parser_readDeclaration_77 ?_
  refine va_getN (D := D) (ci := 3) (v := .int 0) (C := "ProofDesk$Lexer") (T := F_Lexer) (N := 8) hx hb hts in_Lexer hown hK hP 7 rfl rfl 5 (by decide) (va_Nw.use rfl (hN _ kw_268)) (fun _ h9 => h9) rfl d_Parser_readDeclaration_80 ?_
  refine va_put (D := D) (ci := 6) (v := .int 0) (ty := .int) (C := "ProofDesk$Parser") (T := F_Parser) (N := 20) hx hb hts in_Parser t_Parser t_Parser_ok n_Parser hown hK hP hD hS 0 rfl rfl 14 (by decide) (hts _ kw_318) (fun _ h9 => h9) rfl (by decide +kernel) rfl rfl (Nat.le_of_ble_eq_true rfl) d_Parser_readDeclaration_83 (fun H locs hP hD hS => ?_)
  have hP : va_P D zcl [(ps, .inr (6, [.ref lx, .ref nm, ps_2, ps_3, .ref le, .ref fr, .ref wa, .int 17, .int 1, ps_9, ps_10, ps_11, ps_12, .int 0, .int 0, ps_15, .ref bo, ps_17, ps_18, .ref co])), (fr, .inr (0, [fr_0, fr_1, .int 0])), (wa, .inr (0, [wa_0, wa_1, .int 0])), (bo, .inr (0, [bo_0, bo_1, .int 0])), (co, .inr (0, [co_0, co_1, .int 0])), (le, .inr (1, [le_0, le_1, .int 0, .int 0, .int 0, .int 0])), (nm, .inr (2, [nm_0, nm_1, nm_2, nm_3, nm_4, .int (se + 1)])), (lx, .inr (3, [lx_0, lx_1, .int 0, .int 0, .int 0, .int 0, lx_6, lx_7]))] H := hP
  have hD : va_D A [(ps, .inr (6, [.ref lx, .ref nm, ps_2, ps_3, .ref le, .ref fr, .ref wa, .int 17, .int 1, ps_9, ps_10, ps_11, ps_12, .int 0, .int 0, ps_15, .ref bo, ps_17, ps_18, .ref co])), (fr, .inr (0, [fr_0, fr_1, .int 0])), (wa, .inr (0, [wa_0, wa_1, .int 0])), (bo, .inr (0, [bo_0, bo_1, .int 0])), (co, .inr (0, [co_0, co_1, .int 0])), (le, .inr (1, [le_0, le_1, .int 0, .int 0, .int 0, .int 0])), (nm, .inr (2, [nm_0, nm_1, nm_2, nm_3, nm_4, .int (se + 1)])), (lx, .inr (3, [lx_0, lx_1, .int 0, .int 0, .int 0, .int 0, lx_6, lx_7]))] := hD
  refine lv_aload_n hx hb d_Parser_readDeclaration_86 rfl (lv_at hl 0 rfl) ?_
  refine lv_iconst (v := (-1)) hx hb d_Parser_readDeclaration_87 (by decide) ?_
  refine va_put (D := D) (ci := 6) (v := .int (-1)) (ty := .int) (C := "ProofDesk$Parser") (T := F_Parser) (N := 20) hx hb hts in_Parser t_Parser t_Parser_ok n_Parser hown hK hP hD hS 0 rfl rfl 15 (by decide) (hts _ kw_319) (fun _ h9 => h9) rfl (by decide +kernel) rfl rfl (Nat.le_of_ble_eq_true rfl) d_Parser_readDeclaration_88 (fun H locs hP hD hS => ?_)
  have hP : va_P D zcl [(ps, .inr (6, [.ref lx, .ref nm, ps_2, ps_3, .ref le, .ref fr, .ref wa, .int 17, .int 1, ps_9, ps_10, ps_11, ps_12, .int 0, .int 0, .int (-1), .ref bo, ps_17, ps_18, .ref co])), (fr, .inr (0, [fr_0, fr_1, .int 0])), (wa, .inr (0, [wa_0, wa_1, .int 0])), (bo, .inr (0, [bo_0, bo_1, .int 0])), (co, .inr (0, [co_0, co_1, .int 0])), (le, .inr (1, [le_0, le_1, .int 0, .int 0, .int 0, .int 0])), (nm, .inr (2, [nm_0, nm_1, nm_2, nm_3, nm_4, .int (se + 1)])), (lx, .inr (3, [lx_0, lx_1, .int 0, .int 0, .int 0, .int 0, lx_6, lx_7]))] H := hP
  have hD : va_D A [(ps, .inr (6, [.ref lx, .ref nm, ps_2, ps_3, .ref le, .ref fr, .ref wa, .int 17, .int 1, ps_9, ps_10, ps_11, ps_12, .int 0, .int 0, .int (-1), .ref bo, ps_17, ps_18, .ref co])), (fr, .inr (0, [fr_0, fr_1, .int 0])), (wa, .inr (0, [wa_0, wa_1, .int 0])), (bo, .inr (0, [bo_0, bo_1, .int 0])), (co, .inr (0, [co_0, co_1, .int 0])), (le, .inr (1, [le_0, le_1, .int 0, .int 0, .int 0, .int 0])), (nm, .inr (2, [nm_0, nm_1, nm_2, nm_3, nm_4, .int (se + 1)])), (lx, .inr (3, [lx_0, lx_1, .int 0, .int 0, .int 0, .int 0, lx_6, lx_7]))] := hD
  refine lv_aload_n hx hb d_Parser_readDeclaration_91 rfl (lv_at hl 0 rfl) ?_
  refine lv_iconst (v := (-1)) hx hb d_Parser_readDeclaration_92 (by decide) ?_
  refine va_put (D := D) (ci := 6) (v := .int (-1)) (ty := .int) (C := "ProofDesk$Parser") (T := F_Parser) (N := 20) hx hb hts in_Parser t_Parser t_Parser_ok n_Parser hown hK hP hD hS 0 rfl rfl 17 (by decide) (hts _ kw_323) (fun _ h9 => h9) rfl (by decide +kernel) rfl rfl (Nat.le_of_ble_eq_true rfl) d_Parser_readDeclaration_93 (fun H locs hP hD hS => ?_)
  have hP : va_P D zcl [(ps, .inr (6, [.ref lx, .ref nm, ps_2, ps_3, .ref le, .ref fr, .ref wa, .int 17, .int 1, ps_9, ps_10, ps_11, ps_12, .int 0, .int 0, .int (-1), .ref bo, .int (-1), ps_18, .ref co])), (fr, .inr (0, [fr_0, fr_1, .int 0])), (wa, .inr (0, [wa_0, wa_1, .int 0])), (bo, .inr (0, [bo_0, bo_1, .int 0])), (co, .inr (0, [co_0, co_1, .int 0])), (le, .inr (1, [le_0, le_1, .int 0, .int 0, .int 0, .int 0])), (nm, .inr (2, [nm_0, nm_1, nm_2, nm_3, nm_4, .int (se + 1)])), (lx, .inr (3, [lx_0, lx_1, .int 0, .int 0, .int 0, .int 0, lx_6, lx_7]))] H := hP
  have hD : va_D A [(ps, .inr (6, [.ref lx, .ref nm, ps_2, ps_3, .ref le, .ref fr, .ref wa, .int 17, .int 1, ps_9, ps_10, ps_11, ps_12, .int 0, .int 0, .int (-1), .ref bo, .int (-1), ps_18, .ref co])), (fr, .inr (0, [fr_0, fr_1, .int 0])), (wa, .inr (0, [wa_0, wa_1, .int 0])), (bo, .inr (0, [bo_0, bo_1, .int 0])), (co, .inr (0, [co_0, co_1, .int 0])), (le, .inr (1, [le_0, le_1, .int 0, .int 0, .int 0, .int 0])), (nm, .inr (2, [nm_0, nm_1, nm_2, nm_3, nm_4, .int (se + 1)])), (lx, .inr (3, [lx_0, lx_1, .int 0, .int 0, .int 0, .int 0, lx_6, lx_7]))] := hD
  refine lv_aload_n hx hb d_Parser_readDeclaration_96 rfl (lv_at hl 0 rfl) ?_
  refine lv_iconst (v := (-1)) hx hb d_Parser_readDeclaration_97 (by decide) ?_
  refine va_put (D := D) (ci := 6) (v := .int (-1)) (ty := .int) (C := "ProofDesk$Parser") (T := F_Parser) (N := 20) hx hb hts in_Parser t_Parser t_Parser_ok n_Parser hown hK hP hD hS 0 rfl rfl 18 (by decide) (hts _ kw_325) (fun _ h9 => h9) rfl (by decide +kernel) rfl rfl (Nat.le_of_ble_eq_true rfl) d_Parser_readDeclaration_98 (fun H locs hP hD hS => ?_)
  have hP : va_P D zcl [(ps, .inr (6, [.ref lx, .ref nm, ps_2, ps_3, .ref le, .ref fr, .ref wa, .int 17, .int 1, ps_9, ps_10, ps_11, ps_12, .int 0, .int 0, .int (-1), .ref bo, .int (-1), .int (-1), .ref co])), (fr, .inr (0, [fr_0, fr_1, .int 0])), (wa, .inr (0, [wa_0, wa_1, .int 0])), (bo, .inr (0, [bo_0, bo_1, .int 0])), (co, .inr (0, [co_0, co_1, .int 0])), (le, .inr (1, [le_0, le_1, .int 0, .int 0, .int 0, .int 0])), (nm, .inr (2, [nm_0, nm_1, nm_2, nm_3, nm_4, .int (se + 1)])), (lx, .inr (3, [lx_0, lx_1, .int 0, .int 0, .int 0, .int 0, lx_6, lx_7]))] H := hP
  have hD : va_D A [(ps, .inr (6, [.ref lx, .ref nm, ps_2, ps_3, .ref le, .ref fr, .ref wa, .int 17, .int 1, ps_9, ps_10, ps_11, ps_12, .int 0, .int 0, .int (-1), .ref bo, .int (-1), .int (-1), .ref co])), (fr, .inr (0, [fr_0, fr_1, .int 0])), (wa, .inr (0, [wa_0, wa_1, .int 0])), (bo, .inr (0, [bo_0, bo_1, .int 0])), (co, .inr (0, [co_0, co_1, .int 0])), (le, .inr (1, [le_0, le_1, .int 0, .int 0, .int 0, .int 0])), (nm, .inr (2, [nm_0, nm_1, nm_2, nm_3, nm_4, .int (se + 1)])), (lx, .inr (3, [lx_0, lx_1, .int 0, .int 0, .int 0, .int 0, lx_6, lx_7]))] := hD
  refine lv_aload_n hx hb d_Parser_readDeclaration_101 rfl (lv_at hl 0 rfl) ?_
  refine va_get (D := D) (ci := 6) (v := .int 0) (C := "ProofDesk$Parser") (T := F_Parser) (N := 20) hx hb hts in_Parser hown hK hP 0 rfl rfl 13 (by decide) (hts _ kw_315) (fun _ h9 => h9) rfl d_Parser_readDeclaration_102 ?_
  have hc_1 : (0 : Int32) = 0 := by decide +kernel
  refine lv_if_ne hx hb d_Parser_readDeclaration_105 rfl (fun h => absurd hc_1 h) (fun _ => ?_)
  refine lv_iconst (v := 0) hx hb d_Parser_readDeclaration_108 (by decide) ?_
  have hP9 := hP.sub (ws' := [(ps, .inr (6, [.ref lx, .ref nm, ps_2, ps_3, .ref le, .ref fr, .ref wa, .int 17, .int 1, ps_9, ps_10, ps_11, ps_12, .int 0, .int 0, .int (-1), .ref bo, .int (-1), .int (-1), .ref co])), (le, .inr (1, [le_0, le_1, .int 0, .int 0, .int 0, .int 0])), (fr, .inr (0, [fr_0, fr_1, .int 0])), (wa, .inr (0, [wa_0, wa_1, .int 0])), (bo, .inr (0, [bo_0, bo_1, .int 0])), (co, .inr (0, [co_0, co_1, .int 0])), (nm, .inr (2, [nm_0, nm_1, nm_2, nm_3, nm_4, .int (se + 1)])), (lx, .inr (3, [lx_0, lx_1, .int 0, .int 0, .int 0, .int 0, lx_6, lx_7]))]) [0, 5, 1, 2, 3, 4, 6, 7] rfl
  have hD9 := hD.sub (ws' := [(ps, .inr (6, [.ref lx, .ref nm, ps_2, ps_3, .ref le, .ref fr, .ref wa, .int 17, .int 1, ps_9, ps_10, ps_11, ps_12, .int 0, .int 0, .int (-1), .ref bo, .int (-1), .int (-1), .ref co])), (le, .inr (1, [le_0, le_1, .int 0, .int 0, .int 0, .int 0])), (fr, .inr (0, [fr_0, fr_1, .int 0])), (wa, .inr (0, [wa_0, wa_1, .int 0])), (bo, .inr (0, [bo_0, bo_1, .int 0])), (co, .inr (0, [co_0, co_1, .int 0])), (nm, .inr (2, [nm_0, nm_1, nm_2, nm_3, nm_4, .int (se + 1)])), (lx, .inr (3, [lx_0, lx_1, .int 0, .int 0, .int 0, .int 0, lx_6, lx_7]))]) [0, 5, 1, 2, 3, 4, 6, 7] (by decide +kernel) rfl
  refine W.widen (k := 0) (n := 0) (by omega) (by omega) ?_
  exact W.zret (v := 0) hx hb hr rfl (fun t ht hW => ⟨⟨0, (), rfl, rfl, by rw [ht]; exact hP9, hD9⟩, hS.F ht⟩) hS.2.2 d_Parser_readDeclaration_109
abbrev b_Parser_failed : ByteArray := prog_6_method_2_code
abbrev y_Parser_failed : MethodName := ⟨"ProofDesk$Parser", "failed", "()Z"⟩
theorem d_Parser_failed_0 : decode b_Parser_failed 0 = .ok (.aload_n 0, 1) := by decide +kernel
theorem d_Parser_failed_1 : decode b_Parser_failed 1 = .ok (.getfield 55, 3) := by decide +kernel
theorem d_Parser_failed_4 : decode b_Parser_failed 4 = .ok (.bipush 18, 2) := by decide +kernel
theorem d_Parser_failed_6 : decode b_Parser_failed 6 = .ok (.if_icmp .ne 7, 3) := by decide +kernel
theorem d_Parser_failed_13 : decode b_Parser_failed 13 = .ok (.iconst 0, 1) := by decide +kernel
theorem d_Parser_failed_14 : decode b_Parser_failed 14 = .ok (.ireturn, 1) := by decide +kernel
set_option maxHeartbeats 4000000 in
set_option maxRecDepth 100000 in
theorem c_Parser_failed_no (l : Launch) (D : va_G) (cI cB cZ cS : ClassId) (sz : Nat) (ps : Nat) (ps_0 : Value) (ps_1 : Value) (ps_2 : Value) (ps_3 : Value) (ps_4 : Value) (ps_5 : Value) (ps_6 : Value) (ps_8 : Value) (ps_9 : Value) (ps_10 : Value) (ps_11 : Value) (ps_12 : Value) (ps_13 : Value) (ps_14 : Value) (ps_15 : Value) (ps_16 : Value) (ps_17 : Value) (ps_18 : Value) (ps_19 : Value) : Met l y_Parser_failed (zc y_Parser_failed b_Parser_failed 1 (some .boolean)) ({ frames := 0, cells := 0, slots := 0, locals := 0 }) (zPc D (zty cI cB cZ cS) [(ps, .inr (6, [ps_0, ps_1, ps_2, ps_3, ps_4, ps_5, ps_6, .int 17, ps_8, ps_9, ps_10, ps_11, ps_12, ps_13, ps_14, ps_15, ps_16, ps_17, ps_18, ps_19]))] sz [.ref ps]) (va_Qi (fun (r : Int32) (_ : Unit) => r = 0) (fun _ t => va_P D zcl [(ps, .inr (6, [ps_0, ps_1, ps_2, ps_3, ps_4, ps_5, ps_6, .int 17, ps_8, ps_9, ps_10, ps_11, ps_12, ps_13, ps_14, ps_15, ps_16, ps_17, ps_18, ps_19]))] t.heap ∧ va_D (va_A [(ps, .inr (6, [ps_0, ps_1, ps_2, ps_3, ps_4, ps_5, ps_6, .int 17, ps_8, ps_9, ps_10, ps_11, ps_12, ps_13, ps_14, ps_15, ps_16, ps_17, ps_18, ps_19]))] sz) [(ps, .inr (6, [ps_0, ps_1, ps_2, ps_3, ps_4, ps_5, ps_6, .int 17, ps_8, ps_9, ps_10, ps_11, ps_12, ps_13, ps_14, ps_15, ps_16, ps_17, ps_18, ps_19]))]) (va_A [(ps, .inr (6, [ps_0, ps_1, ps_2, ps_3, ps_4, ps_5, ps_6, .int 17, ps_8, ps_9, ps_10, ps_11, ps_12, ps_13, ps_14, ps_15, ps_16, ps_17, ps_18, ps_19]))] sz)) 0 0 (va_A [(ps, .inr (6, [ps_0, ps_1, ps_2, ps_3, ps_4, ps_5, ps_6, .int 17, ps_8, ps_9, ps_10, ps_11, ps_12, ps_13, ps_14, ps_15, ps_16, ps_17, ps_18, ps_19]))] sz) := by
  refine Met.ofW (cc := b_Parser_failed) (maxL := 1) (ret := (some .boolean)) (by decide) rfl ?_
  intro p e s m args below meth c s₁ B hml hv
  obtain ⟨rfl, hsz, hP, ⟨hK, hN⟩, hD0⟩ := hv
  have hx := B.exec
  have hb := B.bytes
  have hr := B.returns
  have hts0 := atoms_spec (ws := zc y_Parser_failed b_Parser_failed 1 (some .boolean)) B.pre
  have hts : ∀ w ∈ zw, w.before _ s = true := fun w hw => hts0 w (List.mem_cons_of_mem _ hw)
  have hown : s.vm.findClass "ProofDesk$Parser" = some m.cls := findClass_of_methodNamed B.named
  have hlocks := B.notSynchronized
  subst hsz
  have hD := hD0.self (sz := s.heap.size)
  generalize hAe : va_A [(ps, .inr (6, [ps_0, ps_1, ps_2, ps_3, ps_4, ps_5, ps_6, .int 17, ps_8, ps_9, ps_10, ps_11, ps_12, ps_13, ps_14, ps_15, ps_16, ps_17, ps_18, ps_19]))] s.heap.size = A at hD ⊢
  have hA : ∀ q : Nat, s.heap.size ≤ q → A q := fun q h => by rw [← hAe]; exact Or.inr h
  have hS : va_S A s.heap s.heap [] := va_S.rf
  have hP : va_P D zcl [(ps, .inr (6, [ps_0, ps_1, ps_2, ps_3, ps_4, ps_5, ps_6, .int 17, ps_8, ps_9, ps_10, ps_11, ps_12, ps_13, ps_14, ps_15, ps_16, ps_17, ps_18, ps_19]))] s.heap := hP
  have hl := lv_entry ([.ref ps]) (n := 1) (Nat.le_of_ble_eq_true rfl)
  rw [lg_entry_eq]
  generalize (lg_sl ([.ref ps]) ++ List.replicate (1 - (lg_sl ([.ref ps])).length) Slot.unset).toArray = ls at hl ⊢
  have hl : lv_has ls 1 [(0, .ref ps)] := hl
  refine lv_aload_n hx hb d_Parser_failed_0 rfl (lv_at hl 0 rfl) ?_
  refine va_get (D := D) (ci := 6) (v := .int 17) (C := "ProofDesk$Parser") (T := F_Parser) (N := 20) hx hb hts in_Parser hown hK hP 0 rfl rfl 7 (by decide) (hts _ kw_309) (fun _ h9 => h9) rfl d_Parser_failed_1 ?_
  refine lv_bipush (v := 18) hx hb d_Parser_failed_4 (by decide) ?_
  have hc_1 : ¬ (17 : Int32) = 18 := by decide +kernel
  refine lv_icmp_ne hx hb d_Parser_failed_6 rfl (fun _ => ?_) (fun h => absurd h hc_1)
  refine lv_iconst (v := 0) hx hb d_Parser_failed_13 (by decide) ?_
  have hP9 := hP.sub (ws' := [(ps, .inr (6, [ps_0, ps_1, ps_2, ps_3, ps_4, ps_5, ps_6, .int 17, ps_8, ps_9, ps_10, ps_11, ps_12, ps_13, ps_14, ps_15, ps_16, ps_17, ps_18, ps_19]))]) [0] rfl
  have hD9 := hD.sub (ws' := [(ps, .inr (6, [ps_0, ps_1, ps_2, ps_3, ps_4, ps_5, ps_6, .int 17, ps_8, ps_9, ps_10, ps_11, ps_12, ps_13, ps_14, ps_15, ps_16, ps_17, ps_18, ps_19]))]) [0] (by decide +kernel) rfl
  refine W.widen (k := 0) (n := 0) (by omega) (by omega) ?_
  exact W.zret (v := 0) hx hb hr rfl (fun t ht hW => ⟨⟨0, (), rfl, rfl, by rw [ht]; exact hP9, hD9⟩, hS.F ht⟩) hS.2.2 d_Parser_failed_14
theorem d_ProofDesk_end_12 : decode b_ProofDesk_end 12 = .ok (.iload_n 1, 1) := by decide +kernel
theorem d_ProofDesk_end_13 : decode b_ProofDesk_end 13 = .ok (.sipush 16384, 3) := by decide +kernel
theorem d_ProofDesk_end_16 : decode b_ProofDesk_end 16 = .ok (.if_icmp .le 5, 3) := by decide +kernel
theorem d_ProofDesk_end_21 : decode b_ProofDesk_end 21 = .ok (.aload_n 0, 1) := by decide +kernel
theorem d_ProofDesk_end_22 : decode b_ProofDesk_end 22 = .ok (.iconst 0, 1) := by decide +kernel
theorem d_ProofDesk_end_23 : decode b_ProofDesk_end 23 = .ok (.putfield 83, 3) := by decide +kernel
theorem d_ProofDesk_end_26 : decode b_ProofDesk_end 26 = .ok (.aload_n 0, 1) := by decide +kernel
theorem d_ProofDesk_end_27 : decode b_ProofDesk_end 27 = .ok (.getfield 10, 3) := by decide +kernel
theorem d_ProofDesk_end_30 : decode b_ProofDesk_end 30 = .ok (.invokevirtual 103, 3) := by decide +kernel
set_option maxRecDepth 100000 in
theorem kw_603 : (Jvm.Cond.code ({ cls := "ProofDesk$Ledger", name := "clear", desc := "()V" } : Jvm.MethodName) prog_3_method_2_code (1 : Nat) (Option.none : Option Jvm.ClassFile.FieldType)) ∈ zw := List.mem_filter.mpr ⟨List.mem_append_right _ (List.mem_of_getElem? (i := 603) rfl), by decide +kernel⟩
theorem kw_600 : (Jvm.Cond.methodLink "ProofDesk" (103 : Nat) ({ cls := "ProofDesk$Ledger", name := "clear", desc := "()V" } : Jvm.MethodName)) ∈ zw := List.mem_filter.mpr ⟨List.mem_append_right _ (List.mem_of_getElem? (i := 600) (by decide +kernel)), by decide +kernel⟩
theorem kw_601 : (Jvm.Cond.instanceMethod ({ cls := "ProofDesk$Ledger", name := "clear", desc := "()V" } : Jvm.MethodName)) ∈ zw := List.mem_filter.mpr ⟨List.mem_append_right _ (List.mem_of_getElem? (i := 601) (by decide +kernel)), by decide +kernel⟩
theorem kw_602 : (Jvm.Cond.selects "ProofDesk$Ledger" ({ cls := "ProofDesk$Ledger", name := "clear", desc := "()V" } : Jvm.MethodName) ({ cls := "ProofDesk$Ledger", name := "clear", desc := "()V" } : Jvm.MethodName)) ∈ zw := List.mem_filter.mpr ⟨List.mem_append_right _ (List.mem_of_getElem? (i := 602) (by decide +kernel)), by decide +kernel⟩
theorem d_ProofDesk_end_33 : decode b_ProofDesk_end 33 = .ok (.aload_n 0, 1) := by decide +kernel
theorem d_ProofDesk_end_34 : decode b_ProofDesk_end 34 = .ok (.getfield 40, 3) := by decide +kernel
theorem d_ProofDesk_end_37 : decode b_ProofDesk_end 37 = .ok (.aload_n 0, 1) := by decide +kernel
theorem d_ProofDesk_end_38 : decode b_ProofDesk_end 38 = .ok (.getfield 79, 3) := by decide +kernel
theorem d_ProofDesk_end_41 : decode b_ProofDesk_end 41 = .ok (.iload_n 1, 1) := by decide +kernel
theorem d_ProofDesk_end_42 : decode b_ProofDesk_end 42 = .ok (.invokevirtual 106, 3) := by decide +kernel
set_option maxRecDepth 100000 in
theorem kw_607 : (Jvm.Cond.code ({ cls := "ProofDesk$Lexer", name := "open", desc := "([BI)V" } : Jvm.MethodName) prog_4_method_2_code (3 : Nat) (Option.none : Option Jvm.ClassFile.FieldType)) ∈ zw := List.mem_filter.mpr ⟨List.mem_append_right _ (List.mem_of_getElem? (i := 607) rfl), by decide +kernel⟩
theorem kw_604 : (Jvm.Cond.methodLink "ProofDesk" (106 : Nat) ({ cls := "ProofDesk$Lexer", name := "open", desc := "([BI)V" } : Jvm.MethodName)) ∈ zw := List.mem_filter.mpr ⟨List.mem_append_right _ (List.mem_of_getElem? (i := 604) (by decide +kernel)), by decide +kernel⟩
theorem kw_605 : (Jvm.Cond.instanceMethod ({ cls := "ProofDesk$Lexer", name := "open", desc := "([BI)V" } : Jvm.MethodName)) ∈ zw := List.mem_filter.mpr ⟨List.mem_append_right _ (List.mem_of_getElem? (i := 605) (by decide +kernel)), by decide +kernel⟩
theorem kw_606 : (Jvm.Cond.selects "ProofDesk$Lexer" ({ cls := "ProofDesk$Lexer", name := "open", desc := "([BI)V" } : Jvm.MethodName) ({ cls := "ProofDesk$Lexer", name := "open", desc := "([BI)V" } : Jvm.MethodName)) ∈ zw := List.mem_filter.mpr ⟨List.mem_append_right _ (List.mem_of_getElem? (i := 606) (by decide +kernel)), by decide +kernel⟩
theorem d_ProofDesk_end_45 : decode b_ProofDesk_end 45 = .ok (.iload_n 1, 1) := by decide +kernel
theorem d_ProofDesk_end_46 : decode b_ProofDesk_end 46 = .ok (.iconst 1, 1) := by decide +kernel
theorem d_ProofDesk_end_47 : decode b_ProofDesk_end 47 = .ok (.iadd, 1) := by decide +kernel
theorem d_ProofDesk_end_48 : decode b_ProofDesk_end 48 = .ok (.istore_n 2, 1) := by decide +kernel
theorem d_ProofDesk_end_49 : decode b_ProofDesk_end 49 = .ok (.iload_n 2, 1) := by decide +kernel
theorem d_ProofDesk_end_50 : decode b_ProofDesk_end 50 = .ok (.ifCond .le 33, 3) := by decide +kernel
theorem d_ProofDesk_end_53 : decode b_ProofDesk_end 53 = .ok (.aload_n 0, 1) := by decide +kernel
theorem d_ProofDesk_end_54 : decode b_ProofDesk_end 54 = .ok (.getfield 49, 3) := by decide +kernel
theorem d_ProofDesk_end_57 : decode b_ProofDesk_end 57 = .ok (.invokevirtual 110, 3) := by decide +kernel
set_option maxRecDepth 100000 in
theorem kw_611 : (Jvm.Cond.code ({ cls := "ProofDesk$Parser", name := "readDeclaration", desc := "()Z" } : Jvm.MethodName) prog_6_method_3_code (2 : Nat) (Option.some Jvm.ClassFile.FieldType.boolean)) ∈ zw := List.mem_filter.mpr ⟨List.mem_append_right _ (List.mem_of_getElem? (i := 611) rfl), by decide +kernel⟩
theorem kw_608 : (Jvm.Cond.methodLink "ProofDesk" (110 : Nat) ({ cls := "ProofDesk$Parser", name := "readDeclaration", desc := "()Z" } : Jvm.MethodName)) ∈ zw := List.mem_filter.mpr ⟨List.mem_append_right _ (List.mem_of_getElem? (i := 608) (by decide +kernel)), by decide +kernel⟩
theorem kw_609 : (Jvm.Cond.instanceMethod ({ cls := "ProofDesk$Parser", name := "readDeclaration", desc := "()Z" } : Jvm.MethodName)) ∈ zw := List.mem_filter.mpr ⟨List.mem_append_right _ (List.mem_of_getElem? (i := 609) (by decide +kernel)), by decide +kernel⟩
theorem kw_610 : (Jvm.Cond.selects "ProofDesk$Parser" ({ cls := "ProofDesk$Parser", name := "readDeclaration", desc := "()Z" } : Jvm.MethodName) ({ cls := "ProofDesk$Parser", name := "readDeclaration", desc := "()Z" } : Jvm.MethodName)) ∈ zw := List.mem_filter.mpr ⟨List.mem_append_right _ (List.mem_of_getElem? (i := 610) (by decide +kernel)), by decide +kernel⟩
theorem d_ProofDesk_end_60 : decode b_ProofDesk_end 60 = .ok (.ifCond .eq 23, 3) := by decide +kernel
theorem d_ProofDesk_end_83 : decode b_ProofDesk_end 83 = .ok (.aload_n 0, 1) := by decide +kernel
theorem d_ProofDesk_end_84 : decode b_ProofDesk_end 84 = .ok (.getfield 49, 3) := by decide +kernel
theorem d_ProofDesk_end_87 : decode b_ProofDesk_end 87 = .ok (.invokevirtual 120, 3) := by decide +kernel
set_option maxRecDepth 100000 in
theorem kw_1625 : (Jvm.Cond.code ({ cls := "ProofDesk$Parser", name := "failed", desc := "()Z" } : Jvm.MethodName) prog_6_method_2_code (1 : Nat) (Option.some Jvm.ClassFile.FieldType.boolean)) ∈ zw := List.mem_filter.mpr ⟨List.mem_append_right _ (List.mem_of_getElem? (i := 1625) rfl), by decide +kernel⟩
theorem kw_1622 : (Jvm.Cond.methodLink "ProofDesk" (120 : Nat) ({ cls := "ProofDesk$Parser", name := "failed", desc := "()Z" } : Jvm.MethodName)) ∈ zw := List.mem_filter.mpr ⟨List.mem_append_right _ (List.mem_of_getElem? (i := 1622) (by decide +kernel)), by decide +kernel⟩
theorem kw_1623 : (Jvm.Cond.instanceMethod ({ cls := "ProofDesk$Parser", name := "failed", desc := "()Z" } : Jvm.MethodName)) ∈ zw := List.mem_filter.mpr ⟨List.mem_append_right _ (List.mem_of_getElem? (i := 1623) (by decide +kernel)), by decide +kernel⟩
theorem kw_1624 : (Jvm.Cond.selects "ProofDesk$Parser" ({ cls := "ProofDesk$Parser", name := "failed", desc := "()Z" } : Jvm.MethodName) ({ cls := "ProofDesk$Parser", name := "failed", desc := "()Z" } : Jvm.MethodName)) ∈ zw := List.mem_filter.mpr ⟨List.mem_append_right _ (List.mem_of_getElem? (i := 1624) (by decide +kernel)), by decide +kernel⟩
theorem d_ProofDesk_end_90 : decode b_ProofDesk_end 90 = .ok (.ifCond .eq 24, 3) := by decide +kernel
theorem d_ProofDesk_end_114 : decode b_ProofDesk_end 114 = .ok (.aload_n 0, 1) := by decide +kernel
theorem d_ProofDesk_end_115 : decode b_ProofDesk_end 115 = .ok (.getfield 10, 3) := by decide +kernel
theorem d_ProofDesk_end_118 : decode b_ProofDesk_end 118 = .ok (.getfield 129, 3) := by decide +kernel
theorem kw_66 : (Jvm.Cond.fieldLinkNest "ProofDesk" (129 : Nat) "ProofDesk$Ledger" "verdicts" "LProofDesk$Pile;" "ProofDesk") ∈ zn := List.mem_filter.mpr ⟨List.mem_append_right _ (List.mem_of_getElem? (i := 66) (by decide +kernel)), by decide +kernel⟩
theorem d_ProofDesk_end_121 : decode b_ProofDesk_end 121 = .ok (.getfield 133, 3) := by decide +kernel
theorem kw_53 : (Jvm.Cond.fieldLinkNest "ProofDesk" (133 : Nat) "ProofDesk$Pile" "count" "I" "ProofDesk") ∈ zn := List.mem_filter.mpr ⟨List.mem_append_right _ (List.mem_of_getElem? (i := 53) (by decide +kernel)), by decide +kernel⟩
theorem d_ProofDesk_end_124 : decode b_ProofDesk_end 124 = .ok (.ireturn, 1) := by decide +kernel
set_option maxHeartbeats 4000000 in
set_option maxRecDepth 100000 in
theorem c_end_0 (l : Launch) (D : va_G) (cI cB cZ cS : ClassId) (sz : Nat) (h0 : Nat) (le : Nat) (lx : Nat) (ps : Nat) (bs : Nat) (h0_1 : Value) (h0_2 : Value) (h0_5 : Value) (h0_6 : Value) (vd : Nat) (le_1 : Value) (le_2 : Value) (le_3 : Value) (le_4 : Value) (le_5 : Value) (vd_0 : Value) (vd_1 : Value) (vd_2 : Value) (fr : Nat) (wa : Nat) (bo : Nat) (co : Nat) (nm : Nat) (ps_2 : Value) (ps_3 : Value) (ps_7 : Value) (ps_8 : Value) (ps_9 : Value) (ps_10 : Value) (ps_11 : Value) (ps_12 : Value) (ps_13 : Value) (ps_14 : Value) (ps_15 : Value) (ps_17 : Value) (ps_18 : Value) (fr_0 : Value) (fr_1 : Value) (fr_2 : Value) (wa_0 : Value) (wa_1 : Value) (wa_2 : Value) (bo_0 : Value) (bo_1 : Value) (bo_2 : Value) (co_0 : Value) (co_1 : Value) (co_2 : Value) (se : Int32) (nm_0 : Value) (nm_1 : Value) (nm_2 : Value) (nm_3 : Value) (nm_4 : Value) (lx_1 : Value) (lx_2 : Value) (lx_3 : Value) (lx_4 : Value) (lx_5 : Value) (lx_6 : Value) (lx_7 : Value) : Met l y_ProofDesk_end (zc y_ProofDesk_end b_ProofDesk_end 3 (some .int)) ({ frames := 3, cells := 0, slots := 0, locals := 65 }) (zPc D (zty cI cB cZ cS) [(h0, .inr (11, [.ref le, h0_1, h0_2, .ref lx, .ref ps, h0_5, h0_6, .ref bs, .int 0])), (le, .inr (1, [.ref vd, le_1, le_2, le_3, le_4, le_5])), (vd, .inr (0, [vd_0, vd_1, vd_2])), (ps, .inr (6, [.ref lx, .ref nm, ps_2, ps_3, .ref le, .ref fr, .ref wa, ps_7, ps_8, ps_9, ps_10, ps_11, ps_12, ps_13, ps_14, ps_15, .ref bo, ps_17, ps_18, .ref co])), (fr, .inr (0, [fr_0, fr_1, fr_2])), (wa, .inr (0, [wa_0, wa_1, wa_2])), (bo, .inr (0, [bo_0, bo_1, bo_2])), (co, .inr (0, [co_0, co_1, co_2])), (nm, .inr (2, [nm_0, nm_1, nm_2, nm_3, nm_4, .int se])), (lx, .inr (3, [.ref nm, lx_1, lx_2, lx_3, lx_4, lx_5, lx_6, lx_7]))] sz [.ref h0, .int 0]) (va_Qi (fun (r : Int32) (_ : Unit) => r = 0) (fun _ t => va_P D zcl [(h0, .inr (11, [.ref le, h0_1, h0_2, .ref lx, .ref ps, h0_5, h0_6, .ref bs, .int 0])), (le, .inr (1, [.ref vd, le_1, .int 0, .int 0, .int 0, .int 0])), (vd, .inr (0, [vd_0, vd_1, .int 0])), (ps, .inr (6, [.ref lx, .ref nm, ps_2, ps_3, .ref le, .ref fr, .ref wa, .int 17, .int 1, ps_9, ps_10, ps_11, ps_12, .int 0, .int 0, .int (-1), .ref bo, .int (-1), .int (-1), .ref co])), (fr, .inr (0, [fr_0, fr_1, .int 0])), (wa, .inr (0, [wa_0, wa_1, .int 0])), (bo, .inr (0, [bo_0, bo_1, .int 0])), (co, .inr (0, [co_0, co_1, .int 0])), (nm, .inr (2, [nm_0, nm_1, nm_2, nm_3, nm_4, .int (se + 1)])), (lx, .inr (3, [.ref nm, .ref bs, .int 0, .int 0, .int 0, .int 0, lx_6, lx_7]))] t.heap ∧ va_D (va_A [(h0, .inr (11, [.ref le, h0_1, h0_2, .ref lx, .ref ps, h0_5, h0_6, .ref bs, .int 0])), (le, .inr (1, [.ref vd, le_1, le_2, le_3, le_4, le_5])), (vd, .inr (0, [vd_0, vd_1, vd_2])), (ps, .inr (6, [.ref lx, .ref nm, ps_2, ps_3, .ref le, .ref fr, .ref wa, ps_7, ps_8, ps_9, ps_10, ps_11, ps_12, ps_13, ps_14, ps_15, .ref bo, ps_17, ps_18, .ref co])), (fr, .inr (0, [fr_0, fr_1, fr_2])), (wa, .inr (0, [wa_0, wa_1, wa_2])), (bo, .inr (0, [bo_0, bo_1, bo_2])), (co, .inr (0, [co_0, co_1, co_2])), (nm, .inr (2, [nm_0, nm_1, nm_2, nm_3, nm_4, .int se])), (lx, .inr (3, [.ref nm, lx_1, lx_2, lx_3, lx_4, lx_5, lx_6, lx_7]))] sz) [(h0, .inr (11, [.ref le, h0_1, h0_2, .ref lx, .ref ps, h0_5, h0_6, .ref bs, .int 0])), (le, .inr (1, [.ref vd, le_1, .int 0, .int 0, .int 0, .int 0])), (vd, .inr (0, [vd_0, vd_1, .int 0])), (ps, .inr (6, [.ref lx, .ref nm, ps_2, ps_3, .ref le, .ref fr, .ref wa, .int 17, .int 1, ps_9, ps_10, ps_11, ps_12, .int 0, .int 0, .int (-1), .ref bo, .int (-1), .int (-1), .ref co])), (fr, .inr (0, [fr_0, fr_1, .int 0])), (wa, .inr (0, [wa_0, wa_1, .int 0])), (bo, .inr (0, [bo_0, bo_1, .int 0])), (co, .inr (0, [co_0, co_1, .int 0])), (nm, .inr (2, [nm_0, nm_1, nm_2, nm_3, nm_4, .int (se + 1)])), (lx, .inr (3, [.ref nm, .ref bs, .int 0, .int 0, .int 0, .int 0, lx_6, lx_7]))]) (va_A [(h0, .inr (11, [.ref le, h0_1, h0_2, .ref lx, .ref ps, h0_5, h0_6, .ref bs, .int 0])), (le, .inr (1, [.ref vd, le_1, le_2, le_3, le_4, le_5])), (vd, .inr (0, [vd_0, vd_1, vd_2])), (ps, .inr (6, [.ref lx, .ref nm, ps_2, ps_3, .ref le, .ref fr, .ref wa, ps_7, ps_8, ps_9, ps_10, ps_11, ps_12, ps_13, ps_14, ps_15, .ref bo, ps_17, ps_18, .ref co])), (fr, .inr (0, [fr_0, fr_1, fr_2])), (wa, .inr (0, [wa_0, wa_1, wa_2])), (bo, .inr (0, [bo_0, bo_1, bo_2])), (co, .inr (0, [co_0, co_1, co_2])), (nm, .inr (2, [nm_0, nm_1, nm_2, nm_3, nm_4, .int se])), (lx, .inr (3, [.ref nm, lx_1, lx_2, lx_3, lx_4, lx_5, lx_6, lx_7]))] sz)) 0 0 (va_A [(h0, .inr (11, [.ref le, h0_1, h0_2, .ref lx, .ref ps, h0_5, h0_6, .ref bs, .int 0])), (le, .inr (1, [.ref vd, le_1, le_2, le_3, le_4, le_5])), (vd, .inr (0, [vd_0, vd_1, vd_2])), (ps, .inr (6, [.ref lx, .ref nm, ps_2, ps_3, .ref le, .ref fr, .ref wa, ps_7, ps_8, ps_9, ps_10, ps_11, ps_12, ps_13, ps_14, ps_15, .ref bo, ps_17, ps_18, .ref co])), (fr, .inr (0, [fr_0, fr_1, fr_2])), (wa, .inr (0, [wa_0, wa_1, wa_2])), (bo, .inr (0, [bo_0, bo_1, bo_2])), (co, .inr (0, [co_0, co_1, co_2])), (nm, .inr (2, [nm_0, nm_1, nm_2, nm_3, nm_4, .int se])), (lx, .inr (3, [.ref nm, lx_1, lx_2, lx_3, lx_4, lx_5, lx_6, lx_7]))] sz) := by
  refine Met.ofW (cc := b_ProofDesk_end) (maxL := 3) (ret := (some .int)) (by decide) rfl ?_
  intro p e s m args below meth c s₁ B hml hv
  obtain ⟨rfl, hsz, hP, ⟨hK, hN⟩, hD0⟩ := hv
  have hx := B.exec
  have hb := B.bytes
  have hr := B.returns
  have hts0 := atoms_spec (ws := zc y_ProofDesk_end b_ProofDesk_end 3 (some .int)) B.pre
  have hts : ∀ w ∈ zw, w.before _ s = true := fun w hw => hts0 w (List.mem_cons_of_mem _ hw)
  have hown : s.vm.findClass "ProofDesk" = some m.cls := findClass_of_methodNamed B.named
  have hlocks := B.notSynchronized
  subst hsz
  have hD := hD0.self (sz := s.heap.size)
  generalize hAe : va_A [(h0, .inr (11, [.ref le, h0_1, h0_2, .ref lx, .ref ps, h0_5, h0_6, .ref bs, .int 0])), (le, .inr (1, [.ref vd, le_1, le_2, le_3, le_4, le_5])), (vd, .inr (0, [vd_0, vd_1, vd_2])), (ps, .inr (6, [.ref lx, .ref nm, ps_2, ps_3, .ref le, .ref fr, .ref wa, ps_7, ps_8, ps_9, ps_10, ps_11, ps_12, ps_13, ps_14, ps_15, .ref bo, ps_17, ps_18, .ref co])), (fr, .inr (0, [fr_0, fr_1, fr_2])), (wa, .inr (0, [wa_0, wa_1, wa_2])), (bo, .inr (0, [bo_0, bo_1, bo_2])), (co, .inr (0, [co_0, co_1, co_2])), (nm, .inr (2, [nm_0, nm_1, nm_2, nm_3, nm_4, .int se])), (lx, .inr (3, [.ref nm, lx_1, lx_2, lx_3, lx_4, lx_5, lx_6, lx_7]))] s.heap.size = A at hD ⊢
  have hA : ∀ q : Nat, s.heap.size ≤ q → A q := fun q h => by rw [← hAe]; exact Or.inr h
  have hS : va_S A s.heap s.heap [] := va_S.rf
  have hP : va_P D zcl [(h0, .inr (11, [.ref le, h0_1, h0_2, .ref lx, .ref ps, h0_5, h0_6, .ref bs, .int 0])), (le, .inr (1, [.ref vd, le_1, le_2, le_3, le_4, le_5])), (vd, .inr (0, [vd_0, vd_1, vd_2])), (ps, .inr (6, [.ref lx, .ref nm, ps_2, ps_3, .ref le, .ref fr, .ref wa, ps_7, ps_8, ps_9, ps_10, ps_11, ps_12, ps_13, ps_14, ps_15, .ref bo, ps_17, ps_18, .ref co])), (fr, .inr (0, [fr_0, fr_1, fr_2])), (wa, .inr (0, [wa_0, wa_1, wa_2])), (bo, .inr (0, [bo_0, bo_1, bo_2])), (co, .inr (0, [co_0, co_1, co_2])), (nm, .inr (2, [nm_0, nm_1, nm_2, nm_3, nm_4, .int se])), (lx, .inr (3, [.ref nm, lx_1, lx_2, lx_3, lx_4, lx_5, lx_6, lx_7]))] s.heap := hP
  have hl := lv_entry ([.ref h0, .int 0]) (n := 3) (Nat.le_of_ble_eq_true rfl)
  rw [lg_entry_eq]
  generalize (lg_sl ([.ref h0, .int 0]) ++ List.replicate (3 - (lg_sl ([.ref h0, .int 0])).length) Slot.unset).toArray = ls at hl ⊢
  have hl : lv_has ls 3 [(0, .ref h0), (1, .int 0)] := hl
  refine lv_iload_n hx hb d_ProofDesk_end_0 rfl (lv_at hl 1 rfl) ?_
  have hc_1 : ¬ (0 : Int32) < 0 := by decide +kernel
  refine lv_if_lt hx hb d_ProofDesk_end_1 rfl (fun h => absurd h hc_1) (fun _ => ?_)
  refine lv_iload_n hx hb d_ProofDesk_end_4 rfl (lv_at hl 1 rfl) ?_
  refine lv_aload_n hx hb d_ProofDesk_end_5 rfl (lv_at hl 0 rfl) ?_
  refine va_get (D := D) (ci := 11) (v := .int 0) (C := "ProofDesk") (T := F_ProofDesk) (N := 9) hx hb hts in_ProofDesk hown hK hP 0 rfl rfl 8 (by decide) (hts _ kw_566) (fun _ h9 => h9) rfl d_ProofDesk_end_6 ?_
  have hc_2 : ¬ (0 : Int32) < 0 := by decide +kernel
  refine lv_icmp_gt hx hb d_ProofDesk_end_9 rfl (fun h => absurd h hc_2) (fun _ => ?_)
  refine lv_iload_n hx hb d_ProofDesk_end_12 rfl (lv_at hl 1 rfl) ?_
  refine lv_sipush (v := 16384) hx hb d_ProofDesk_end_13 (by decide) ?_
  have hc_3 : (0 : Int32) ≤ 16384 := by decide +kernel
  refine lv_icmp_le hx hb d_ProofDesk_end_16 rfl (fun _ => ?_) (fun h => absurd hc_3 h)
  refine lv_aload_n hx hb d_ProofDesk_end_21 rfl (lv_at hl 0 rfl) ?_
  refine lv_iconst (v := 0) hx hb d_ProofDesk_end_22 (by decide) ?_
  refine va_put (D := D) (ci := 11) (v := .int 0) (ty := .int) (C := "ProofDesk") (T := F_ProofDesk) (N := 9) hx hb hts in_ProofDesk t_ProofDesk t_ProofDesk_ok n_ProofDesk hown hK hP hD hS 0 rfl rfl 8 (by decide) (hts _ kw_566) (fun _ h9 => h9) rfl (by decide +kernel) rfl rfl (Nat.le_of_ble_eq_true rfl) d_ProofDesk_end_23 (fun H locs hP hD hS => ?_)
  have hP : va_P D zcl [(h0, .inr (11, [.ref le, h0_1, h0_2, .ref lx, .ref ps, h0_5, h0_6, .ref bs, .int 0])), (le, .inr (1, [.ref vd, le_1, le_2, le_3, le_4, le_5])), (vd, .inr (0, [vd_0, vd_1, vd_2])), (ps, .inr (6, [.ref lx, .ref nm, ps_2, ps_3, .ref le, .ref fr, .ref wa, ps_7, ps_8, ps_9, ps_10, ps_11, ps_12, ps_13, ps_14, ps_15, .ref bo, ps_17, ps_18, .ref co])), (fr, .inr (0, [fr_0, fr_1, fr_2])), (wa, .inr (0, [wa_0, wa_1, wa_2])), (bo, .inr (0, [bo_0, bo_1, bo_2])), (co, .inr (0, [co_0, co_1, co_2])), (nm, .inr (2, [nm_0, nm_1, nm_2, nm_3, nm_4, .int se])), (lx, .inr (3, [.ref nm, lx_1, lx_2, lx_3, lx_4, lx_5, lx_6, lx_7]))] H := hP
  have hD : va_D A [(h0, .inr (11, [.ref le, h0_1, h0_2, .ref lx, .ref ps, h0_5, h0_6, .ref bs, .int 0])), (le, .inr (1, [.ref vd, le_1, le_2, le_3, le_4, le_5])), (vd, .inr (0, [vd_0, vd_1, vd_2])), (ps, .inr (6, [.ref lx, .ref nm, ps_2, ps_3, .ref le, .ref fr, .ref wa, ps_7, ps_8, ps_9, ps_10, ps_11, ps_12, ps_13, ps_14, ps_15, .ref bo, ps_17, ps_18, .ref co])), (fr, .inr (0, [fr_0, fr_1, fr_2])), (wa, .inr (0, [wa_0, wa_1, wa_2])), (bo, .inr (0, [bo_0, bo_1, bo_2])), (co, .inr (0, [co_0, co_1, co_2])), (nm, .inr (2, [nm_0, nm_1, nm_2, nm_3, nm_4, .int se])), (lx, .inr (3, [.ref nm, lx_1, lx_2, lx_3, lx_4, lx_5, lx_6, lx_7]))] := hD
  refine lv_aload_n hx hb d_ProofDesk_end_26 rfl (lv_at hl 0 rfl) ?_
  refine va_get (D := D) (ci := 11) (v := .ref le) (C := "ProofDesk") (T := F_ProofDesk) (N := 9) hx hb hts in_ProofDesk hown hK hP 0 rfl rfl 0 (by decide) (hts _ kw_558) (fun _ h9 => h9) rfl d_ProofDesk_end_27 ?_
  have hPc := hP.sub (ws' := [(le, .inr (1, [.ref vd, le_1, le_2, le_3, le_4, le_5])), (vd, .inr (0, [vd_0, vd_1, vd_2]))]) [1, 2] rfl
  have hDc := hD.sub (ws' := [(le, .inr (1, [.ref vd, le_1, le_2, le_3, le_4, le_5])), (vd, .inr (0, [vd_0, vd_1, vd_2]))]) [1, 2] (by decide +kernel) rfl
  have hFc := va_free (wc := [(le, .inr (1, [.ref vd, le_1, le_2, le_3, le_4, le_5])), (vd, .inr (0, [vd_0, vd_1, vd_2]))]) hD hS hA [1, 2] rfl
  have hkc : 0 + 0 ≤ 0 := by omega
  have hks : 0 + 0 ≤ 0 := by omega
  refine va_callv (va_runV (As := []) (rest := []) ⟨hx, hb, hml, hown, hts⟩ (c_Ledger_clear l D cI cB cZ cS H.size le vd le_1 le_2 le_3 le_4 le_5 vd_0 vd_1 vd_2) (⟨callB_of 0 hts (zgood kw_603) rfl rfl rfl (hts _ kw_2) (hts _ kw_600) (by decide +kernel) ⟨Nat.le_of_ble_eq_true rfl, Nat.le_of_ble_eq_true rfl⟩, hts _ kw_601, hts _ kw_602⟩) (zPreV hPc hK hN hDc (va_recv (q := ("ProofDesk$Ledger", F_Ledger, 6)) hK hP rfl (q0 := 1) rfl)) rfl rfl hl.1 rfl (lv_room (Nat.le_of_ble_eq_true rfl)) d_ProofDesk_end_30 ⟨hkc, hks⟩) hS (fun q _ h => hFc q h) hFc (fun u t H1 locs ht hvm hw hB hz1 hk1 hS => ?_)
  obtain ⟨hP1, hD1⟩ := hB
  rw [ht] at hP1
  obtain ⟨hP, hD⟩ := va_join (wr := [(h0, .inr (11, [.ref le, h0_1, h0_2, .ref lx, .ref ps, h0_5, h0_6, .ref bs, .int 0])), (ps, .inr (6, [.ref lx, .ref nm, ps_2, ps_3, .ref le, .ref fr, .ref wa, ps_7, ps_8, ps_9, ps_10, ps_11, ps_12, ps_13, ps_14, ps_15, .ref bo, ps_17, ps_18, .ref co])), (fr, .inr (0, [fr_0, fr_1, fr_2])), (wa, .inr (0, [wa_0, wa_1, wa_2])), (bo, .inr (0, [bo_0, bo_1, bo_2])), (co, .inr (0, [co_0, co_1, co_2])), (nm, .inr (2, [nm_0, nm_1, nm_2, nm_3, nm_4, .int se])), (lx, .inr (3, [.ref nm, lx_1, lx_2, lx_3, lx_4, lx_5, lx_6, lx_7]))]) (w1 := [(le, .inr (1, [.ref vd, le_1, le_2, le_3, le_4, le_5])), (vd, .inr (0, [vd_0, vd_1, .int 0]))]) hP hD [1, 2] [0, 3, 4, 5, 6, 7, 8, 9] rfl rfl (by decide +kernel) (by decide +kernel) hk1 hFc hP1 hD1
  generalize H1 = H at hP hS ⊢
  have hP : va_P D zcl [(h0, .inr (11, [.ref le, h0_1, h0_2, .ref lx, .ref ps, h0_5, h0_6, .ref bs, .int 0])), (ps, .inr (6, [.ref lx, .ref nm, ps_2, ps_3, .ref le, .ref fr, .ref wa, ps_7, ps_8, ps_9, ps_10, ps_11, ps_12, ps_13, ps_14, ps_15, .ref bo, ps_17, ps_18, .ref co])), (fr, .inr (0, [fr_0, fr_1, fr_2])), (wa, .inr (0, [wa_0, wa_1, wa_2])), (bo, .inr (0, [bo_0, bo_1, bo_2])), (co, .inr (0, [co_0, co_1, co_2])), (nm, .inr (2, [nm_0, nm_1, nm_2, nm_3, nm_4, .int se])), (lx, .inr (3, [.ref nm, lx_1, lx_2, lx_3, lx_4, lx_5, lx_6, lx_7])), (le, .inr (1, [.ref vd, le_1, le_2, le_3, le_4, le_5])), (vd, .inr (0, [vd_0, vd_1, .int 0]))] H := hP
  have hD : va_D A [(h0, .inr (11, [.ref le, h0_1, h0_2, .ref lx, .ref ps, h0_5, h0_6, .ref bs, .int 0])), (ps, .inr (6, [.ref lx, .ref nm, ps_2, ps_3, .ref le, .ref fr, .ref wa, ps_7, ps_8, ps_9, ps_10, ps_11, ps_12, ps_13, ps_14, ps_15, .ref bo, ps_17, ps_18, .ref co])), (fr, .inr (0, [fr_0, fr_1, fr_2])), (wa, .inr (0, [wa_0, wa_1, wa_2])), (bo, .inr (0, [bo_0, bo_1, bo_2])), (co, .inr (0, [co_0, co_1, co_2])), (nm, .inr (2, [nm_0, nm_1, nm_2, nm_3, nm_4, .int se])), (lx, .inr (3, [.ref nm, lx_1, lx_2, lx_3, lx_4, lx_5, lx_6, lx_7])), (le, .inr (1, [.ref vd, le_1, le_2, le_3, le_4, le_5])), (vd, .inr (0, [vd_0, vd_1, .int 0]))] := hD
  refine W.widen (k := 0) (n := 0) (by omega) (by omega) ?_
  refine lv_aload_n hx hb d_ProofDesk_end_33 rfl (lv_at hl 0 rfl) ?_
  refine va_get (D := D) (ci := 11) (v := .ref lx) (C := "ProofDesk") (T := F_ProofDesk) (N := 9) hx hb hts in_ProofDesk hown hK hP 0 rfl rfl 3 (by decide) (hts _ kw_561) (fun _ h9 => h9) rfl d_ProofDesk_end_34 ?_
  refine lv_aload_n hx hb d_ProofDesk_end_37 rfl (lv_at hl 0 rfl) ?_
  refine va_get (D := D) (ci := 11) (v := .ref bs) (C := "ProofDesk") (T := F_ProofDesk) (N := 9) hx hb hts in_ProofDesk hown hK hP 0 rfl rfl 7 (by decide) (hts _ kw_565) (fun _ h9 => h9) rfl d_ProofDesk_end_38 ?_
  refine lv_iload_n hx hb d_ProofDesk_end_41 rfl (lv_at hl 1 rfl) ?_
  have hPc := hP.sub (ws' := [(lx, .inr (3, [.ref nm, lx_1, lx_2, lx_3, lx_4, lx_5, lx_6, lx_7]))]) [7] rfl
  have hDc := hD.sub (ws' := [(lx, .inr (3, [.ref nm, lx_1, lx_2, lx_3, lx_4, lx_5, lx_6, lx_7]))]) [7] (by decide +kernel) rfl
  have hFc := va_free (wc := [(lx, .inr (3, [.ref nm, lx_1, lx_2, lx_3, lx_4, lx_5, lx_6, lx_7]))]) hD hS hA [7] rfl
  have hkc : 0 + 0 ≤ 0 := by omega
  have hks : 0 + 0 ≤ 0 := by omega
  refine va_callv (va_runV (As := [.ref bs, .int 0]) (rest := []) ⟨hx, hb, hml, hown, hts⟩ (c_Lexer_open l D cI cB cZ cS H.size lx (.ref nm) lx_1 lx_2 lx_3 lx_4 lx_5 lx_6 lx_7 bs 0) (⟨callB_of 2 hts (zgood kw_607) rfl rfl rfl (hts _ kw_10) (hts _ kw_604) (by decide +kernel) ⟨Nat.le_of_ble_eq_true rfl, Nat.le_of_ble_eq_true rfl⟩, hts _ kw_605, hts _ kw_606⟩) (zPreV hPc hK hN hDc (va_recv (q := ("ProofDesk$Lexer", F_Lexer, 8)) hK hP rfl (q0 := 7) rfl)) rfl rfl hl.1 rfl (lv_room (Nat.le_of_ble_eq_true rfl)) d_ProofDesk_end_42 ⟨hkc, hks⟩) hS (fun q _ h => hFc q h) hFc (fun u t H1 locs ht hvm hw hB hz1 hk1 hS => ?_)
  obtain ⟨hP1, hD1⟩ := hB
  rw [ht] at hP1
  obtain ⟨hP, hD⟩ := va_join (wr := [(h0, .inr (11, [.ref le, h0_1, h0_2, .ref lx, .ref ps, h0_5, h0_6, .ref bs, .int 0])), (ps, .inr (6, [.ref lx, .ref nm, ps_2, ps_3, .ref le, .ref fr, .ref wa, ps_7, ps_8, ps_9, ps_10, ps_11, ps_12, ps_13, ps_14, ps_15, .ref bo, ps_17, ps_18, .ref co])), (fr, .inr (0, [fr_0, fr_1, fr_2])), (wa, .inr (0, [wa_0, wa_1, wa_2])), (bo, .inr (0, [bo_0, bo_1, bo_2])), (co, .inr (0, [co_0, co_1, co_2])), (nm, .inr (2, [nm_0, nm_1, nm_2, nm_3, nm_4, .int se])), (le, .inr (1, [.ref vd, le_1, le_2, le_3, le_4, le_5])), (vd, .inr (0, [vd_0, vd_1, .int 0]))]) (w1 := [(lx, .inr (3, [.ref nm, .ref bs, .int 0, .int 0, .int 0, .int 0, lx_6, lx_7]))]) hP hD [7] [0, 1, 2, 3, 4, 5, 6, 8, 9] rfl rfl (by decide +kernel) (by decide +kernel) hk1 hFc hP1 hD1
  generalize H1 = H at hP hS ⊢
  have hP : va_P D zcl [(h0, .inr (11, [.ref le, h0_1, h0_2, .ref lx, .ref ps, h0_5, h0_6, .ref bs, .int 0])), (ps, .inr (6, [.ref lx, .ref nm, ps_2, ps_3, .ref le, .ref fr, .ref wa, ps_7, ps_8, ps_9, ps_10, ps_11, ps_12, ps_13, ps_14, ps_15, .ref bo, ps_17, ps_18, .ref co])), (fr, .inr (0, [fr_0, fr_1, fr_2])), (wa, .inr (0, [wa_0, wa_1, wa_2])), (bo, .inr (0, [bo_0, bo_1, bo_2])), (co, .inr (0, [co_0, co_1, co_2])), (nm, .inr (2, [nm_0, nm_1, nm_2, nm_3, nm_4, .int se])), (le, .inr (1, [.ref vd, le_1, le_2, le_3, le_4, le_5])), (vd, .inr (0, [vd_0, vd_1, .int 0])), (lx, .inr (3, [.ref nm, .ref bs, .int 0, .int 0, .int 0, .int 0, lx_6, lx_7]))] H := hP
  have hD : va_D A [(h0, .inr (11, [.ref le, h0_1, h0_2, .ref lx, .ref ps, h0_5, h0_6, .ref bs, .int 0])), (ps, .inr (6, [.ref lx, .ref nm, ps_2, ps_3, .ref le, .ref fr, .ref wa, ps_7, ps_8, ps_9, ps_10, ps_11, ps_12, ps_13, ps_14, ps_15, .ref bo, ps_17, ps_18, .ref co])), (fr, .inr (0, [fr_0, fr_1, fr_2])), (wa, .inr (0, [wa_0, wa_1, wa_2])), (bo, .inr (0, [bo_0, bo_1, bo_2])), (co, .inr (0, [co_0, co_1, co_2])), (nm, .inr (2, [nm_0, nm_1, nm_2, nm_3, nm_4, .int se])), (le, .inr (1, [.ref vd, le_1, le_2, le_3, le_4, le_5])), (vd, .inr (0, [vd_0, vd_1, .int 0])), (lx, .inr (3, [.ref nm, .ref bs, .int 0, .int 0, .int 0, .int 0, lx_6, lx_7]))] := hD
  refine W.widen (k := 0) (n := 0) (by omega) (by omega) ?_
  refine lv_iload_n hx hb d_ProofDesk_end_45 rfl (lv_at hl 1 rfl) ?_
  refine lv_iconst (v := 1) hx hb d_ProofDesk_end_46 (by decide) ?_
  refine lv_iadd hx hb d_ProofDesk_end_47 ?_
  refine zz_i (y := 1) (by decide +kernel) ?_
  refine lv_istore_n (lv' := [(2, .int 1), (0, .ref h0), (1, .int 0)]) hx hb d_ProofDesk_end_48 rfl hl (by decide) rfl (fun ls hl => ?_)
  refine lv_iload_n hx hb d_ProofDesk_end_49 rfl (lv_at hl 0 rfl) ?_
  have hc_4 : ¬ (1 : Int32) ≤ 0 := by decide +kernel
  refine lv_if_le hx hb d_ProofDesk_end_50 rfl (fun h => absurd h hc_4) (fun _ => ?_)
  refine lv_aload_n hx hb d_ProofDesk_end_53 rfl (lv_at hl 1 rfl) ?_
  refine va_get (D := D) (ci := 11) (v := .ref ps) (C := "ProofDesk") (T := F_ProofDesk) (N := 9) hx hb hts in_ProofDesk hown hK hP 0 rfl rfl 4 (by decide) (hts _ kw_562) (fun _ h9 => h9) rfl d_ProofDesk_end_54 ?_
  have hPc := hP.sub (ws' := [(ps, .inr (6, [.ref lx, .ref nm, ps_2, ps_3, .ref le, .ref fr, .ref wa, ps_7, ps_8, ps_9, ps_10, ps_11, ps_12, ps_13, ps_14, ps_15, .ref bo, ps_17, ps_18, .ref co])), (le, .inr (1, [.ref vd, le_1, le_2, le_3, le_4, le_5])), (fr, .inr (0, [fr_0, fr_1, fr_2])), (wa, .inr (0, [wa_0, wa_1, wa_2])), (bo, .inr (0, [bo_0, bo_1, bo_2])), (co, .inr (0, [co_0, co_1, co_2])), (nm, .inr (2, [nm_0, nm_1, nm_2, nm_3, nm_4, .int se])), (lx, .inr (3, [.ref nm, .ref bs, .int 0, .int 0, .int 0, .int 0, lx_6, lx_7]))]) [1, 7, 2, 3, 4, 5, 6, 9] rfl
  have hDc := hD.sub (ws' := [(ps, .inr (6, [.ref lx, .ref nm, ps_2, ps_3, .ref le, .ref fr, .ref wa, ps_7, ps_8, ps_9, ps_10, ps_11, ps_12, ps_13, ps_14, ps_15, .ref bo, ps_17, ps_18, .ref co])), (le, .inr (1, [.ref vd, le_1, le_2, le_3, le_4, le_5])), (fr, .inr (0, [fr_0, fr_1, fr_2])), (wa, .inr (0, [wa_0, wa_1, wa_2])), (bo, .inr (0, [bo_0, bo_1, bo_2])), (co, .inr (0, [co_0, co_1, co_2])), (nm, .inr (2, [nm_0, nm_1, nm_2, nm_3, nm_4, .int se])), (lx, .inr (3, [.ref nm, .ref bs, .int 0, .int 0, .int 0, .int 0, lx_6, lx_7]))]) [1, 7, 2, 3, 4, 5, 6, 9] (by decide +kernel) rfl
  have hFc := va_free (wc := [(ps, .inr (6, [.ref lx, .ref nm, ps_2, ps_3, .ref le, .ref fr, .ref wa, ps_7, ps_8, ps_9, ps_10, ps_11, ps_12, ps_13, ps_14, ps_15, .ref bo, ps_17, ps_18, .ref co])), (le, .inr (1, [.ref vd, le_1, le_2, le_3, le_4, le_5])), (fr, .inr (0, [fr_0, fr_1, fr_2])), (wa, .inr (0, [wa_0, wa_1, wa_2])), (bo, .inr (0, [bo_0, bo_1, bo_2])), (co, .inr (0, [co_0, co_1, co_2])), (nm, .inr (2, [nm_0, nm_1, nm_2, nm_3, nm_4, .int se])), (lx, .inr (3, [.ref nm, .ref bs, .int 0, .int 0, .int 0, .int 0, lx_6, lx_7]))]) hD hS hA [1, 7, 2, 3, 4, 5, 6, 9] rfl
  have hkc : 0 + 0 ≤ 0 := by omega
  have hks : 0 + 0 ≤ 0 := by omega
  refine va_calli (va_runV (As := []) (rest := []) ⟨hx, hb, hml, hown, hts⟩ (c_Parser_readDeclaration_0 l D cI cB cZ cS H.size ps le fr wa bo co nm lx ps_2 ps_3 ps_7 ps_8 ps_9 ps_10 ps_11 ps_12 ps_13 ps_14 ps_15 ps_17 ps_18 (.ref vd) le_1 le_2 le_3 le_4 le_5 fr_0 fr_1 fr_2 wa_0 wa_1 wa_2 bo_0 bo_1 bo_2 co_0 co_1 co_2 se nm_0 nm_1 nm_2 nm_3 nm_4 (.ref nm) (.ref bs) (.int 0) (.int 0) lx_6 lx_7) (⟨callB_of 0 hts (zgood kw_611) rfl rfl rfl (hts _ kw_11) (hts _ kw_608) (by decide +kernel) ⟨Nat.le_of_ble_eq_true rfl, Nat.le_of_ble_eq_true rfl⟩, hts _ kw_609, hts _ kw_610⟩) (zPreV hPc hK hN hDc (va_recv (q := ("ProofDesk$Parser", F_Parser, 20)) hK hP rfl (q0 := 1) rfl)) rfl rfl hl.1 rfl (lv_room (Nat.le_of_ble_eq_true rfl)) d_ProofDesk_end_57 ⟨hkc, hks⟩) hS (fun q _ h => hFc q h) hFc (fun r u t H1 locs ht hvm hw hB hz1 hk1 hS => ?_)
  obtain ⟨hP1, hD1⟩ := hB
  rw [ht] at hP1
  obtain ⟨hP, hD⟩ := va_join (wr := [(h0, .inr (11, [.ref le, h0_1, h0_2, .ref lx, .ref ps, h0_5, h0_6, .ref bs, .int 0])), (vd, .inr (0, [vd_0, vd_1, .int 0]))]) (w1 := [(ps, .inr (6, [.ref lx, .ref nm, ps_2, ps_3, .ref le, .ref fr, .ref wa, .int 17, .int 1, ps_9, ps_10, ps_11, ps_12, .int 0, .int 0, .int (-1), .ref bo, .int (-1), .int (-1), .ref co])), (le, .inr (1, [.ref vd, le_1, .int 0, .int 0, .int 0, .int 0])), (fr, .inr (0, [fr_0, fr_1, .int 0])), (wa, .inr (0, [wa_0, wa_1, .int 0])), (bo, .inr (0, [bo_0, bo_1, .int 0])), (co, .inr (0, [co_0, co_1, .int 0])), (nm, .inr (2, [nm_0, nm_1, nm_2, nm_3, nm_4, .int (se + 1)])), (lx, .inr (3, [.ref nm, .ref bs, .int 0, .int 0, .int 0, .int 0, lx_6, lx_7]))]) hP hD [1, 7, 2, 3, 4, 5, 6, 9] [0, 8] rfl rfl (by decide +kernel) (by decide +kernel) hk1 hFc hP1 hD1
  generalize H1 = H at hP hS ⊢
  have hP : va_P D zcl [(h0, .inr (11, [.ref le, h0_1, h0_2, .ref lx, .ref ps, h0_5, h0_6, .ref bs, .int 0])), (vd, .inr (0, [vd_0, vd_1, .int 0])), (ps, .inr (6, [.ref lx, .ref nm, ps_2, ps_3, .ref le, .ref fr, .ref wa, .int 17, .int 1, ps_9, ps_10, ps_11, ps_12, .int 0, .int 0, .int (-1), .ref bo, .int (-1), .int (-1), .ref co])), (le, .inr (1, [.ref vd, le_1, .int 0, .int 0, .int 0, .int 0])), (fr, .inr (0, [fr_0, fr_1, .int 0])), (wa, .inr (0, [wa_0, wa_1, .int 0])), (bo, .inr (0, [bo_0, bo_1, .int 0])), (co, .inr (0, [co_0, co_1, .int 0])), (nm, .inr (2, [nm_0, nm_1, nm_2, nm_3, nm_4, .int (se + 1)])), (lx, .inr (3, [.ref nm, .ref bs, .int 0, .int 0, .int 0, .int 0, lx_6, lx_7]))] H := hP
  have hD : va_D A [(h0, .inr (11, [.ref le, h0_1, h0_2, .ref lx, .ref ps, h0_5, h0_6, .ref bs, .int 0])), (vd, .inr (0, [vd_0, vd_1, .int 0])), (ps, .inr (6, [.ref lx, .ref nm, ps_2, ps_3, .ref le, .ref fr, .ref wa, .int 17, .int 1, ps_9, ps_10, ps_11, ps_12, .int 0, .int 0, .int (-1), .ref bo, .int (-1), .int (-1), .ref co])), (le, .inr (1, [.ref vd, le_1, .int 0, .int 0, .int 0, .int 0])), (fr, .inr (0, [fr_0, fr_1, .int 0])), (wa, .inr (0, [wa_0, wa_1, .int 0])), (bo, .inr (0, [bo_0, bo_1, .int 0])), (co, .inr (0, [co_0, co_1, .int 0])), (nm, .inr (2, [nm_0, nm_1, nm_2, nm_3, nm_4, .int (se + 1)])), (lx, .inr (3, [.ref nm, .ref bs, .int 0, .int 0, .int 0, .int 0, lx_6, lx_7]))] := hD
  subst hw
  refine W.widen (k := 0) (n := 0) (by omega) (by omega) ?_
  have hc_5 : (0 : Int32) = 0 := by decide +kernel
  refine lv_if_eq hx hb d_ProofDesk_end_60 rfl (fun _ => ?_) (fun h => absurd hc_5 h)
  refine lv_aload_n hx hb d_ProofDesk_end_83 rfl (lv_at hl 1 rfl) ?_
  refine va_get (D := D) (ci := 11) (v := .ref ps) (C := "ProofDesk") (T := F_ProofDesk) (N := 9) hx hb hts in_ProofDesk hown hK hP 0 rfl rfl 4 (by decide) (hts _ kw_562) (fun _ h9 => h9) rfl d_ProofDesk_end_84 ?_
  have hPc := hP.sub (ws' := [(ps, .inr (6, [.ref lx, .ref nm, ps_2, ps_3, .ref le, .ref fr, .ref wa, .int 17, .int 1, ps_9, ps_10, ps_11, ps_12, .int 0, .int 0, .int (-1), .ref bo, .int (-1), .int (-1), .ref co]))]) [2] rfl
  have hDc := hD.sub (ws' := [(ps, .inr (6, [.ref lx, .ref nm, ps_2, ps_3, .ref le, .ref fr, .ref wa, .int 17, .int 1, ps_9, ps_10, ps_11, ps_12, .int 0, .int 0, .int (-1), .ref bo, .int (-1), .int (-1), .ref co]))]) [2] (by decide +kernel) rfl
  have hFc := va_free (wc := [(ps, .inr (6, [.ref lx, .ref nm, ps_2, ps_3, .ref le, .ref fr, .ref wa, .int 17, .int 1, ps_9, ps_10, ps_11, ps_12, .int 0, .int 0, .int (-1), .ref bo, .int (-1), .int (-1), .ref co]))]) hD hS hA [2] rfl
  have hkc : 0 + 0 ≤ 0 := by omega
  have hks : 0 + 0 ≤ 0 := by omega
  refine va_calli (va_runV (As := []) (rest := []) ⟨hx, hb, hml, hown, hts⟩ (c_Parser_failed_no l D cI cB cZ cS H.size ps (.ref lx) (.ref nm) ps_2 ps_3 (.ref le) (.ref fr) (.ref wa) (.int 1) ps_9 ps_10 ps_11 ps_12 (.int 0) (.int 0) (.int (-1)) (.ref bo) (.int (-1)) (.int (-1)) (.ref co)) (⟨callB_of 0 hts (zgood kw_1625) rfl rfl rfl (hts _ kw_11) (hts _ kw_1622) (by decide +kernel) ⟨Nat.le_of_ble_eq_true rfl, Nat.le_of_ble_eq_true rfl⟩, hts _ kw_1623, hts _ kw_1624⟩) (zPreV hPc hK hN hDc (va_recv (q := ("ProofDesk$Parser", F_Parser, 20)) hK hP rfl (q0 := 2) rfl)) rfl rfl hl.1 rfl (lv_room (Nat.le_of_ble_eq_true rfl)) d_ProofDesk_end_87 ⟨hkc, hks⟩) hS (fun q _ h => hFc q h) hFc (fun r u t H1 locs ht hvm hw hB hz1 hk1 hS => ?_)
  obtain ⟨hP1, hD1⟩ := hB
  rw [ht] at hP1
  obtain ⟨hP, hD⟩ := va_join (wr := [(h0, .inr (11, [.ref le, h0_1, h0_2, .ref lx, .ref ps, h0_5, h0_6, .ref bs, .int 0])), (vd, .inr (0, [vd_0, vd_1, .int 0])), (le, .inr (1, [.ref vd, le_1, .int 0, .int 0, .int 0, .int 0])), (fr, .inr (0, [fr_0, fr_1, .int 0])), (wa, .inr (0, [wa_0, wa_1, .int 0])), (bo, .inr (0, [bo_0, bo_1, .int 0])), (co, .inr (0, [co_0, co_1, .int 0])), (nm, .inr (2, [nm_0, nm_1, nm_2, nm_3, nm_4, .int (se + 1)])), (lx, .inr (3, [.ref nm, .ref bs, .int 0, .int 0, .int 0, .int 0, lx_6, lx_7]))]) (w1 := [(ps, .inr (6, [.ref lx, .ref nm, ps_2, ps_3, .ref le, .ref fr, .ref wa, .int 17, .int 1, ps_9, ps_10, ps_11, ps_12, .int 0, .int 0, .int (-1), .ref bo, .int (-1), .int (-1), .ref co]))]) hP hD [2] [0, 1, 3, 4, 5, 6, 7, 8, 9] rfl rfl (by decide +kernel) (by decide +kernel) hk1 hFc hP1 hD1
  generalize H1 = H at hP hS ⊢
  have hP : va_P D zcl [(h0, .inr (11, [.ref le, h0_1, h0_2, .ref lx, .ref ps, h0_5, h0_6, .ref bs, .int 0])), (vd, .inr (0, [vd_0, vd_1, .int 0])), (le, .inr (1, [.ref vd, le_1, .int 0, .int 0, .int 0, .int 0])), (fr, .inr (0, [fr_0, fr_1, .int 0])), (wa, .inr (0, [wa_0, wa_1, .int 0])), (bo, .inr (0, [bo_0, bo_1, .int 0])), (co, .inr (0, [co_0, co_1, .int 0])), (nm, .inr (2, [nm_0, nm_1, nm_2, nm_3, nm_4, .int (se + 1)])), (lx, .inr (3, [.ref nm, .ref bs, .int 0, .int 0, .int 0, .int 0, lx_6, lx_7])), (ps, .inr (6, [.ref lx, .ref nm, ps_2, ps_3, .ref le, .ref fr, .ref wa, .int 17, .int 1, ps_9, ps_10, ps_11, ps_12, .int 0, .int 0, .int (-1), .ref bo, .int (-1), .int (-1), .ref co]))] H := hP
  have hD : va_D A [(h0, .inr (11, [.ref le, h0_1, h0_2, .ref lx, .ref ps, h0_5, h0_6, .ref bs, .int 0])), (vd, .inr (0, [vd_0, vd_1, .int 0])), (le, .inr (1, [.ref vd, le_1, .int 0, .int 0, .int 0, .int 0])), (fr, .inr (0, [fr_0, fr_1, .int 0])), (wa, .inr (0, [wa_0, wa_1, .int 0])), (bo, .inr (0, [bo_0, bo_1, .int 0])), (co, .inr (0, [co_0, co_1, .int 0])), (nm, .inr (2, [nm_0, nm_1, nm_2, nm_3, nm_4, .int (se + 1)])), (lx, .inr (3, [.ref nm, .ref bs, .int 0, .int 0, .int 0, .int 0, lx_6, lx_7])), (ps, .inr (6, [.ref lx, .ref nm, ps_2, ps_3, .ref le, .ref fr, .ref wa, .int 17, .int 1, ps_9, ps_10, ps_11, ps_12, .int 0, .int 0, .int (-1), .ref bo, .int (-1), .int (-1), .ref co]))] := hD
  subst hw
  refine W.widen (k := 0) (n := 0) (by omega) (by omega) ?_
  have hc_6 : (0 : Int32) = 0 := by decide +kernel
  refine lv_if_eq hx hb d_ProofDesk_end_90 rfl (fun _ => ?_) (fun h => absurd hc_6 h)
  refine lv_aload_n hx hb d_ProofDesk_end_114 rfl (lv_at hl 1 rfl) ?_
  refine va_get (D := D) (ci := 11) (v := .ref le) (C := "ProofDesk") (T := F_ProofDesk) (N := 9) hx hb hts in_ProofDesk hown hK hP 0 rfl rfl 0 (by decide) (hts _ kw_558) (fun _ h9 => h9) rfl d_ProofDesk_end_115 ?_
  refine va_getN (D := D) (ci := 1) (v := .ref vd) (C := "ProofDesk$Ledger") (T := F_Ledger) (N := 6) hx hb hts in_Ledger hown hK hP 2 rfl rfl 0 (by decide) (va_Nw.use rfl (hN _ kw_66)) (fun _ h9 => h9) rfl d_ProofDesk_end_118 ?_
  refine va_getN (D := D) (ci := 0) (v := .int 0) (C := "ProofDesk$Pile") (T := F_Pile) (N := 3) hx hb hts in_Pile hown hK hP 1 rfl rfl 2 (by decide) (va_Nw.use rfl (hN _ kw_53)) (fun _ h9 => h9) rfl d_ProofDesk_end_121 ?_
  have hP9 := hP.sub (ws' := [(h0, .inr (11, [.ref le, h0_1, h0_2, .ref lx, .ref ps, h0_5, h0_6, .ref bs, .int 0])), (le, .inr (1, [.ref vd, le_1, .int 0, .int 0, .int 0, .int 0])), (vd, .inr (0, [vd_0, vd_1, .int 0])), (ps, .inr (6, [.ref lx, .ref nm, ps_2, ps_3, .ref le, .ref fr, .ref wa, .int 17, .int 1, ps_9, ps_10, ps_11, ps_12, .int 0, .int 0, .int (-1), .ref bo, .int (-1), .int (-1), .ref co])), (fr, .inr (0, [fr_0, fr_1, .int 0])), (wa, .inr (0, [wa_0, wa_1, .int 0])), (bo, .inr (0, [bo_0, bo_1, .int 0])), (co, .inr (0, [co_0, co_1, .int 0])), (nm, .inr (2, [nm_0, nm_1, nm_2, nm_3, nm_4, .int (se + 1)])), (lx, .inr (3, [.ref nm, .ref bs, .int 0, .int 0, .int 0, .int 0, lx_6, lx_7]))]) [0, 2, 1, 9, 3, 4, 5, 6, 7, 8] rfl
  have hD9 := hD.sub (ws' := [(h0, .inr (11, [.ref le, h0_1, h0_2, .ref lx, .ref ps, h0_5, h0_6, .ref bs, .int 0])), (le, .inr (1, [.ref vd, le_1, .int 0, .int 0, .int 0, .int 0])), (vd, .inr (0, [vd_0, vd_1, .int 0])), (ps, .inr (6, [.ref lx, .ref nm, ps_2, ps_3, .ref le, .ref fr, .ref wa, .int 17, .int 1, ps_9, ps_10, ps_11, ps_12, .int 0, .int 0, .int (-1), .ref bo, .int (-1), .int (-1), .ref co])), (fr, .inr (0, [fr_0, fr_1, .int 0])), (wa, .inr (0, [wa_0, wa_1, .int 0])), (bo, .inr (0, [bo_0, bo_1, .int 0])), (co, .inr (0, [co_0, co_1, .int 0])), (nm, .inr (2, [nm_0, nm_1, nm_2, nm_3, nm_4, .int (se + 1)])), (lx, .inr (3, [.ref nm, .ref bs, .int 0, .int 0, .int 0, .int 0, lx_6, lx_7]))]) [0, 2, 1, 9, 3, 4, 5, 6, 7, 8] (by decide +kernel) rfl
  refine W.widen (k := 0) (n := 0) (by omega) (by omega) ?_
  exact W.iret (v := 0) hx hb hr (fun t ht hW => ⟨⟨0, (), rfl, rfl, by rw [ht]; exact hP9, hD9⟩, hS.F ht⟩) hS.2.2 d_ProofDesk_end_124
