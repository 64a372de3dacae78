abbrev b_Terms_headOf : ByteArray := prog_11_method_32_code
theorem d_Terms_headOf_5 : decode b_Terms_headOf 5 = .ok (.iload_n 3, 1) := by decide +kernel
theorem d_Terms_headOf_6 : decode b_Terms_headOf 6 = .ok (.ifCond .le 30, 3) := by decide +kernel
theorem d_Terms_headOf_9 : decode b_Terms_headOf 9 = .ok (.aload_n 0, 1) := by decide +kernel
theorem d_Terms_headOf_10 : decode b_Terms_headOf 10 = .ok (.getfield 11, 3) := by decide +kernel
theorem d_Terms_headOf_13 : decode b_Terms_headOf 13 = .ok (.iload_n 2, 1) := by decide +kernel
theorem d_Terms_headOf_14 : decode b_Terms_headOf 14 = .ok (.iconst 0, 1) := by decide +kernel
theorem d_Terms_headOf_15 : decode b_Terms_headOf 15 = .ok (.iadd, 1) := by decide +kernel
theorem d_Terms_headOf_16 : decode b_Terms_headOf 16 = .ok (.iaload, 1) := by decide +kernel
theorem d_Terms_headOf_17 : decode b_Terms_headOf 17 = .ok (.iconst 4, 1) := by decide +kernel
theorem d_Terms_headOf_18 : decode b_Terms_headOf 18 = .ok (.if_icmp .ne 18, 3) := by decide +kernel
theorem d_Terms_headOf_21 : decode b_Terms_headOf 21 = .ok (.aload_n 0, 1) := by decide +kernel
theorem d_Terms_headOf_22 : decode b_Terms_headOf 22 = .ok (.getfield 11, 3) := by decide +kernel
theorem d_Terms_headOf_25 : decode b_Terms_headOf 25 = .ok (.iload_n 2, 1) := by decide +kernel
theorem d_Terms_headOf_26 : decode b_Terms_headOf 26 = .ok (.iconst 2, 1) := by decide +kernel
theorem d_Terms_headOf_27 : decode b_Terms_headOf 27 = .ok (.iadd, 1) := by decide +kernel
theorem d_Terms_headOf_28 : decode b_Terms_headOf 28 = .ok (.iaload, 1) := by decide +kernel
theorem d_Terms_headOf_29 : decode b_Terms_headOf 29 = .ok (.istore_n 2, 1) := by decide +kernel
theorem d_Terms_headOf_30 : decode b_Terms_headOf 30 = .ok (.iinc 3 (-1), 3) := by decide +kernel
theorem d_Terms_headOf_33 : decode b_Terms_headOf 33 = .ok (.goto (-28), 3) := by decide +kernel
set_option maxHeartbeats 2000000 in
set_option maxRecDepth 100000 in
theorem lp_headOf {p : Program} {l : Launch} {e : Env} {R : Room} {s : State} {m : MethodId} {args : Array Value} {below : List Frame} {meth : Method} {c : Code} {H0 : Heap} {cells slots : Nat} {Q : State → Prop} {A : Nat → Prop} {D : va_G} {cI cB cZ cS : ClassId} (hx : p.tables.exec = Jvm.exec) (hb : c.code = b_Terms_headOf) (hts : ∀ w ∈ zw, w.before args s = true) (hN : zN s) (hown : s.vm.findClass "ProofDesk$Terms" = some m.cls) (hK : va_K D zcl (zty cI cB cZ cS) s) (h0 : Nat) (q : Nat) (n : Nat) (f : Nat → Int32) (g1 : Value) (g2 : Value) (g3 : Value) (g4 : Value) (g5 : Value) (g6 : Value) (g7 : Value) (g8 : Value) (ch : Nat → Nat) (N : Nat) (hM : n ≤ 33554432) (hL : N < 268435456) (hk : ∀ j, j < N → f (ch j + 0) = 4) (hz : ¬ f (ch N + 0) = 4) (hch : ∀ j, j < N → f (ch j + 2) = nI (ch (j + 1))) (hin : ∀ j, j ≤ N → ch j + 3 < n)
    (kk : ∀ (H : Heap) (locs : List Loc) (ls : Array Slot), va_P D zcl [(h0, .inr (4, [.ref q, g1, g2, g3, g4, g5, g6, g7, g8])), (q, .inl (cI, n, .inl f))] H → va_D A [(h0, .inr (4, [.ref q, g1, g2, g3, g4, g5, g6, g7, g8])), (q, .inl (cI, n, .inl f))] → va_S A H0 H locs → lv_has ls 4 [(3, .int (nI (268435456 - N))), (2, .int (nI (ch N))), (0, .ref h0), (1, .int (nI (ch 0)))] → W p l e R s m args below meth c H locs cells slots Q (F0 m 36 ls [])) :
    ∀ (d j : Nat) (H : Heap) (locs : List Loc) (ls : Array Slot), j + d = N → va_P D zcl [(h0, .inr (4, [.ref q, g1, g2, g3, g4, g5, g6, g7, g8])), (q, .inl (cI, n, .inl f))] H → va_D A [(h0, .inr (4, [.ref q, g1, g2, g3, g4, g5, g6, g7, g8])), (q, .inl (cI, n, .inl f))] → va_S A H0 H locs → lv_has ls 4 [(3, .int (nI (268435456 - j))), (2, .int (nI (ch j))), (0, .ref h0), (1, .int (nI (ch 0)))] → W p l e R s m args below meth c H locs cells slots Q (F0 m 5 ls []) := by
  intro d
  induction d with
  | zero =>
    intro j H locs ls hj hP hD hS hl
    obtain rfl : N = j := by omega
    have hl : lv_has ls 4 [(3, .int (nI (268435456 - N))), (2, .int (nI (ch N))), (0, .ref h0), (1, .int (nI (ch 0)))] := hl
    refine lv_iload_n hx hb d_Terms_headOf_5 rfl (lv_at hl 0 rfl) ?_
    have hc_1 : ¬ ((nI (268435456 - N)) : Int32) ≤ 0 := nI_nle (by omega) (by omega)
    refine lv_if_le hx hb d_Terms_headOf_6 rfl (fun h => absurd h hc_1) (fun _ => ?_)
    refine lv_aload_n hx hb d_Terms_headOf_9 rfl (lv_at hl 2 rfl) ?_
    refine va_get (D := D) (ci := 4) (v := .ref q) (C := "ProofDesk$Terms") (T := F_Terms) (N := 9) hx hb hts in_Terms hown hK hP 0 rfl rfl 0 (by decide) (hts _ kw_174) (fun _ h9 => h9) rfl d_Terms_headOf_10 ?_
    refine lv_iload_n hx hb d_Terms_headOf_13 rfl (lv_at hl 1 rfl) ?_
    refine lv_iconst (v := 0) hx hb d_Terms_headOf_14 (by decide) ?_
    refine lv_iadd hx hb d_Terms_headOf_15 ?_
    refine zz_i (y := nI (ch N + 0)) (nI_add (ch N) 0) ?_
    refine zz_iald (v := (f (ch N + 0))) hx hb hK hP 1 0 rfl rfl (i := (nI (ch N + 0))) (ch N + 0) (zix_nI (by have h9 := hin N (by omega); omega) (by omega)) (rfl) d_Terms_headOf_16 ?_
    refine lv_iconst (v := 4) hx hb d_Terms_headOf_17 (by decide) ?_
    have hc_2 : ¬ ((f (ch N + 0)) : Int32) = 4 := hz
    refine lv_icmp_ne hx hb d_Terms_headOf_18 rfl (fun _ => ?_) (fun h => absurd h hc_2)
    exact kk H locs ls hP hD hS hl
  | succ d ih =>
    intro j H locs ls hj hP hD hS hl
    have hl : lv_has ls 4 [(3, .int (nI (268435456 - j))), (2, .int (nI (ch j))), (0, .ref h0), (1, .int (nI (ch 0)))] := hl
    refine lv_iload_n hx hb d_Terms_headOf_5 rfl (lv_at hl 0 rfl) ?_
    have hc_1 : ¬ ((nI (268435456 - j)) : Int32) ≤ 0 := nI_nle (by omega) (by omega)
    refine lv_if_le hx hb d_Terms_headOf_6 rfl (fun h => absurd h hc_1) (fun _ => ?_)
    refine lv_aload_n hx hb d_Terms_headOf_9 rfl (lv_at hl 2 rfl) ?_
    refine va_get (D := D) (ci := 4) (v := .ref q) (C := "ProofDesk$Terms") (T := F_Terms) (N := 9) hx hb hts in_Terms hown hK hP 0 rfl rfl 0 (by decide) (hts _ kw_174) (fun _ h9 => h9) rfl d_Terms_headOf_10 ?_
    refine lv_iload_n hx hb d_Terms_headOf_13 rfl (lv_at hl 1 rfl) ?_
    refine lv_iconst (v := 0) hx hb d_Terms_headOf_14 (by decide) ?_
    refine lv_iadd hx hb d_Terms_headOf_15 ?_
    refine zz_i (y := nI (ch j + 0)) (nI_add (ch j) 0) ?_
    refine zz_iald (v := (f (ch j + 0))) hx hb hK hP 1 0 rfl rfl (i := (nI (ch j + 0))) (ch j + 0) (zix_nI (by have h9 := hin j (by omega); omega) (by omega)) (rfl) d_Terms_headOf_16 ?_
    refine lv_iconst (v := 4) hx hb d_Terms_headOf_17 (by decide) ?_
    have hc_2 : ((f (ch j + 0)) : Int32) = 4 := hk j (by omega)
    refine lv_icmp_ne hx hb d_Terms_headOf_18 rfl (fun h => absurd hc_2 h) (fun _ => ?_)
    refine lv_aload_n hx hb d_Terms_headOf_21 rfl (lv_at hl 2 rfl) ?_
    refine va_get (D := D) (ci := 4) (v := .ref q) (C := "ProofDesk$Terms") (T := F_Terms) (N := 9) hx hb hts in_Terms hown hK hP 0 rfl rfl 0 (by decide) (hts _ kw_174) (fun _ h9 => h9) rfl d_Terms_headOf_22 ?_
    refine lv_iload_n hx hb d_Terms_headOf_25 rfl (lv_at hl 1 rfl) ?_
    refine lv_iconst (v := 2) hx hb d_Terms_headOf_26 (by decide) ?_
    refine lv_iadd hx hb d_Terms_headOf_27 ?_
    refine zz_i (y := nI (ch j + 2)) (nI_add (ch j) 2) ?_
    refine zz_iald (v := (nI (ch (j + 1)))) hx hb hK hP 1 0 rfl rfl (i := (nI (ch j + 2))) (ch j + 2) (zix_nI (by have h9 := hin j (by omega); omega) (by omega)) (hch j (by omega)) d_Terms_headOf_28 ?_
    refine lv_istore_n (lv' := [(2, .int (nI (ch (j + 1)))), (3, .int (nI (268435456 - j))), (0, .ref h0), (1, .int (nI (ch 0)))]) hx hb d_Terms_headOf_29 rfl hl (by decide) rfl (fun ls hl => ?_)
    refine lv_iinc (k := 1) (v := (nI (268435456 - (j + 1)))) (lv' := [(3, .int (nI (268435456 - (j + 1)))), (2, .int (nI (ch (j + 1)))), (0, .ref h0), (1, .int (nI (ch 0)))]) hx hb d_Terms_headOf_30 hl rfl (by rw [show 268435456 - j = (268435456 - (j + 1)) + 1 from by omega]; exact pk_m1 _) (by decide) rfl (fun ls hl => ?_)
    refine lv_goto hx hb d_Terms_headOf_33 rfl ?_
    have hl : lv_has ls 4 [(3, .int (nI (268435456 - (j + 1)))), (2, .int (nI (ch (j + 1)))), (0, .ref h0), (1, .int (nI (ch 0)))] := lv_sub hl [0, 1, 2, 3] rfl
    exact ih (j + 1) H locs ls (by omega) hP hD hS hl
abbrev y_Terms_headOf : MethodName := ⟨"ProofDesk$Terms", "headOf", "(I)I"⟩
theorem d_Terms_headOf_0 : decode b_Terms_headOf 0 = .ok (.iload_n 1, 1) := by decide +kernel
theorem d_Terms_headOf_1 : decode b_Terms_headOf 1 = .ok (.istore_n 2, 1) := by decide +kernel
theorem d_Terms_headOf_2 : decode b_Terms_headOf 2 = .ok (.ldc 37, 2) := by decide +kernel
theorem d_Terms_headOf_4 : decode b_Terms_headOf 4 = .ok (.istore_n 3, 1) := by decide +kernel
theorem d_Terms_headOf_36 : decode b_Terms_headOf 36 = .ok (.iload_n 2, 1) := by decide +kernel
theorem d_Terms_headOf_37 : decode b_Terms_headOf 37 = .ok (.ireturn, 1) := by decide +kernel
set_option maxHeartbeats 4000000 in
set_option maxRecDepth 100000 in
theorem g_Terms_headOf (l : Launch) (D : va_G) (cI cB cZ cS : ClassId) (sz : Nat) (h0 : Nat) (q : Nat) (n : Nat) (f : Nat → Int32) (g1 : Value) (g2 : Value) (g3 : Value) (g4 : Value) (g5 : Value) (g6 : Value) (g7 : Value) (g8 : Value) (ch : Nat → Nat) (N : Nat) (hM : n ≤ 33554432) (hL : N < 268435456) (hk : ∀ j, j < N → f (ch j + 0) = 4) (hz : ¬ f (ch N + 0) = 4) (hch : ∀ j, j < N → f (ch j + 2) = nI (ch (j + 1))) (hin : ∀ j, j ≤ N → ch j + 3 < n) : Met l y_Terms_headOf (zc y_Terms_headOf b_Terms_headOf 4 (some .int)) ({ frames := 0, cells := 0, slots := 0, locals := 0 }) (zPc D (zty cI cB cZ cS) [(h0, .inr (4, [.ref q, g1, g2, g3, g4, g5, g6, g7, g8])), (q, .inl (cI, n, .inl f))] sz [.ref h0, .int (nI (ch 0))]) (va_Qi (fun (r : Int32) (_ : Unit) => r = (nI (ch N))) (fun _ t => va_P D zcl [(h0, .inr (4, [.ref q, g1, g2, g3, g4, g5, g6, g7, g8])), (q, .inl (cI, n, .inl f))] t.heap ∧ va_D (va_A [(h0, .inr (4, [.ref q, g1, g2, g3, g4, g5, g6, g7, g8])), (q, .inl (cI, n, .inl f))] sz) [(h0, .inr (4, [.ref q, g1, g2, g3, g4, g5, g6, g7, g8])), (q, .inl (cI, n, .inl f))]) (va_A [(h0, .inr (4, [.ref q, g1, g2, g3, g4, g5, g6, g7, g8])), (q, .inl (cI, n, .inl f))] sz)) 0 0 (va_A [(h0, .inr (4, [.ref q, g1, g2, g3, g4, g5, g6, g7, g8])), (q, .inl (cI, n, .inl f))] sz) := by
  refine Met.ofW (cc := b_Terms_headOf) (maxL := 4) (ret := (some .int)) (by decide) rfl ?_
  intro p e s m args below meth c s₁ B hml hv
  obtain ⟨rfl, hsz, hP, ⟨hK, hN⟩, hD0⟩ := hv
  have hx := B.exec
  have hb := B.bytes
  have hr := B.returns
  have hts0 := atoms_spec (ws := zc y_Terms_headOf b_Terms_headOf 4 (some .int)) B.pre
  have hts : ∀ w ∈ zw, w.before _ s = true := fun w hw => hts0 w (List.mem_cons_of_mem _ hw)
  have hown : s.vm.findClass "ProofDesk$Terms" = some m.cls := findClass_of_methodNamed B.named
  have hlocks := B.notSynchronized
  subst hsz
  have hD := hD0.self (sz := s.heap.size)
  generalize hAe : va_A [(h0, .inr (4, [.ref q, g1, g2, g3, g4, g5, g6, g7, g8])), (q, .inl (cI, n, .inl f))] s.heap.size = A at hD ⊢
  have hA : ∀ q : Nat, s.heap.size ≤ q → A q := fun q h => by rw [← hAe]; exact Or.inr h
  have hS : va_S A s.heap s.heap [] := va_S.rf
  have hP : va_P D zcl [(h0, .inr (4, [.ref q, g1, g2, g3, g4, g5, g6, g7, g8])), (q, .inl (cI, n, .inl f))] s.heap := hP
  have hl := lv_entry ([.ref h0, .int (nI (ch 0))]) (n := 4) (Nat.le_of_ble_eq_true rfl)
  rw [lg_entry_eq]
  generalize (lg_sl ([.ref h0, .int (nI (ch 0))]) ++ List.replicate (4 - (lg_sl ([.ref h0, .int (nI (ch 0))])).length) Slot.unset).toArray = ls at hl ⊢
  have hl : lv_has ls 4 [(0, .ref h0), (1, .int (nI (ch 0)))] := hl
  refine lv_iload_n hx hb d_Terms_headOf_0 rfl (lv_at hl 1 rfl) ?_
  refine lv_istore_n (lv' := [(2, .int (nI (ch 0))), (0, .ref h0), (1, .int (nI (ch 0)))]) hx hb d_Terms_headOf_1 rfl hl (by decide) rfl (fun ls hl => ?_)
  refine lv_ldc (v := 268435456) hx hb hown (hts _ kw_746) d_Terms_headOf_2 ?_
  refine lv_istore_n (lv' := [(3, .int 268435456), (2, .int (nI (ch 0))), (0, .ref h0), (1, .int (nI (ch 0)))]) hx hb d_Terms_headOf_4 rfl hl (by decide) rfl (fun ls hl => ?_)
  have hl : lv_has ls 4 [(3, .int (nI (268435456 - 0))), (2, .int (nI (ch 0))), (0, .ref h0), (1, .int (nI (ch 0)))] := lv_sub hl [0, 1, 2, 3] rfl
  have hP : va_P D zcl [(h0, .inr (4, [.ref q, g1, g2, g3, g4, g5, g6, g7, g8])), (q, .inl (cI, n, .inl f))] s.heap := hP
  have hD : va_D A [(h0, .inr (4, [.ref q, g1, g2, g3, g4, g5, g6, g7, g8])), (q, .inl (cI, n, .inl f))] := hD
  refine lp_headOf hx hb hts hN hown hK h0 q n f g1 g2 g3 g4 g5 g6 g7 g8 ch N hM hL hk hz hch hin (fun H locs ls hP hD hS hl => ?_) N 0 _ _ _ (by omega) hP hD hS hl
  refine lv_iload_n hx hb d_Terms_headOf_36 rfl (lv_at hl 1 rfl) ?_
  have hP9 := hP.sub (ws' := [(h0, .inr (4, [.ref q, g1, g2, g3, g4, g5, g6, g7, g8])), (q, .inl (cI, n, .inl f))]) [0, 1] rfl
  have hD9 := hD.sub (ws' := [(h0, .inr (4, [.ref q, g1, g2, g3, g4, g5, g6, g7, g8])), (q, .inl (cI, n, .inl f))]) [0, 1] (by decide +kernel) rfl
  refine W.widen (k := 0) (n := 0) (by omega) (by omega) ?_
  exact W.iret (v := (nI (ch N))) hx hb hr (fun t ht hW => ⟨⟨(nI (ch N)), (), rfl, rfl, by rw [ht]; exact hP9, hD9⟩, hS.F ht⟩) hS.2.2 d_Terms_headOf_37
