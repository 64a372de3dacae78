abbrev b_Terms_behind : ByteArray := prog_11_method_30_code
theorem d_Terms_behind_5 : decode b_Terms_behind 5 = .ok (.iload 4, 2) := by decide +kernel
theorem d_Terms_behind_7 : decode b_Terms_behind 7 = .ok (.ifCond .le 18, 3) := by decide +kernel
theorem d_Terms_behind_10 : decode b_Terms_behind 10 = .ok (.aload_n 0, 1) := by decide +kernel
theorem d_Terms_behind_11 : decode b_Terms_behind 11 = .ok (.getfield 11, 3) := by decide +kernel
theorem d_Terms_behind_14 : decode b_Terms_behind 14 = .ok (.iload_n 3, 1) := by decide +kernel
theorem d_Terms_behind_15 : decode b_Terms_behind 15 = .ok (.iconst 3, 1) := by decide +kernel
theorem d_Terms_behind_16 : decode b_Terms_behind 16 = .ok (.iadd, 1) := by decide +kernel
theorem d_Terms_behind_17 : decode b_Terms_behind 17 = .ok (.iaload, 1) := by decide +kernel
theorem d_Terms_behind_18 : decode b_Terms_behind 18 = .ok (.istore_n 3, 1) := by decide +kernel
theorem d_Terms_behind_19 : decode b_Terms_behind 19 = .ok (.iinc 4 (-1), 3) := by decide +kernel
theorem d_Terms_behind_22 : decode b_Terms_behind 22 = .ok (.goto (-17), 3) := by decide +kernel
set_option maxHeartbeats 2000000 in
set_option maxRecDepth 100000 in
theorem lp_behind {p : Program} {l : Launch} {e : Env} {R : Room} {s : State} {m : MethodId} {args : Array Value} {below : List Frame} {meth : Method} {c : Code} {H0 : Heap} {cells slots : Nat} {Q : State → Prop} {A : Nat → Prop} {D : va_G} {cI cB cZ cS : ClassId} (hx : p.tables.exec = Jvm.exec) (hb : c.code = b_Terms_behind) (hts : ∀ w ∈ zw, w.before args s = true) (hN : zN s) (hown : s.vm.findClass "ProofDesk$Terms" = some m.cls) (hK : va_K D zcl (zty cI cB cZ cS) s) (h0 : Nat) (q : Nat) (n : Nat) (f : Nat → Int32) (g1 : Value) (g2 : Value) (g3 : Value) (g4 : Value) (g5 : Value) (g6 : Value) (g7 : Value) (g8 : Value) (ch : Nat → Nat) (N : Nat) (hM : n ≤ 33554432) (hL : N < 268435456) (hch : ∀ j, j < N → f (ch j + 3) = nI (ch (j + 1))) (hin : ∀ j, j < N → ch j + 3 < n)
    (kk : ∀ (H : Heap) (locs : List Loc) (ls : Array Slot), va_P D zcl [(h0, .inr (4, [.ref q, g1, g2, g3, g4, g5, g6, g7, g8])), (q, .inl (cI, n, .inl f))] H → va_D A [(h0, .inr (4, [.ref q, g1, g2, g3, g4, g5, g6, g7, g8])), (q, .inl (cI, n, .inl f))] → va_S A H0 H locs → lv_has ls 5 [(4, .int (nI (N - N))), (3, .int (nI (ch N))), (0, .ref h0), (1, .int (nI (ch 0))), (2, .int (nI N))] → W p l e R s m args below meth c H locs cells slots Q (F0 m 25 ls [])) :
    ∀ (d j : Nat) (H : Heap) (locs : List Loc) (ls : Array Slot), j + d = N → va_P D zcl [(h0, .inr (4, [.ref q, g1, g2, g3, g4, g5, g6, g7, g8])), (q, .inl (cI, n, .inl f))] H → va_D A [(h0, .inr (4, [.ref q, g1, g2, g3, g4, g5, g6, g7, g8])), (q, .inl (cI, n, .inl f))] → va_S A H0 H locs → lv_has ls 5 [(4, .int (nI (N - j))), (3, .int (nI (ch j))), (0, .ref h0), (1, .int (nI (ch 0))), (2, .int (nI N))] → W p l e R s m args below meth c H locs cells slots Q (F0 m 5 ls []) := by
  intro d
  induction d with
  | zero =>
    intro j H locs ls hj hP hD hS hl
    obtain rfl : N = j := by omega
    have hl : lv_has ls 5 [(4, .int (nI (N - N))), (3, .int (nI (ch N))), (0, .ref h0), (1, .int (nI (ch 0))), (2, .int (nI N))] := hl
    refine lv_iload hx hb d_Terms_behind_5 (lv_at hl 0 rfl) ?_
    have hc_1 : ((nI (N - N)) : Int32) ≤ 0 := by rw [Nat.sub_self]; decide
    refine lv_if_le hx hb d_Terms_behind_7 rfl (fun _ => ?_) (fun h => absurd hc_1 h)
    exact kk H locs ls hP hD hS hl
  | succ d ih =>
    intro j H locs ls hj hP hD hS hl
    have hl : lv_has ls 5 [(4, .int (nI (N - j))), (3, .int (nI (ch j))), (0, .ref h0), (1, .int (nI (ch 0))), (2, .int (nI N))] := hl
    refine lv_iload hx hb d_Terms_behind_5 (lv_at hl 0 rfl) ?_
    have hc_1 : ¬ ((nI (N - j)) : Int32) ≤ 0 := nI_nle (by omega) (by omega)
    refine lv_if_le hx hb d_Terms_behind_7 rfl (fun h => absurd h hc_1) (fun _ => ?_)
    refine lv_aload_n hx hb d_Terms_behind_10 rfl (lv_at hl 2 rfl) ?_
    refine va_get (D := D) (ci := 4) (v := .ref q) (C := "ProofDesk$Terms") (T := F_Terms) (N := 9) hx hb hts in_Terms hown hK hP 0 rfl rfl 0 (by decide) (hts _ kw_174) (fun _ h9 => h9) rfl d_Terms_behind_11 ?_
    refine lv_iload_n hx hb d_Terms_behind_14 rfl (lv_at hl 1 rfl) ?_
    refine lv_iconst (v := 3) hx hb d_Terms_behind_15 (by decide) ?_
    refine lv_iadd hx hb d_Terms_behind_16 ?_
    refine zz_i (y := nI (ch j + 3)) (nI_add (ch j) 3) ?_
    refine zz_iald (v := (nI (ch (j + 1)))) hx hb hK hP 1 0 rfl rfl (i := (nI (ch j + 3))) (ch j + 3) (zix_nI (hin j (by omega)) (by omega)) (hch j (by omega)) d_Terms_behind_17 ?_
    refine lv_istore_n (lv' := [(3, .int (nI (ch (j + 1)))), (4, .int (nI (N - j))), (0, .ref h0), (1, .int (nI (ch 0))), (2, .int (nI N))]) hx hb d_Terms_behind_18 rfl hl (by decide) rfl (fun ls hl => ?_)
    refine lv_iinc (k := 1) (v := (nI (N - (j + 1)))) (lv' := [(4, .int (nI (N - (j + 1)))), (3, .int (nI (ch (j + 1)))), (0, .ref h0), (1, .int (nI (ch 0))), (2, .int (nI N))]) hx hb d_Terms_behind_19 hl rfl (by rw [show N - j = (N - (j + 1)) + 1 from by omega]; exact pk_m1 _) (by decide) rfl (fun ls hl => ?_)
    refine lv_goto hx hb d_Terms_behind_22 rfl ?_
    have hl : lv_has ls 5 [(4, .int (nI (N - (j + 1)))), (3, .int (nI (ch (j + 1)))), (0, .ref h0), (1, .int (nI (ch 0))), (2, .int (nI N))] := lv_sub hl [0, 1, 2, 3, 4] rfl
    exact ih (j + 1) H locs ls (by omega) hP hD hS hl
abbrev y_Terms_behind : MethodName := ⟨"ProofDesk$Terms", "behind", "(II)I"⟩
theorem d_Terms_behind_0 : decode b_Terms_behind 0 = .ok (.iload_n 1, 1) := by decide +kernel
theorem d_Terms_behind_1 : decode b_Terms_behind 1 = .ok (.istore_n 3, 1) := by decide +kernel
theorem d_Terms_behind_2 : decode b_Terms_behind 2 = .ok (.iload_n 2, 1) := by decide +kernel
theorem d_Terms_behind_3 : decode b_Terms_behind 3 = .ok (.istore 4, 2) := by decide +kernel
theorem d_Terms_behind_25 : decode b_Terms_behind 25 = .ok (.iload_n 3, 1) := by decide +kernel
theorem d_Terms_behind_26 : decode b_Terms_behind 26 = .ok (.ireturn, 1) := by decide +kernel
set_option maxHeartbeats 4000000 in
set_option maxRecDepth 100000 in
theorem g_Terms_behind (l : Launch) (D : va_G) (cI cB cZ cS : ClassId) (sz : Nat) (h0 : Nat) (q : Nat) (n : Nat) (f : Nat → Int32) (g1 : Value) (g2 : Value) (g3 : Value) (g4 : Value) (g5 : Value) (g6 : Value) (g7 : Value) (g8 : Value) (ch : Nat → Nat) (N : Nat) (hM : n ≤ 33554432) (hL : N < 268435456) (hch : ∀ j, j < N → f (ch j + 3) = nI (ch (j + 1))) (hin : ∀ j, j < N → ch j + 3 < n) : Met l y_Terms_behind (zc y_Terms_behind b_Terms_behind 5 (some .int)) ({ frames := 0, cells := 0, slots := 0, locals := 0 }) (zPc D (zty cI cB cZ cS) [(h0, .inr (4, [.ref q, g1, g2, g3, g4, g5, g6, g7, g8])), (q, .inl (cI, n, .inl f))] sz [.ref h0, .int (nI (ch 0)), .int (nI N)]) (va_Qi (fun (r : Int32) (_ : Unit) => r = (nI (ch N))) (fun _ t => va_P D zcl [(h0, .inr (4, [.ref q, g1, g2, g3, g4, g5, g6, g7, g8])), (q, .inl (cI, n, .inl f))] t.heap ∧ va_D (va_A [(h0, .inr (4, [.ref q, g1, g2, g3, g4, g5, g6, g7, g8])), (q, .inl (cI, n, .inl f))] sz) [(h0, .inr (4, [.ref q, g1, g2, g3, g4, g5, g6, g7, g8])), (q, .inl (cI, n, .inl f))]) (va_A [(h0, .inr (4, [.ref q, g1, g2, g3, g4, g5, g6, g7, g8])), (q, .inl (cI, n, .inl f))] sz)) 0 0 (va_A [(h0, .inr (4, [.ref q, g1, g2, g3, g4, g5, g6, g7, g8])), (q, .inl (cI, n, .inl f))] sz) := by
  refine Met.ofW (cc := b_Terms_behind) (maxL := 5) (ret := (some .int)) (by decide) rfl ?_
  intro p e s m args below meth c s₁ B hml hv
  obtain ⟨rfl, hsz, hP, ⟨hK, hN⟩, hD0⟩ := hv
  have hx := B.exec
  have hb := B.bytes
  have hr := B.returns
  have hts0 := atoms_spec (ws := zc y_Terms_behind b_Terms_behind 5 (some .int)) B.pre
  have hts : ∀ w ∈ zw, w.before _ s = true := fun w hw => hts0 w (List.mem_cons_of_mem _ hw)
  have hown : s.vm.findClass "ProofDesk$Terms" = some m.cls := findClass_of_methodNamed B.named
  have hlocks := B.notSynchronized
  subst hsz
  have hD := hD0.self (sz := s.heap.size)
  generalize hAe : va_A [(h0, .inr (4, [.ref q, g1, g2, g3, g4, g5, g6, g7, g8])), (q, .inl (cI, n, .inl f))] s.heap.size = A at hD ⊢
  have hA : ∀ q : Nat, s.heap.size ≤ q → A q := fun q h => by rw [← hAe]; exact Or.inr h
  have hS : va_S A s.heap s.heap [] := va_S.rf
  have hP : va_P D zcl [(h0, .inr (4, [.ref q, g1, g2, g3, g4, g5, g6, g7, g8])), (q, .inl (cI, n, .inl f))] s.heap := hP
  have hl := lv_entry ([.ref h0, .int (nI (ch 0)), .int (nI N)]) (n := 5) (Nat.le_of_ble_eq_true rfl)
  rw [lg_entry_eq]
  generalize (lg_sl ([.ref h0, .int (nI (ch 0)), .int (nI N)]) ++ List.replicate (5 - (lg_sl ([.ref h0, .int (nI (ch 0)), .int (nI N)])).length) Slot.unset).toArray = ls at hl ⊢
  have hl : lv_has ls 5 [(0, .ref h0), (1, .int (nI (ch 0))), (2, .int (nI N))] := hl
  refine lv_iload_n hx hb d_Terms_behind_0 rfl (lv_at hl 1 rfl) ?_
  refine lv_istore_n (lv' := [(3, .int (nI (ch 0))), (0, .ref h0), (1, .int (nI (ch 0))), (2, .int (nI N))]) hx hb d_Terms_behind_1 rfl hl (by decide) rfl (fun ls hl => ?_)
  refine lv_iload_n hx hb d_Terms_behind_2 rfl (lv_at hl 3 rfl) ?_
  refine lv_istore (lv' := [(4, .int (nI N)), (3, .int (nI (ch 0))), (0, .ref h0), (1, .int (nI (ch 0))), (2, .int (nI N))]) hx hb d_Terms_behind_3 hl (by decide) rfl (fun ls hl => ?_)
  have hl : lv_has ls 5 [(4, .int (nI (N - 0))), (3, .int (nI (ch 0))), (0, .ref h0), (1, .int (nI (ch 0))), (2, .int (nI N))] := lv_sub hl [0, 1, 2, 3, 4] rfl
  have hP : va_P D zcl [(h0, .inr (4, [.ref q, g1, g2, g3, g4, g5, g6, g7, g8])), (q, .inl (cI, n, .inl f))] s.heap := hP
  have hD : va_D A [(h0, .inr (4, [.ref q, g1, g2, g3, g4, g5, g6, g7, g8])), (q, .inl (cI, n, .inl f))] := hD
  refine lp_behind hx hb hts hN hown hK h0 q n f g1 g2 g3 g4 g5 g6 g7 g8 ch N hM hL hch hin (fun H locs ls hP hD hS hl => ?_) N 0 _ _ _ (by omega) hP hD hS hl
  refine lv_iload_n hx hb d_Terms_behind_25 rfl (lv_at hl 1 rfl) ?_
  have hP9 := hP.sub (ws' := [(h0, .inr (4, [.ref q, g1, g2, g3, g4, g5, g6, g7, g8])), (q, .inl (cI, n, .inl f))]) [0, 1] rfl
  have hD9 := hD.sub (ws' := [(h0, .inr (4, [.ref q, g1, g2, g3, g4, g5, g6, g7, g8])), (q, .inl (cI, n, .inl f))]) [0, 1] (by decide +kernel) rfl
  refine W.widen (k := 0) (n := 0) (by omega) (by omega) ?_
  exact W.iret (v := (nI (ch N))) hx hb hr (fun t ht hW => ⟨⟨(nI (ch N)), (), rfl, rfl, by rw [ht]; exact hP9, hD9⟩, hS.F ht⟩) hS.2.2 d_Terms_behind_26
abbrev b_Terms_countAll : ByteArray := prog_11_method_29_code
theorem d_Terms_countAll_4 : decode b_Terms_countAll 4 = .ok (.iload_n 2, 1) := by decide +kernel
theorem d_Terms_countAll_5 : decode b_Terms_countAll 5 = .ok (.ldc 37, 2) := by decide +kernel
theorem d_Terms_countAll_7 : decode b_Terms_countAll 7 = .ok (.if_icmp .ge 31, 3) := by decide +kernel
theorem d_Terms_countAll_10 : decode b_Terms_countAll 10 = .ok (.aload_n 0, 1) := by decide +kernel
theorem d_Terms_countAll_11 : decode b_Terms_countAll 11 = .ok (.getfield 11, 3) := by decide +kernel
theorem d_Terms_countAll_14 : decode b_Terms_countAll 14 = .ok (.iload_n 3, 1) := by decide +kernel
theorem d_Terms_countAll_15 : decode b_Terms_countAll 15 = .ok (.iconst 0, 1) := by decide +kernel
theorem d_Terms_countAll_16 : decode b_Terms_countAll 16 = .ok (.iadd, 1) := by decide +kernel
theorem d_Terms_countAll_17 : decode b_Terms_countAll 17 = .ok (.iaload, 1) := by decide +kernel
theorem d_Terms_countAll_18 : decode b_Terms_countAll 18 = .ok (.bipush 6, 2) := by decide +kernel
theorem d_Terms_countAll_20 : decode b_Terms_countAll 20 = .ok (.if_icmp .ne 18, 3) := by decide +kernel
theorem d_Terms_countAll_23 : decode b_Terms_countAll 23 = .ok (.iinc 2 1, 3) := by decide +kernel
theorem d_Terms_countAll_26 : decode b_Terms_countAll 26 = .ok (.aload_n 0, 1) := by decide +kernel
theorem d_Terms_countAll_27 : decode b_Terms_countAll 27 = .ok (.getfield 11, 3) := by decide +kernel
theorem d_Terms_countAll_30 : decode b_Terms_countAll 30 = .ok (.iload_n 3, 1) := by decide +kernel
theorem d_Terms_countAll_31 : decode b_Terms_countAll 31 = .ok (.iconst 3, 1) := by decide +kernel
theorem d_Terms_countAll_32 : decode b_Terms_countAll 32 = .ok (.iadd, 1) := by decide +kernel
theorem d_Terms_countAll_33 : decode b_Terms_countAll 33 = .ok (.iaload, 1) := by decide +kernel
theorem d_Terms_countAll_34 : decode b_Terms_countAll 34 = .ok (.istore_n 3, 1) := by decide +kernel
theorem d_Terms_countAll_35 : decode b_Terms_countAll 35 = .ok (.goto (-31), 3) := by decide +kernel
set_option maxHeartbeats 2000000 in
set_option maxRecDepth 100000 in
theorem lp_countAll {p : Program} {l : Launch} {e : Env} {R : Room} {s : State} {m : MethodId} {args : Array Value} {below : List Frame} {meth : Method} {c : Code} {H0 : Heap} {cells slots : Nat} {Q : State → Prop} {A : Nat → Prop} {D : va_G} {cI cB cZ cS : ClassId} (hx : p.tables.exec = Jvm.exec) (hb : c.code = b_Terms_countAll) (hts : ∀ w ∈ zw, w.before args s = true) (hN : zN s) (hown : s.vm.findClass "ProofDesk$Terms" = some m.cls) (hK : va_K D zcl (zty cI cB cZ cS) s) (h0 : Nat) (q : Nat) (n : Nat) (f : Nat → Int32) (g1 : Value) (g2 : Value) (g3 : Value) (g4 : Value) (g5 : Value) (g6 : Value) (g7 : Value) (g8 : Value) (ch : Nat → Nat) (N : Nat) (hM : n ≤ 33554432) (hL : N < 268435456) (hk : ∀ j, j < N → f (ch j + 0) = 6) (hz : ¬ f (ch N + 0) = 6) (hch : ∀ j, j < N → f (ch j + 3) = nI (ch (j + 1))) (hin : ∀ j, j ≤ N → ch j + 3 < n)
    (kk : ∀ (H : Heap) (locs : List Loc) (ls : Array Slot), va_P D zcl [(h0, .inr (4, [.ref q, g1, g2, g3, g4, g5, g6, g7, g8])), (q, .inl (cI, n, .inl f))] H → va_D A [(h0, .inr (4, [.ref q, g1, g2, g3, g4, g5, g6, g7, g8])), (q, .inl (cI, n, .inl f))] → va_S A H0 H locs → lv_has ls 4 [(3, .int (nI (ch N))), (2, .int (nI N)), (0, .ref h0), (1, .int (nI (ch 0)))] → W p l e R s m args below meth c H locs cells slots Q (F0 m 38 ls [])) :
    ∀ (d j : Nat) (H : Heap) (locs : List Loc) (ls : Array Slot), j + d = N → va_P D zcl [(h0, .inr (4, [.ref q, g1, g2, g3, g4, g5, g6, g7, g8])), (q, .inl (cI, n, .inl f))] H → va_D A [(h0, .inr (4, [.ref q, g1, g2, g3, g4, g5, g6, g7, g8])), (q, .inl (cI, n, .inl f))] → va_S A H0 H locs → lv_has ls 4 [(3, .int (nI (ch j))), (2, .int (nI j)), (0, .ref h0), (1, .int (nI (ch 0)))] → W p l e R s m args below meth c H locs cells slots Q (F0 m 4 ls []) := by
  intro d
  induction d with
  | zero =>
    intro j H locs ls hj hP hD hS hl
    obtain rfl : N = j := by omega
    have hl : lv_has ls 4 [(3, .int (nI (ch N))), (2, .int (nI N)), (0, .ref h0), (1, .int (nI (ch 0)))] := hl
    refine lv_iload_n hx hb d_Terms_countAll_4 rfl (lv_at hl 1 rfl) ?_
    refine lv_ldc (v := 268435456) hx hb hown (hts _ kw_746) d_Terms_countAll_5 ?_
    have hc_1 : ¬ (268435456 : Int32) ≤ (nI N) := show ¬ nI 268435456 ≤ nI N from nI_ge (by omega) (by omega)
    refine lv_icmp_ge hx hb d_Terms_countAll_7 rfl (fun h => absurd h hc_1) (fun _ => ?_)
    refine lv_aload_n hx hb d_Terms_countAll_10 rfl (lv_at hl 2 rfl) ?_
    refine va_get (D := D) (ci := 4) (v := .ref q) (C := "ProofDesk$Terms") (T := F_Terms) (N := 9) hx hb hts in_Terms hown hK hP 0 rfl rfl 0 (by decide) (hts _ kw_174) (fun _ h9 => h9) rfl d_Terms_countAll_11 ?_
    refine lv_iload_n hx hb d_Terms_countAll_14 rfl (lv_at hl 0 rfl) ?_
    refine lv_iconst (v := 0) hx hb d_Terms_countAll_15 (by decide) ?_
    refine lv_iadd hx hb d_Terms_countAll_16 ?_
    refine zz_i (y := nI (ch N + 0)) (nI_add (ch N) 0) ?_
    refine zz_iald (v := (f (ch N + 0))) hx hb hK hP 1 0 rfl rfl (i := (nI (ch N + 0))) (ch N + 0) (zix_nI (by have h9 := hin N (by omega); omega) (by omega)) (rfl) d_Terms_countAll_17 ?_
    refine lv_bipush (v := 6) hx hb d_Terms_countAll_18 (by decide) ?_
    have hc_2 : ¬ ((f (ch N + 0)) : Int32) = 6 := hz
    refine lv_icmp_ne hx hb d_Terms_countAll_20 rfl (fun _ => ?_) (fun h => absurd h hc_2)
    exact kk H locs ls hP hD hS hl
  | succ d ih =>
    intro j H locs ls hj hP hD hS hl
    have hl : lv_has ls 4 [(3, .int (nI (ch j))), (2, .int (nI j)), (0, .ref h0), (1, .int (nI (ch 0)))] := hl
    refine lv_iload_n hx hb d_Terms_countAll_4 rfl (lv_at hl 1 rfl) ?_
    refine lv_ldc (v := 268435456) hx hb hown (hts _ kw_746) d_Terms_countAll_5 ?_
    have hc_1 : ¬ (268435456 : Int32) ≤ (nI j) := show ¬ nI 268435456 ≤ nI j from nI_ge (by omega) (by omega)
    refine lv_icmp_ge hx hb d_Terms_countAll_7 rfl (fun h => absurd h hc_1) (fun _ => ?_)
    refine lv_aload_n hx hb d_Terms_countAll_10 rfl (lv_at hl 2 rfl) ?_
    refine va_get (D := D) (ci := 4) (v := .ref q) (C := "ProofDesk$Terms") (T := F_Terms) (N := 9) hx hb hts in_Terms hown hK hP 0 rfl rfl 0 (by decide) (hts _ kw_174) (fun _ h9 => h9) rfl d_Terms_countAll_11 ?_
    refine lv_iload_n hx hb d_Terms_countAll_14 rfl (lv_at hl 0 rfl) ?_
    refine lv_iconst (v := 0) hx hb d_Terms_countAll_15 (by decide) ?_
    refine lv_iadd hx hb d_Terms_countAll_16 ?_
    refine zz_i (y := nI (ch j + 0)) (nI_add (ch j) 0) ?_
    refine zz_iald (v := (f (ch j + 0))) hx hb hK hP 1 0 rfl rfl (i := (nI (ch j + 0))) (ch j + 0) (zix_nI (by have h9 := hin j (by omega); omega) (by omega)) (rfl) d_Terms_countAll_17 ?_
    refine lv_bipush (v := 6) hx hb d_Terms_countAll_18 (by decide) ?_
    have hc_2 : ((f (ch j + 0)) : Int32) = 6 := hk j (by omega)
    refine lv_icmp_ne hx hb d_Terms_countAll_20 rfl (fun h => absurd hc_2 h) (fun _ => ?_)
    refine lv_iinc (k := 1) (v := (nI (j + 1))) (lv' := [(2, .int (nI (j + 1))), (3, .int (nI (ch j))), (0, .ref h0), (1, .int (nI (ch 0)))]) hx hb d_Terms_countAll_23 hl rfl (nI_1 j) (by decide) rfl (fun ls hl => ?_)
    refine lv_aload_n hx hb d_Terms_countAll_26 rfl (lv_at hl 2 rfl) ?_
    refine va_get (D := D) (ci := 4) (v := .ref q) (C := "ProofDesk$Terms") (T := F_Terms) (N := 9) hx hb hts in_Terms hown hK hP 0 rfl rfl 0 (by decide) (hts _ kw_174) (fun _ h9 => h9) rfl d_Terms_countAll_27 ?_
    refine lv_iload_n hx hb d_Terms_countAll_30 rfl (lv_at hl 1 rfl) ?_
    refine lv_iconst (v := 3) hx hb d_Terms_countAll_31 (by decide) ?_
    refine lv_iadd hx hb d_Terms_countAll_32 ?_
    refine zz_i (y := nI (ch j + 3)) (nI_add (ch j) 3) ?_
    refine zz_iald (v := (nI (ch (j + 1)))) hx hb hK hP 1 0 rfl rfl (i := (nI (ch j + 3))) (ch j + 3) (zix_nI (hin j (by omega)) (by omega)) (hch j (by omega)) d_Terms_countAll_33 ?_
    refine lv_istore_n (lv' := [(3, .int (nI (ch (j + 1)))), (2, .int (nI (j + 1))), (0, .ref h0), (1, .int (nI (ch 0)))]) hx hb d_Terms_countAll_34 rfl hl (by decide) rfl (fun ls hl => ?_)
    refine lv_goto hx hb d_Terms_countAll_35 rfl ?_
    have hl : lv_has ls 4 [(3, .int (nI (ch (j + 1)))), (2, .int (nI (j + 1))), (0, .ref h0), (1, .int (nI (ch 0)))] := lv_sub hl [0, 1, 2, 3] rfl
    exact ih (j + 1) H locs ls (by omega) hP hD hS hl
abbrev y_Terms_countAll : MethodName := ⟨"ProofDesk$Terms", "countAll", "(I)I"⟩
theorem d_Terms_countAll_0 : decode b_Terms_countAll 0 = .ok (.iconst 0, 1) := by decide +kernel
theorem d_Terms_countAll_1 : decode b_Terms_countAll 1 = .ok (.istore_n 2, 1) := by decide +kernel
theorem d_Terms_countAll_2 : decode b_Terms_countAll 2 = .ok (.iload_n 1, 1) := by decide +kernel
theorem d_Terms_countAll_3 : decode b_Terms_countAll 3 = .ok (.istore_n 3, 1) := by decide +kernel
theorem d_Terms_countAll_38 : decode b_Terms_countAll 38 = .ok (.iload_n 2, 1) := by decide +kernel
theorem d_Terms_countAll_39 : decode b_Terms_countAll 39 = .ok (.ireturn, 1) := by decide +kernel
set_option maxHeartbeats 4000000 in
set_option maxRecDepth 100000 in
theorem g_Terms_countAll (l : Launch) (D : va_G) (cI cB cZ cS : ClassId) (sz : Nat) (h0 : Nat) (q : Nat) (n : Nat) (f : Nat → Int32) (g1 : Value) (g2 : Value) (g3 : Value) (g4 : Value) (g5 : Value) (g6 : Value) (g7 : Value) (g8 : Value) (ch : Nat → Nat) (N : Nat) (hM : n ≤ 33554432) (hL : N < 268435456) (hk : ∀ j, j < N → f (ch j + 0) = 6) (hz : ¬ f (ch N + 0) = 6) (hch : ∀ j, j < N → f (ch j + 3) = nI (ch (j + 1))) (hin : ∀ j, j ≤ N → ch j + 3 < n) : Met l y_Terms_countAll (zc y_Terms_countAll b_Terms_countAll 4 (some .int)) ({ frames := 0, cells := 0, slots := 0, locals := 0 }) (zPc D (zty cI cB cZ cS) [(h0, .inr (4, [.ref q, g1, g2, g3, g4, g5, g6, g7, g8])), (q, .inl (cI, n, .inl f))] sz [.ref h0, .int (nI (ch 0))]) (va_Qi (fun (r : Int32) (_ : Unit) => r = (nI N)) (fun _ t => va_P D zcl [(h0, .inr (4, [.ref q, g1, g2, g3, g4, g5, g6, g7, g8])), (q, .inl (cI, n, .inl f))] t.heap ∧ va_D (va_A [(h0, .inr (4, [.ref q, g1, g2, g3, g4, g5, g6, g7, g8])), (q, .inl (cI, n, .inl f))] sz) [(h0, .inr (4, [.ref q, g1, g2, g3, g4, g5, g6, g7, g8])), (q, .inl (cI, n, .inl f))]) (va_A [(h0, .inr (4, [.ref q, g1, g2, g3, g4, g5, g6, g7, g8])), (q, .inl (cI, n, .inl f))] sz)) 0 0 (va_A [(h0, .inr (4, [.ref q, g1, g2, g3, g4, g5, g6, g7, g8])), (q, .inl (cI, n, .inl f))] sz) := by
  refine Met.ofW (cc := b_Terms_countAll) (maxL := 4) (ret := (some .int)) (by decide) rfl ?_
  intro p e s m args below meth c s₁ B hml hv
  obtain ⟨rfl, hsz, hP, ⟨hK, hN⟩, hD0⟩ := hv
  have hx := B.exec
  have hb := B.bytes
  have hr := B.returns
  have hts0 := atoms_spec (ws := zc y_Terms_countAll b_Terms_countAll 4 (some .int)) B.pre
  have hts : ∀ w ∈ zw, w.before _ s = true := fun w hw => hts0 w (List.mem_cons_of_mem _ hw)
  have hown : s.vm.findClass "ProofDesk$Terms" = some m.cls := findClass_of_methodNamed B.named
  have hlocks := B.notSynchronized
  subst hsz
  have hD := hD0.self (sz := s.heap.size)
  generalize hAe : va_A [(h0, .inr (4, [.ref q, g1, g2, g3, g4, g5, g6, g7, g8])), (q, .inl (cI, n, .inl f))] s.heap.size = A at hD ⊢
  have hA : ∀ q : Nat, s.heap.size ≤ q → A q := fun q h => by rw [← hAe]; exact Or.inr h
  have hS : va_S A s.heap s.heap [] := va_S.rf
  have hP : va_P D zcl [(h0, .inr (4, [.ref q, g1, g2, g3, g4, g5, g6, g7, g8])), (q, .inl (cI, n, .inl f))] s.heap := hP
  have hl := lv_entry ([.ref h0, .int (nI (ch 0))]) (n := 4) (Nat.le_of_ble_eq_true rfl)
  rw [lg_entry_eq]
  generalize (lg_sl ([.ref h0, .int (nI (ch 0))]) ++ List.replicate (4 - (lg_sl ([.ref h0, .int (nI (ch 0))])).length) Slot.unset).toArray = ls at hl ⊢
  have hl : lv_has ls 4 [(0, .ref h0), (1, .int (nI (ch 0)))] := hl
  refine lv_iconst (v := 0) hx hb d_Terms_countAll_0 (by decide) ?_
  refine lv_istore_n (lv' := [(2, .int 0), (0, .ref h0), (1, .int (nI (ch 0)))]) hx hb d_Terms_countAll_1 rfl hl (by decide) rfl (fun ls hl => ?_)
  refine lv_iload_n hx hb d_Terms_countAll_2 rfl (lv_at hl 2 rfl) ?_
  refine lv_istore_n (lv' := [(3, .int (nI (ch 0))), (2, .int 0), (0, .ref h0), (1, .int (nI (ch 0)))]) hx hb d_Terms_countAll_3 rfl hl (by decide) rfl (fun ls hl => ?_)
  have hl : lv_has ls 4 [(3, .int (nI (ch 0))), (2, .int (nI 0)), (0, .ref h0), (1, .int (nI (ch 0)))] := lv_sub hl [0, 1, 2, 3] rfl
  have hP : va_P D zcl [(h0, .inr (4, [.ref q, g1, g2, g3, g4, g5, g6, g7, g8])), (q, .inl (cI, n, .inl f))] s.heap := hP
  have hD : va_D A [(h0, .inr (4, [.ref q, g1, g2, g3, g4, g5, g6, g7, g8])), (q, .inl (cI, n, .inl f))] := hD
  refine lp_countAll hx hb hts hN hown hK h0 q n f g1 g2 g3 g4 g5 g6 g7 g8 ch N hM hL hk hz hch hin (fun H locs ls hP hD hS hl => ?_) N 0 _ _ _ (by omega) hP hD hS hl
  refine lv_iload_n hx hb d_Terms_countAll_38 rfl (lv_at hl 1 rfl) ?_
  have hP9 := hP.sub (ws' := [(h0, .inr (4, [.ref q, g1, g2, g3, g4, g5, g6, g7, g8])), (q, .inl (cI, n, .inl f))]) [0, 1] rfl
  have hD9 := hD.sub (ws' := [(h0, .inr (4, [.ref q, g1, g2, g3, g4, g5, g6, g7, g8])), (q, .inl (cI, n, .inl f))]) [0, 1] (by decide +kernel) rfl
  refine W.widen (k := 0) (n := 0) (by omega) (by omega) ?_
  exact W.iret (v := (nI N)) hx hb hr (fun t ht hW => ⟨⟨(nI N), (), rfl, rfl, by rw [ht]; exact hP9, hD9⟩, hS.F ht⟩) hS.2.2 d_Terms_countAll_39
