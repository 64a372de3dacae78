theorem zshift {a j s0 : Nat} : nI (a + j) + (nI s0 - nI a) = nI (s0 + j) := by
  apply Int32.toBitVec_inj.1
  show BitVec.ofNat 32 (a + j) + (BitVec.ofNat 32 s0 - BitVec.ofNat 32 a) = BitVec.ofNat 32 (s0 + j)
  apply BitVec.eq_of_toNat_eq
  simp only [BitVec.toNat_add, BitVec.toNat_sub, BitVec.toNat_ofNat]
  omega
abbrev b_Names_isSpelled : ByteArray := prog_5_method_6_code
abbrev y_Names_isSpelled : MethodName := ⟨"ProofDesk$Names", "isSpelled", "(I[BII)Z"⟩
theorem d_Names_isSpelled_0 : decode b_Names_isSpelled 0 = .ok (.aload_n 0, 1) := by decide +kernel
theorem d_Names_isSpelled_1 : decode b_Names_isSpelled 1 = .ok (.iload_n 1, 1) := by decide +kernel
theorem d_Names_isSpelled_2 : decode b_Names_isSpelled 2 = .ok (.invokevirtual 65, 3) := by decide +kernel
theorem kw_113 : (Jvm.Cond.code ({ cls := "ProofDesk$Names", name := "lengthOf", desc := "(I)I" } : Jvm.MethodName) prog_5_method_8_code (2 : Nat) (Option.some Jvm.ClassFile.FieldType.int)) ∈ zw := List.mem_filter.mpr ⟨List.mem_append_right _ (List.mem_of_getElem? (i := 113) rfl), by decide +kernel⟩
theorem kw_110 : (Jvm.Cond.methodLink "ProofDesk$Names" (65 : Nat) ({ cls := "ProofDesk$Names", name := "lengthOf", desc := "(I)I" } : Jvm.MethodName)) ∈ zw := List.mem_filter.mpr ⟨List.mem_append_right _ (List.mem_of_getElem? (i := 110) (by decide +kernel)), by decide +kernel⟩
theorem kw_111 : (Jvm.Cond.instanceMethod ({ cls := "ProofDesk$Names", name := "lengthOf", desc := "(I)I" } : Jvm.MethodName)) ∈ zw := List.mem_filter.mpr ⟨List.mem_append_right _ (List.mem_of_getElem? (i := 111) (by decide +kernel)), by decide +kernel⟩
theorem kw_112 : (Jvm.Cond.selects "ProofDesk$Names" ({ cls := "ProofDesk$Names", name := "lengthOf", desc := "(I)I" } : Jvm.MethodName) ({ cls := "ProofDesk$Names", name := "lengthOf", desc := "(I)I" } : Jvm.MethodName)) ∈ zw := List.mem_filter.mpr ⟨List.mem_append_right _ (List.mem_of_getElem? (i := 112) (by decide +kernel)), by decide +kernel⟩
theorem d_Names_isSpelled_5 : decode b_Names_isSpelled 5 = .ok (.iload 4, 2) := by decide +kernel
theorem d_Names_isSpelled_7 : decode b_Names_isSpelled 7 = .ok (.iload_n 3, 1) := by decide +kernel
theorem d_Names_isSpelled_8 : decode b_Names_isSpelled 8 = .ok (.isub, 1) := by decide +kernel
theorem d_Names_isSpelled_9 : decode b_Names_isSpelled 9 = .ok (.if_icmp .eq 5, 3) := by decide +kernel
theorem d_Names_isSpelled_12 : decode b_Names_isSpelled 12 = .ok (.iconst 0, 1) := by decide +kernel
theorem d_Names_isSpelled_13 : decode b_Names_isSpelled 13 = .ok (.ireturn, 1) := by decide +kernel
set_option maxHeartbeats 4000000 in
set_option maxRecDepth 100000 in
theorem g_Names_isSpelledL (l : Launch) (D : va_G) (cI cB cZ cS : ClassId) (sz : Nat) (h0 : Nat) (lt : Nat) (q : Nat) (fa : Nat) (n : Nat) (f : Nat → Int32) (nl : Nat) (lf : Nat → Int32) (nf : Nat) (gf : Nat → Int32) (g1 : Value) (g3 : Value) (g4 : Value) (g5 : Value) (x : Nat) (a : Nat) (M : Nat) (s0 : Nat) (N : Nat) (hM : n ≤ 33554432 ∧ nl ≤ 33554432 ∧ nf ≤ 33554432) (hr9 : 7 * x + 6 < n) (hs9 : s0 + M ≤ nl) (ha9 : a + M ≤ nf) (hN9 : N ≤ M) (heq : ∀ j, j < N → lf (s0 + j) = gf (a + j)) (hlen : ¬ f (7 * x + 1) = nI M) : Met l y_Names_isSpelled (zc y_Names_isSpelled b_Names_isSpelled 7 (some .boolean)) ({ frames := 1, cells := 0, slots := 0, locals := 21 }) (zPc D (zty cI cB cZ cS) [(h0, .inr (2, [.ref lt, g1, .ref q, g3, g4, g5])), (q, .inl (cI, n, .inl f)), (lt, .inl (cB, nl, .inl lf)), (fa, .inl (cB, nf, .inl gf))] sz [.ref h0, .int (nI x), .ref fa, .int (nI a), .int (nI (a + M))]) (va_Qi (fun (r : Int32) (_ : Unit) => r = 0) (fun _ t => va_P D zcl [(h0, .inr (2, [.ref lt, g1, .ref q, g3, g4, g5])), (q, .inl (cI, n, .inl f)), (lt, .inl (cB, nl, .inl lf)), (fa, .inl (cB, nf, .inl gf))] t.heap ∧ va_D (va_A [(h0, .inr (2, [.ref lt, g1, .ref q, g3, g4, g5])), (q, .inl (cI, n, .inl f)), (lt, .inl (cB, nl, .inl lf)), (fa, .inl (cB, nf, .inl gf))] sz) [(h0, .inr (2, [.ref lt, g1, .ref q, g3, g4, g5])), (q, .inl (cI, n, .inl f)), (lt, .inl (cB, nl, .inl lf)), (fa, .inl (cB, nf, .inl gf))]) (va_A [(h0, .inr (2, [.ref lt, g1, .ref q, g3, g4, g5])), (q, .inl (cI, n, .inl f)), (lt, .inl (cB, nl, .inl lf)), (fa, .inl (cB, nf, .inl gf))] sz)) 0 0 (va_A [(h0, .inr (2, [.ref lt, g1, .ref q, g3, g4, g5])), (q, .inl (cI, n, .inl f)), (lt, .inl (cB, nl, .inl lf)), (fa, .inl (cB, nf, .inl gf))] sz) := by
  refine Met.ofW (cc := b_Names_isSpelled) (maxL := 7) (ret := (some .boolean)) (by decide) rfl ?_
  intro p e s m args below meth c s₁ B hml hv
  obtain ⟨rfl, hsz, hP, ⟨hK, hN⟩, hD0⟩ := hv
  have hx := B.exec
  have hb := B.bytes
  have hr := B.returns
  have hts0 := atoms_spec (ws := zc y_Names_isSpelled b_Names_isSpelled 7 (some .boolean)) B.pre
  have hts : ∀ w ∈ zw, w.before _ s = true := fun w hw => hts0 w (List.mem_cons_of_mem _ hw)
  have hown : s.vm.findClass "ProofDesk$Names" = some m.cls := findClass_of_methodNamed B.named
  have hlocks := B.notSynchronized
  subst hsz
  have hD := hD0.self (sz := s.heap.size)
  generalize hAe : va_A [(h0, .inr (2, [.ref lt, g1, .ref q, g3, g4, g5])), (q, .inl (cI, n, .inl f)), (lt, .inl (cB, nl, .inl lf)), (fa, .inl (cB, nf, .inl gf))] s.heap.size = A at hD ⊢
  have hA : ∀ q : Nat, s.heap.size ≤ q → A q := fun q h => by rw [← hAe]; exact Or.inr h
  have hS : va_S A s.heap s.heap [] := va_S.rf
  have hP : va_P D zcl [(h0, .inr (2, [.ref lt, g1, .ref q, g3, g4, g5])), (q, .inl (cI, n, .inl f)), (lt, .inl (cB, nl, .inl lf)), (fa, .inl (cB, nf, .inl gf))] s.heap := hP
  have hl := lv_entry ([.ref h0, .int (nI x), .ref fa, .int (nI a), .int (nI (a + M))]) (n := 7) (Nat.le_of_ble_eq_true rfl)
  rw [lg_entry_eq]
  generalize (lg_sl ([.ref h0, .int (nI x), .ref fa, .int (nI a), .int (nI (a + M))]) ++ List.replicate (7 - (lg_sl ([.ref h0, .int (nI x), .ref fa, .int (nI a), .int (nI (a + M))])).length) Slot.unset).toArray = ls at hl ⊢
  have hl : lv_has ls 7 [(0, .ref h0), (1, .int (nI x)), (2, .ref fa), (3, .int (nI a)), (4, .int (nI (a + M)))] := hl
  refine lv_aload_n hx hb d_Names_isSpelled_0 rfl (lv_at hl 0 rfl) ?_
  refine lv_iload_n hx hb d_Names_isSpelled_1 rfl (lv_at hl 1 rfl) ?_
  have hPc := hP.sub (ws' := [(h0, .inr (2, [.ref lt, g1, .ref q, g3, g4, g5])), (q, .inl (cI, n, .inl f))]) [0, 1] rfl
  have hDc := hD.sub (ws' := [(h0, .inr (2, [.ref lt, g1, .ref q, g3, g4, g5])), (q, .inl (cI, n, .inl f))]) [0, 1] (by decide +kernel) rfl
  have hFc := va_free (wc := [(h0, .inr (2, [.ref lt, g1, .ref q, g3, g4, g5])), (q, .inl (cI, n, .inl f))]) hD hS hA [0, 1] rfl
  have hkc : 0 + 0 ≤ 0 := by omega
  have hks : 0 + 0 ≤ 0 := by omega
  refine va_calli (va_runV (As := [.int (nI x)]) (rest := []) ⟨hx, hb, hml, hown, hts⟩ (g_Names_lengthOf l D cI cB cZ cS s.heap.size h0 q n f (.ref lt) g1 g3 g4 g5 x (by omega) (by omega)) (⟨callB_of 1 hts (zgood kw_113) rfl rfl rfl (hts _ kw_4) (hts _ kw_110) (by decide +kernel) ⟨Nat.le_of_ble_eq_true rfl, Nat.le_of_ble_eq_true rfl⟩, hts _ kw_111, hts _ kw_112⟩) (zPreV hPc hK hN hDc (va_recv (q := ("ProofDesk$Names", F_Names, 6)) hK hP rfl (q0 := 0) rfl)) rfl rfl hl.1 rfl (lv_room (Nat.le_of_ble_eq_true rfl)) d_Names_isSpelled_2 ⟨hkc, hks⟩) hS (fun q _ h => hFc q h) hFc (fun r u t H1 locs ht hvm hw hB hz1 hk1 hS => ?_)
  obtain ⟨hP1, hD1⟩ := hB
  rw [ht] at hP1
  obtain ⟨hP, hD⟩ := va_join (wr := [(lt, .inl (cB, nl, .inl lf)), (fa, .inl (cB, nf, .inl gf))]) (w1 := [(h0, .inr (2, [.ref lt, g1, .ref q, g3, g4, g5])), (q, .inl (cI, n, .inl f))]) hP hD [0, 1] [2, 3] rfl rfl (by decide +kernel) (by decide +kernel) hk1 hFc hP1 hD1
  generalize H1 = H at hP hS ⊢
  have hP : va_P D zcl [(lt, .inl (cB, nl, .inl lf)), (fa, .inl (cB, nf, .inl gf)), (h0, .inr (2, [.ref lt, g1, .ref q, g3, g4, g5])), (q, .inl (cI, n, .inl f))] H := hP
  have hD : va_D A [(lt, .inl (cB, nl, .inl lf)), (fa, .inl (cB, nf, .inl gf)), (h0, .inr (2, [.ref lt, g1, .ref q, g3, g4, g5])), (q, .inl (cI, n, .inl f))] := hD
  subst hw
  refine W.widen (k := 0) (n := 0) (by omega) (by omega) ?_
  refine lv_iload hx hb d_Names_isSpelled_5 (lv_at hl 4 rfl) ?_
  refine lv_iload_n hx hb d_Names_isSpelled_7 rfl (lv_at hl 3 rfl) ?_
  refine lv_isub hx hb d_Names_isSpelled_8 ?_
  refine zz_i (y := nI ((a + M) - a)) (pk_sub (by omega)) ?_
  have hc_1 : ¬ ((f (7 * x + 1)) : Int32) = (nI ((a + M) - a)) := by rw [Nat.add_sub_cancel_left]; exact hlen
  refine lv_icmp_eq hx hb d_Names_isSpelled_9 rfl (fun h => absurd h hc_1) (fun _ => ?_)
  refine lv_iconst (v := 0) hx hb d_Names_isSpelled_12 (by decide) ?_
  have hP9 := hP.sub (ws' := [(h0, .inr (2, [.ref lt, g1, .ref q, g3, g4, g5])), (q, .inl (cI, n, .inl f)), (lt, .inl (cB, nl, .inl lf)), (fa, .inl (cB, nf, .inl gf))]) [2, 3, 0, 1] rfl
  have hD9 := hD.sub (ws' := [(h0, .inr (2, [.ref lt, g1, .ref q, g3, g4, g5])), (q, .inl (cI, n, .inl f)), (lt, .inl (cB, nl, .inl lf)), (fa, .inl (cB, nf, .inl gf))]) [2, 3, 0, 1] (by decide +kernel) rfl
  refine W.widen (k := 0) (n := 0) (by omega) (by omega) ?_
  exact W.zret (v := 0) hx hb hr rfl (fun t ht hW => ⟨⟨0, (), rfl, rfl, by rw [ht]; exact hP9, hD9⟩, hS.F ht⟩) hS.2.2 d_Names_isSpelled_13
theorem d_Names_isSpelled_32 : decode b_Names_isSpelled 32 = .ok (.iload 6, 2) := by decide +kernel
theorem d_Names_isSpelled_34 : decode b_Names_isSpelled 34 = .ok (.iload 4, 2) := by decide +kernel
theorem d_Names_isSpelled_36 : decode b_Names_isSpelled 36 = .ok (.if_icmp .ge 28, 3) := by decide +kernel
theorem d_Names_isSpelled_39 : decode b_Names_isSpelled 39 = .ok (.aload_n 0, 1) := by decide +kernel
theorem d_Names_isSpelled_40 : decode b_Names_isSpelled 40 = .ok (.getfield 9, 3) := by decide +kernel
theorem d_Names_isSpelled_43 : decode b_Names_isSpelled 43 = .ok (.iload 6, 2) := by decide +kernel
theorem d_Names_isSpelled_45 : decode b_Names_isSpelled 45 = .ok (.iload 5, 2) := by decide +kernel
theorem d_Names_isSpelled_47 : decode b_Names_isSpelled 47 = .ok (.iadd, 1) := by decide +kernel
theorem d_Names_isSpelled_48 : decode b_Names_isSpelled 48 = .ok (.baload, 1) := by decide +kernel
theorem d_Names_isSpelled_49 : decode b_Names_isSpelled 49 = .ok (.aload_n 2, 1) := by decide +kernel
theorem d_Names_isSpelled_50 : decode b_Names_isSpelled 50 = .ok (.iload 6, 2) := by decide +kernel
theorem d_Names_isSpelled_52 : decode b_Names_isSpelled 52 = .ok (.baload, 1) := by decide +kernel
theorem d_Names_isSpelled_53 : decode b_Names_isSpelled 53 = .ok (.if_icmp .eq 5, 3) := by decide +kernel
theorem d_Names_isSpelled_58 : decode b_Names_isSpelled 58 = .ok (.iinc 6 1, 3) := by decide +kernel
theorem d_Names_isSpelled_61 : decode b_Names_isSpelled 61 = .ok (.goto (-29), 3) := by decide +kernel
set_option maxHeartbeats 2000000 in
set_option maxRecDepth 100000 in
theorem lp_isSpelledY {p : Program} {l : Launch} {e : Env} {R : Room} {s : State} {m : MethodId} {args : Array Value} {below : List Frame} {meth : Method} {c : Code} {H0 : Heap} {cells slots : Nat} {Q : State → Prop} {A : Nat → Prop} {D : va_G} {cI cB cZ cS : ClassId} (hx : p.tables.exec = Jvm.exec) (hb : c.code = b_Names_isSpelled) (hts : ∀ w ∈ zw, w.before args s = true) (hN : zN s) (hown : s.vm.findClass "ProofDesk$Names" = some m.cls) (hK : va_K D zcl (zty cI cB cZ cS) s) (h0 : Nat) (lt : Nat) (q : Nat) (fa : Nat) (n : Nat) (f : Nat → Int32) (nl : Nat) (lf : Nat → Int32) (nf : Nat) (gf : Nat → Int32) (g1 : Value) (g3 : Value) (g4 : Value) (g5 : Value) (x : Nat) (a : Nat) (M : Nat) (s0 : Nat) (N : Nat) (hM : n ≤ 33554432 ∧ nl ≤ 33554432 ∧ nf ≤ 33554432) (hr9 : 7 * x + 6 < n) (hs9 : s0 + M ≤ nl) (ha9 : a + M ≤ nf) (hN9 : N ≤ M) (heq : ∀ j, j < N → lf (s0 + j) = gf (a + j)) (hz : N = M)
    (kk : ∀ (H : Heap) (locs : List Loc) (ls : Array Slot), va_P D zcl [(h0, .inr (2, [.ref lt, g1, .ref q, g3, g4, g5])), (q, .inl (cI, n, .inl f)), (lt, .inl (cB, nl, .inl lf)), (fa, .inl (cB, nf, .inl gf))] H → va_D A [(h0, .inr (2, [.ref lt, g1, .ref q, g3, g4, g5])), (q, .inl (cI, n, .inl f)), (lt, .inl (cB, nl, .inl lf)), (fa, .inl (cB, nf, .inl gf))] → va_S A H0 H locs → lv_has ls 7 [(6, .int (nI (a + N))), (5, .int (nI s0 - nI a)), (0, .ref h0), (1, .int (nI x)), (2, .ref fa), (3, .int (nI a)), (4, .int (nI (a + M)))] → W p l e R s m args below meth c H locs cells slots Q (F0 m 64 ls [])) :
    ∀ (d j : Nat) (H : Heap) (locs : List Loc) (ls : Array Slot), j + d = N → va_P D zcl [(h0, .inr (2, [.ref lt, g1, .ref q, g3, g4, g5])), (q, .inl (cI, n, .inl f)), (lt, .inl (cB, nl, .inl lf)), (fa, .inl (cB, nf, .inl gf))] H → va_D A [(h0, .inr (2, [.ref lt, g1, .ref q, g3, g4, g5])), (q, .inl (cI, n, .inl f)), (lt, .inl (cB, nl, .inl lf)), (fa, .inl (cB, nf, .inl gf))] → va_S A H0 H locs → lv_has ls 7 [(6, .int (nI (a + j))), (5, .int (nI s0 - nI a)), (0, .ref h0), (1, .int (nI x)), (2, .ref fa), (3, .int (nI a)), (4, .int (nI (a + M)))] → W p l e R s m args below meth c H locs cells slots Q (F0 m 32 ls []) := by
  intro d
  induction d with
  | zero =>
    intro j H locs ls hj hP hD hS hl
    obtain rfl : N = j := by omega
    have hl : lv_has ls 7 [(6, .int (nI (a + N))), (5, .int (nI s0 - nI a)), (0, .ref h0), (1, .int (nI x)), (2, .ref fa), (3, .int (nI a)), (4, .int (nI (a + M)))] := hl
    refine lv_iload hx hb d_Names_isSpelled_32 (lv_at hl 0 rfl) ?_
    refine lv_iload hx hb d_Names_isSpelled_34 (lv_at hl 6 rfl) ?_
    have hc_1 : ((nI (a + M)) : Int32) ≤ (nI (a + N)) := nI_le (by omega) (by omega)
    refine lv_icmp_ge hx hb d_Names_isSpelled_36 rfl (fun _ => ?_) (fun h => absurd hc_1 h)
    exact kk H locs ls hP hD hS hl
  | succ d ih =>
    intro j H locs ls hj hP hD hS hl
    have hl : lv_has ls 7 [(6, .int (nI (a + j))), (5, .int (nI s0 - nI a)), (0, .ref h0), (1, .int (nI x)), (2, .ref fa), (3, .int (nI a)), (4, .int (nI (a + M)))] := hl
    refine lv_iload hx hb d_Names_isSpelled_32 (lv_at hl 0 rfl) ?_
    refine lv_iload hx hb d_Names_isSpelled_34 (lv_at hl 6 rfl) ?_
    have hc_1 : ¬ ((nI (a + M)) : Int32) ≤ (nI (a + j)) := nI_ge (by omega) (by omega)
    refine lv_icmp_ge hx hb d_Names_isSpelled_36 rfl (fun h => absurd h hc_1) (fun _ => ?_)
    refine lv_aload_n hx hb d_Names_isSpelled_39 rfl (lv_at hl 2 rfl) ?_
    refine va_get (D := D) (ci := 2) (v := .ref lt) (C := "ProofDesk$Names") (T := F_Names) (N := 6) hx hb hts in_Names hown hK hP 0 rfl rfl 0 (by decide) (hts _ kw_143) (fun _ h9 => h9) rfl d_Names_isSpelled_40 ?_
    refine lv_iload hx hb d_Names_isSpelled_43 (lv_at hl 0 rfl) ?_
    refine lv_iload hx hb d_Names_isSpelled_45 (lv_at hl 1 rfl) ?_
    refine lv_iadd hx hb d_Names_isSpelled_47 ?_
    refine zz_i (y := nI (s0 + j)) (zshift) ?_
    refine zz_bald (v := (lf (s0 + j))) hx hb hK hP 2 1 rfl rfl (i := (nI (s0 + j))) (s0 + j) (zix_nI (by omega) (by omega)) (rfl) d_Names_isSpelled_48 ?_
    refine lv_aload_n hx hb d_Names_isSpelled_49 rfl (lv_at hl 4 rfl) ?_
    refine lv_iload hx hb d_Names_isSpelled_50 (lv_at hl 0 rfl) ?_
    refine zz_bald (v := (gf (a + j))) hx hb hK hP 3 1 rfl rfl (i := (nI (a + j))) (a + j) (zix_nI (by omega) (by omega)) (rfl) d_Names_isSpelled_52 ?_
    have hc_2 : ((lf (s0 + j)) : Int32) = (gf (a + j)) := heq j (by omega)
    refine lv_icmp_eq hx hb d_Names_isSpelled_53 rfl (fun _ => ?_) (fun h => absurd hc_2 h)
    refine lv_iinc (k := 0) (v := (nI (a + (j + 1)))) (lv' := [(6, .int (nI (a + (j + 1)))), (5, .int (nI s0 - nI a)), (0, .ref h0), (1, .int (nI x)), (2, .ref fa), (3, .int (nI a)), (4, .int (nI (a + M)))]) hx hb d_Names_isSpelled_58 hl rfl (nI_1 (a + j)) (by decide) rfl (fun ls hl => ?_)
    refine lv_goto hx hb d_Names_isSpelled_61 rfl ?_
    have hl : lv_has ls 7 [(6, .int (nI (a + (j + 1)))), (5, .int (nI s0 - nI a)), (0, .ref h0), (1, .int (nI x)), (2, .ref fa), (3, .int (nI a)), (4, .int (nI (a + M)))] := lv_sub hl [0, 1, 2, 3, 4, 5, 6] rfl
    exact ih (j + 1) H locs ls (by omega) hP hD hS hl
theorem d_Names_isSpelled_14 : decode b_Names_isSpelled 14 = .ok (.aload_n 0, 1) := by decide +kernel
theorem d_Names_isSpelled_15 : decode b_Names_isSpelled 15 = .ok (.getfield 15, 3) := by decide +kernel
theorem d_Names_isSpelled_18 : decode b_Names_isSpelled 18 = .ok (.bipush 7, 2) := by decide +kernel
theorem d_Names_isSpelled_20 : decode b_Names_isSpelled 20 = .ok (.iload_n 1, 1) := by decide +kernel
theorem d_Names_isSpelled_21 : decode b_Names_isSpelled 21 = .ok (.imul, 1) := by decide +kernel
theorem d_Names_isSpelled_22 : decode b_Names_isSpelled 22 = .ok (.iconst 0, 1) := by decide +kernel
theorem d_Names_isSpelled_23 : decode b_Names_isSpelled 23 = .ok (.iadd, 1) := by decide +kernel
theorem d_Names_isSpelled_24 : decode b_Names_isSpelled 24 = .ok (.iaload, 1) := by decide +kernel
theorem d_Names_isSpelled_25 : decode b_Names_isSpelled 25 = .ok (.iload_n 3, 1) := by decide +kernel
theorem d_Names_isSpelled_26 : decode b_Names_isSpelled 26 = .ok (.isub, 1) := by decide +kernel
theorem d_Names_isSpelled_27 : decode b_Names_isSpelled 27 = .ok (.istore 5, 2) := by decide +kernel
theorem d_Names_isSpelled_29 : decode b_Names_isSpelled 29 = .ok (.iload_n 3, 1) := by decide +kernel
theorem d_Names_isSpelled_30 : decode b_Names_isSpelled 30 = .ok (.istore 6, 2) := by decide +kernel
theorem d_Names_isSpelled_64 : decode b_Names_isSpelled 64 = .ok (.iconst 1, 1) := by decide +kernel
theorem d_Names_isSpelled_65 : decode b_Names_isSpelled 65 = .ok (.ireturn, 1) := by decide +kernel
set_option maxHeartbeats 4000000 in
set_option maxRecDepth 100000 in
theorem g_Names_isSpelledY (l : Launch) (D : va_G) (cI cB cZ cS : ClassId) (sz : Nat) (h0 : Nat) (lt : Nat) (q : Nat) (fa : Nat) (n : Nat) (f : Nat → Int32) (nl : Nat) (lf : Nat → Int32) (nf : Nat) (gf : Nat → Int32) (g1 : Value) (g3 : Value) (g4 : Value) (g5 : Value) (x : Nat) (a : Nat) (M : Nat) (s0 : Nat) (N : Nat) (hM : n ≤ 33554432 ∧ nl ≤ 33554432 ∧ nf ≤ 33554432) (hr9 : 7 * x + 6 < n) (hs9 : s0 + M ≤ nl) (ha9 : a + M ≤ nf) (hN9 : N ≤ M) (heq : ∀ j, j < N → lf (s0 + j) = gf (a + j)) (hz : N = M) (hlen : f (7 * x + 1) = nI M) (hst : f (7 * x + 0) = nI s0) : Met l y_Names_isSpelled (zc y_Names_isSpelled b_Names_isSpelled 7 (some .boolean)) ({ frames := 1, cells := 0, slots := 0, locals := 21 }) (zPc D (zty cI cB cZ cS) [(h0, .inr (2, [.ref lt, g1, .ref q, g3, g4, g5])), (q, .inl (cI, n, .inl f)), (lt, .inl (cB, nl, .inl lf)), (fa, .inl (cB, nf, .inl gf))] sz [.ref h0, .int (nI x), .ref fa, .int (nI a), .int (nI (a + M))]) (va_Qi (fun (r : Int32) (_ : Unit) => r = 1) (fun _ t => va_P D zcl [(h0, .inr (2, [.ref lt, g1, .ref q, g3, g4, g5])), (q, .inl (cI, n, .inl f)), (lt, .inl (cB, nl, .inl lf)), (fa, .inl (cB, nf, .inl gf))] t.heap ∧ va_D (va_A [(h0, .inr (2, [.ref lt, g1, .ref q, g3, g4, g5])), (q, .inl (cI, n, .inl f)), (lt, .inl (cB, nl, .inl lf)), (fa, .inl (cB, nf, .inl gf))] sz) [(h0, .inr (2, [.ref lt, g1, .ref q, g3, g4, g5])), (q, .inl (cI, n, .inl f)), (lt, .inl (cB, nl, .inl lf)), (fa, .inl (cB, nf, .inl gf))]) (va_A [(h0, .inr (2, [.ref lt, g1, .ref q, g3, g4, g5])), (q, .inl (cI, n, .inl f)), (lt, .inl (cB, nl, .inl lf)), (fa, .inl (cB, nf, .inl gf))] sz)) 0 0 (va_A [(h0, .inr (2, [.ref lt, g1, .ref q, g3, g4, g5])), (q, .inl (cI, n, .inl f)), (lt, .inl (cB, nl, .inl lf)), (fa, .inl (cB, nf, .inl gf))] sz) := by
  refine Met.ofW (cc := b_Names_isSpelled) (maxL := 7) (ret := (some .boolean)) (by decide) rfl ?_
  intro p e s m args below meth c s₁ B hml hv
  obtain ⟨rfl, hsz, hP, ⟨hK, hN⟩, hD0⟩ := hv
  have hx := B.exec
  have hb := B.bytes
  have hr := B.returns
  have hts0 := atoms_spec (ws := zc y_Names_isSpelled b_Names_isSpelled 7 (some .boolean)) B.pre
  have hts : ∀ w ∈ zw, w.before _ s = true := fun w hw => hts0 w (List.mem_cons_of_mem _ hw)
  have hown : s.vm.findClass "ProofDesk$Names" = some m.cls := findClass_of_methodNamed B.named
  have hlocks := B.notSynchronized
  subst hsz
  have hD := hD0.self (sz := s.heap.size)
  generalize hAe : va_A [(h0, .inr (2, [.ref lt, g1, .ref q, g3, g4, g5])), (q, .inl (cI, n, .inl f)), (lt, .inl (cB, nl, .inl lf)), (fa, .inl (cB, nf, .inl gf))] s.heap.size = A at hD ⊢
  have hA : ∀ q : Nat, s.heap.size ≤ q → A q := fun q h => by rw [← hAe]; exact Or.inr h
  have hS : va_S A s.heap s.heap [] := va_S.rf
  have hP : va_P D zcl [(h0, .inr (2, [.ref lt, g1, .ref q, g3, g4, g5])), (q, .inl (cI, n, .inl f)), (lt, .inl (cB, nl, .inl lf)), (fa, .inl (cB, nf, .inl gf))] s.heap := hP
  have hl := lv_entry ([.ref h0, .int (nI x), .ref fa, .int (nI a), .int (nI (a + M))]) (n := 7) (Nat.le_of_ble_eq_true rfl)
  rw [lg_entry_eq]
  generalize (lg_sl ([.ref h0, .int (nI x), .ref fa, .int (nI a), .int (nI (a + M))]) ++ List.replicate (7 - (lg_sl ([.ref h0, .int (nI x), .ref fa, .int (nI a), .int (nI (a + M))])).length) Slot.unset).toArray = ls at hl ⊢
  have hl : lv_has ls 7 [(0, .ref h0), (1, .int (nI x)), (2, .ref fa), (3, .int (nI a)), (4, .int (nI (a + M)))] := hl
  refine lv_aload_n hx hb d_Names_isSpelled_0 rfl (lv_at hl 0 rfl) ?_
  refine lv_iload_n hx hb d_Names_isSpelled_1 rfl (lv_at hl 1 rfl) ?_
  have hPc := hP.sub (ws' := [(h0, .inr (2, [.ref lt, g1, .ref q, g3, g4, g5])), (q, .inl (cI, n, .inl f))]) [0, 1] rfl
  have hDc := hD.sub (ws' := [(h0, .inr (2, [.ref lt, g1, .ref q, g3, g4, g5])), (q, .inl (cI, n, .inl f))]) [0, 1] (by decide +kernel) rfl
  have hFc := va_free (wc := [(h0, .inr (2, [.ref lt, g1, .ref q, g3, g4, g5])), (q, .inl (cI, n, .inl f))]) hD hS hA [0, 1] rfl
  have hkc : 0 + 0 ≤ 0 := by omega
  have hks : 0 + 0 ≤ 0 := by omega
  refine va_calli (va_runV (As := [.int (nI x)]) (rest := []) ⟨hx, hb, hml, hown, hts⟩ (g_Names_lengthOf l D cI cB cZ cS s.heap.size h0 q n f (.ref lt) g1 g3 g4 g5 x (by omega) (by omega)) (⟨callB_of 1 hts (zgood kw_113) rfl rfl rfl (hts _ kw_4) (hts _ kw_110) (by decide +kernel) ⟨Nat.le_of_ble_eq_true rfl, Nat.le_of_ble_eq_true rfl⟩, hts _ kw_111, hts _ kw_112⟩) (zPreV hPc hK hN hDc (va_recv (q := ("ProofDesk$Names", F_Names, 6)) hK hP rfl (q0 := 0) rfl)) rfl rfl hl.1 rfl (lv_room (Nat.le_of_ble_eq_true rfl)) d_Names_isSpelled_2 ⟨hkc, hks⟩) hS (fun q _ h => hFc q h) hFc (fun r u t H1 locs ht hvm hw hB hz1 hk1 hS => ?_)
  obtain ⟨hP1, hD1⟩ := hB
  rw [ht] at hP1
  obtain ⟨hP, hD⟩ := va_join (wr := [(lt, .inl (cB, nl, .inl lf)), (fa, .inl (cB, nf, .inl gf))]) (w1 := [(h0, .inr (2, [.ref lt, g1, .ref q, g3, g4, g5])), (q, .inl (cI, n, .inl f))]) hP hD [0, 1] [2, 3] rfl rfl (by decide +kernel) (by decide +kernel) hk1 hFc hP1 hD1
  generalize H1 = H at hP hS ⊢
  have hP : va_P D zcl [(lt, .inl (cB, nl, .inl lf)), (fa, .inl (cB, nf, .inl gf)), (h0, .inr (2, [.ref lt, g1, .ref q, g3, g4, g5])), (q, .inl (cI, n, .inl f))] H := hP
  have hD : va_D A [(lt, .inl (cB, nl, .inl lf)), (fa, .inl (cB, nf, .inl gf)), (h0, .inr (2, [.ref lt, g1, .ref q, g3, g4, g5])), (q, .inl (cI, n, .inl f))] := hD
  subst hw
  refine W.widen (k := 0) (n := 0) (by omega) (by omega) ?_
  refine lv_iload hx hb d_Names_isSpelled_5 (lv_at hl 4 rfl) ?_
  refine lv_iload_n hx hb d_Names_isSpelled_7 rfl (lv_at hl 3 rfl) ?_
  refine lv_isub hx hb d_Names_isSpelled_8 ?_
  refine zz_i (y := nI ((a + M) - a)) (pk_sub (by omega)) ?_
  have hc_1 : ((f (7 * x + 1)) : Int32) = (nI ((a + M) - a)) := by rw [Nat.add_sub_cancel_left]; exact hlen
  refine lv_icmp_eq hx hb d_Names_isSpelled_9 rfl (fun _ => ?_) (fun h => absurd hc_1 h)
  refine lv_aload_n hx hb d_Names_isSpelled_14 rfl (lv_at hl 0 rfl) ?_
  refine va_get (D := D) (ci := 2) (v := .ref q) (C := "ProofDesk$Names") (T := F_Names) (N := 6) hx hb hts in_Names hown hK hP 2 rfl rfl 2 (by decide) (hts _ kw_145) (fun _ h9 => h9) rfl d_Names_isSpelled_15 ?_
  refine lv_bipush (v := 7) hx hb d_Names_isSpelled_18 (by decide) ?_
  refine lv_iload_n hx hb d_Names_isSpelled_20 rfl (lv_at hl 1 rfl) ?_
  refine lv_imul hx hb d_Names_isSpelled_21 ?_
  refine zz_i (y := nI (7 * x)) (pk_mul 7 x) ?_
  refine lv_iconst (v := 0) hx hb d_Names_isSpelled_22 (by decide) ?_
  refine lv_iadd hx hb d_Names_isSpelled_23 ?_
  refine zz_i (y := nI (7 * x + 0)) (nI_add (7 * x) 0) ?_
  refine zz_iald (v := (nI s0)) hx hb hK hP 3 0 rfl rfl (i := (nI (7 * x + 0))) (7 * x + 0) (zix_nI (by omega) (by omega)) (hst) d_Names_isSpelled_24 ?_
  refine lv_iload_n hx hb d_Names_isSpelled_25 rfl (lv_at hl 3 rfl) ?_
  refine lv_isub hx hb d_Names_isSpelled_26 ?_
  refine zz_i (y := nI s0 - nI a) (rfl) ?_
  refine lv_istore (lv' := [(5, .int (nI s0 - nI a)), (0, .ref h0), (1, .int (nI x)), (2, .ref fa), (3, .int (nI a)), (4, .int (nI (a + M)))]) hx hb d_Names_isSpelled_27 hl (by decide) rfl (fun ls hl => ?_)
  refine lv_iload_n hx hb d_Names_isSpelled_29 rfl (lv_at hl 4 rfl) ?_
  refine lv_istore (lv' := [(6, .int (nI a)), (5, .int (nI s0 - nI a)), (0, .ref h0), (1, .int (nI x)), (2, .ref fa), (3, .int (nI a)), (4, .int (nI (a + M)))]) hx hb d_Names_isSpelled_30 hl (by decide) rfl (fun ls hl => ?_)
  have hl : lv_has ls 7 [(6, .int (nI (a + 0))), (5, .int (nI s0 - nI a)), (0, .ref h0), (1, .int (nI x)), (2, .ref fa), (3, .int (nI a)), (4, .int (nI (a + M)))] := lv_sub hl [0, 1, 2, 3, 4, 5, 6] rfl
  have hP := hP.sub (ws' := [(h0, .inr (2, [.ref lt, g1, .ref q, g3, g4, g5])), (q, .inl (cI, n, .inl f)), (lt, .inl (cB, nl, .inl lf)), (fa, .inl (cB, nf, .inl gf))]) [2, 3, 0, 1] rfl
  have hD := hD.sub (ws' := [(h0, .inr (2, [.ref lt, g1, .ref q, g3, g4, g5])), (q, .inl (cI, n, .inl f)), (lt, .inl (cB, nl, .inl lf)), (fa, .inl (cB, nf, .inl gf))]) [2, 3, 0, 1] (by decide +kernel) rfl
  refine lp_isSpelledY hx hb hts hN hown hK h0 lt q fa n f nl lf nf gf g1 g3 g4 g5 x a M s0 N hM hr9 hs9 ha9 hN9 heq hz (fun H locs ls hP hD hS hl => ?_) N 0 _ _ _ (by omega) hP hD hS hl
  refine lv_iconst (v := 1) hx hb d_Names_isSpelled_64 (by decide) ?_
  have hP9 := hP.sub (ws' := [(h0, .inr (2, [.ref lt, g1, .ref q, g3, g4, g5])), (q, .inl (cI, n, .inl f)), (lt, .inl (cB, nl, .inl lf)), (fa, .inl (cB, nf, .inl gf))]) [0, 1, 2, 3] rfl
  have hD9 := hD.sub (ws' := [(h0, .inr (2, [.ref lt, g1, .ref q, g3, g4, g5])), (q, .inl (cI, n, .inl f)), (lt, .inl (cB, nl, .inl lf)), (fa, .inl (cB, nf, .inl gf))]) [0, 1, 2, 3] (by decide +kernel) rfl
  refine W.widen (k := 0) (n := 0) (by omega) (by omega) ?_
  exact W.zret (v := 1) hx hb hr rfl (fun t ht hW => ⟨⟨1, (), rfl, rfl, by rw [ht]; exact hP9, hD9⟩, hS.F ht⟩) hS.2.2 d_Names_isSpelled_65
set_option maxHeartbeats 2000000 in
set_option maxRecDepth 100000 in
theorem lp_isSpelledN {p : Program} {l : Launch} {e : Env} {R : Room} {s : State} {m : MethodId} {args : Array Value} {below : List Frame} {meth : Method} {c : Code} {H0 : Heap} {cells slots : Nat} {Q : State → Prop} {A : Nat → Prop} {D : va_G} {cI cB cZ cS : ClassId} (hx : p.tables.exec = Jvm.exec) (hb : c.code = b_Names_isSpelled) (hts : ∀ w ∈ zw, w.before args s = true) (hN : zN s) (hown : s.vm.findClass "ProofDesk$Names" = some m.cls) (hK : va_K D zcl (zty cI cB cZ cS) s) (h0 : Nat) (lt : Nat) (q : Nat) (fa : Nat) (n : Nat) (f : Nat → Int32) (nl : Nat) (lf : Nat → Int32) (nf : Nat) (gf : Nat → Int32) (g1 : Value) (g3 : Value) (g4 : Value) (g5 : Value) (x : Nat) (a : Nat) (M : Nat) (s0 : Nat) (N : Nat) (hM : n ≤ 33554432 ∧ nl ≤ 33554432 ∧ nf ≤ 33554432) (hr9 : 7 * x + 6 < n) (hs9 : s0 + M ≤ nl) (ha9 : a + M ≤ nf) (hN9 : N ≤ M) (heq : ∀ j, j < N → lf (s0 + j) = gf (a + j)) (hz : N < M) (hy : ¬ lf (s0 + N) = gf (a + N))
    (kk : ∀ (H : Heap) (locs : List Loc) (ls : Array Slot), va_P D zcl [(h0, .inr (2, [.ref lt, g1, .ref q, g3, g4, g5])), (q, .inl (cI, n, .inl f)), (lt, .inl (cB, nl, .inl lf)), (fa, .inl (cB, nf, .inl gf))] H → va_D A [(h0, .inr (2, [.ref lt, g1, .ref q, g3, g4, g5])), (q, .inl (cI, n, .inl f)), (lt, .inl (cB, nl, .inl lf)), (fa, .inl (cB, nf, .inl gf))] → va_S A H0 H locs → lv_has ls 7 [(6, .int (nI (a + N))), (5, .int (nI s0 - nI a)), (0, .ref h0), (1, .int (nI x)), (2, .ref fa), (3, .int (nI a)), (4, .int (nI (a + M)))] → W p l e R s m args below meth c H locs cells slots Q (F0 m 56 ls [])) :
    ∀ (d j : Nat) (H : Heap) (locs : List Loc) (ls : Array Slot), j + d = N → va_P D zcl [(h0, .inr (2, [.ref lt, g1, .ref q, g3, g4, g5])), (q, .inl (cI, n, .inl f)), (lt, .inl (cB, nl, .inl lf)), (fa, .inl (cB, nf, .inl gf))] H → va_D A [(h0, .inr (2, [.ref lt, g1, .ref q, g3, g4, g5])), (q, .inl (cI, n, .inl f)), (lt, .inl (cB, nl, .inl lf)), (fa, .inl (cB, nf, .inl gf))] → va_S A H0 H locs → lv_has ls 7 [(6, .int (nI (a + j))), (5, .int (nI s0 - nI a)), (0, .ref h0), (1, .int (nI x)), (2, .ref fa), (3, .int (nI a)), (4, .int (nI (a + M)))] → W p l e R s m args below meth c H locs cells slots Q (F0 m 32 ls []) := by
  intro d
  induction d with
  | zero =>
    intro j H locs ls hj hP hD hS hl
    obtain rfl : N = j := by omega
    have hl : lv_has ls 7 [(6, .int (nI (a + N))), (5, .int (nI s0 - nI a)), (0, .ref h0), (1, .int (nI x)), (2, .ref fa), (3, .int (nI a)), (4, .int (nI (a + M)))] := hl
    refine lv_iload hx hb d_Names_isSpelled_32 (lv_at hl 0 rfl) ?_
    refine lv_iload hx hb d_Names_isSpelled_34 (lv_at hl 6 rfl) ?_
    have hc_1 : ¬ ((nI (a + M)) : Int32) ≤ (nI (a + N)) := nI_ge (by omega) (by omega)
    refine lv_icmp_ge hx hb d_Names_isSpelled_36 rfl (fun h => absurd h hc_1) (fun _ => ?_)
    refine lv_aload_n hx hb d_Names_isSpelled_39 rfl (lv_at hl 2 rfl) ?_
    refine va_get (D := D) (ci := 2) (v := .ref lt) (C := "ProofDesk$Names") (T := F_Names) (N := 6) hx hb hts in_Names hown hK hP 0 rfl rfl 0 (by decide) (hts _ kw_143) (fun _ h9 => h9) rfl d_Names_isSpelled_40 ?_
    refine lv_iload hx hb d_Names_isSpelled_43 (lv_at hl 0 rfl) ?_
    refine lv_iload hx hb d_Names_isSpelled_45 (lv_at hl 1 rfl) ?_
    refine lv_iadd hx hb d_Names_isSpelled_47 ?_
    refine zz_i (y := nI (s0 + N)) (zshift) ?_
    refine zz_bald (v := (lf (s0 + N))) hx hb hK hP 2 1 rfl rfl (i := (nI (s0 + N))) (s0 + N) (zix_nI (by omega) (by omega)) (rfl) d_Names_isSpelled_48 ?_
    refine lv_aload_n hx hb d_Names_isSpelled_49 rfl (lv_at hl 4 rfl) ?_
    refine lv_iload hx hb d_Names_isSpelled_50 (lv_at hl 0 rfl) ?_
    refine zz_bald (v := (gf (a + N))) hx hb hK hP 3 1 rfl rfl (i := (nI (a + N))) (a + N) (zix_nI (by omega) (by omega)) (rfl) d_Names_isSpelled_52 ?_
    have hc_2 : ¬ ((lf (s0 + N)) : Int32) = (gf (a + N)) := hy
    refine lv_icmp_eq hx hb d_Names_isSpelled_53 rfl (fun h => absurd h hc_2) (fun _ => ?_)
    exact kk H locs ls hP hD hS hl
  | succ d ih =>
    intro j H locs ls hj hP hD hS hl
    have hl : lv_has ls 7 [(6, .int (nI (a + j))), (5, .int (nI s0 - nI a)), (0, .ref h0), (1, .int (nI x)), (2, .ref fa), (3, .int (nI a)), (4, .int (nI (a + M)))] := hl
    refine lv_iload hx hb d_Names_isSpelled_32 (lv_at hl 0 rfl) ?_
    refine lv_iload hx hb d_Names_isSpelled_34 (lv_at hl 6 rfl) ?_
    have hc_1 : ¬ ((nI (a + M)) : Int32) ≤ (nI (a + j)) := nI_ge (by omega) (by omega)
    refine lv_icmp_ge hx hb d_Names_isSpelled_36 rfl (fun h => absurd h hc_1) (fun _ => ?_)
    refine lv_aload_n hx hb d_Names_isSpelled_39 rfl (lv_at hl 2 rfl) ?_
    refine va_get (D := D) (ci := 2) (v := .ref lt) (C := "ProofDesk$Names") (T := F_Names) (N := 6) hx hb hts in_Names hown hK hP 0 rfl rfl 0 (by decide) (hts _ kw_143) (fun _ h9 => h9) rfl d_Names_isSpelled_40 ?_
    refine lv_iload hx hb d_Names_isSpelled_43 (lv_at hl 0 rfl) ?_
    refine lv_iload hx hb d_Names_isSpelled_45 (lv_at hl 1 rfl) ?_
    refine lv_iadd hx hb d_Names_isSpelled_47 ?_
    refine zz_i (y := nI (s0 + j)) (zshift) ?_
    refine zz_bald (v := (lf (s0 + j))) hx hb hK hP 2 1 rfl rfl (i := (nI (s0 + j))) (s0 + j) (zix_nI (by omega) (by omega)) (rfl) d_Names_isSpelled_48 ?_
    refine lv_aload_n hx hb d_Names_isSpelled_49 rfl (lv_at hl 4 rfl) ?_
    refine lv_iload hx hb d_Names_isSpelled_50 (lv_at hl 0 rfl) ?_
    refine zz_bald (v := (gf (a + j))) hx hb hK hP 3 1 rfl rfl (i := (nI (a + j))) (a + j) (zix_nI (by omega) (by omega)) (rfl) d_Names_isSpelled_52 ?_
    have hc_2 : ((lf (s0 + j)) : Int32) = (gf (a + j)) := heq j (by omega)
    refine lv_icmp_eq hx hb d_Names_isSpelled_53 rfl (fun _ => ?_) (fun h => absurd hc_2 h)
    refine lv_iinc (k := 0) (v := (nI (a + (j + 1)))) (lv' := [(6, .int (nI (a + (j + 1)))), (5, .int (nI s0 - nI a)), (0, .ref h0), (1, .int (nI x)), (2, .ref fa), (3, .int (nI a)), (4, .int (nI (a + M)))]) hx hb d_Names_isSpelled_58 hl rfl (nI_1 (a + j)) (by decide) rfl (fun ls hl => ?_)
    refine lv_goto hx hb d_Names_isSpelled_61 rfl ?_
    have hl : lv_has ls 7 [(6, .int (nI (a + (j + 1)))), (5, .int (nI s0 - nI a)), (0, .ref h0), (1, .int (nI x)), (2, .ref fa), (3, .int (nI a)), (4, .int (nI (a + M)))] := lv_sub hl [0, 1, 2, 3, 4, 5, 6] rfl
    exact ih (j + 1) H locs ls (by omega) hP hD hS hl
theorem d_Names_isSpelled_56 : decode b_Names_isSpelled 56 = .ok (.iconst 0, 1) := by decide +kernel
theorem d_Names_isSpelled_57 : decode b_Names_isSpelled 57 = .ok (.ireturn, 1) := by decide +kernel
set_option maxHeartbeats 4000000 in
set_option maxRecDepth 100000 in
theorem g_Names_isSpelledN (l : Launch) (D : va_G) (cI cB cZ cS : ClassId) (sz : Nat) (h0 : Nat) (lt : Nat) (q : Nat) (fa : Nat) (n : Nat) (f : Nat → Int32) (nl : Nat) (lf : Nat → Int32) (nf : Nat) (gf : Nat → Int32) (g1 : Value) (g3 : Value) (g4 : Value) (g5 : Value) (x : Nat) (a : Nat) (M : Nat) (s0 : Nat) (N : Nat) (hM : n ≤ 33554432 ∧ nl ≤ 33554432 ∧ nf ≤ 33554432) (hr9 : 7 * x + 6 < n) (hs9 : s0 + M ≤ nl) (ha9 : a + M ≤ nf) (hN9 : N ≤ M) (heq : ∀ j, j < N → lf (s0 + j) = gf (a + j)) (hz : N < M) (hy : ¬ lf (s0 + N) = gf (a + N)) (hlen : f (7 * x + 1) = nI M) (hst : f (7 * x + 0) = nI s0) : Met l y_Names_isSpelled (zc y_Names_isSpelled b_Names_isSpelled 7 (some .boolean)) ({ frames := 1, cells := 0, slots := 0, locals := 21 }) (zPc D (zty cI cB cZ cS) [(h0, .inr (2, [.ref lt, g1, .ref q, g3, g4, g5])), (q, .inl (cI, n, .inl f)), (lt, .inl (cB, nl, .inl lf)), (fa, .inl (cB, nf, .inl gf))] sz [.ref h0, .int (nI x), .ref fa, .int (nI a), .int (nI (a + M))]) (va_Qi (fun (r : Int32) (_ : Unit) => r = 0) (fun _ t => va_P D zcl [(h0, .inr (2, [.ref lt, g1, .ref q, g3, g4, g5])), (q, .inl (cI, n, .inl f)), (lt, .inl (cB, nl, .inl lf)), (fa, .inl (cB, nf, .inl gf))] t.heap ∧ va_D (va_A [(h0, .inr (2, [.ref lt, g1, .ref q, g3, g4, g5])), (q, .inl (cI, n, .inl f)), (lt, .inl (cB, nl, .inl lf)), (fa, .inl (cB, nf, .inl gf))] sz) [(h0, .inr (2, [.ref lt, g1, .ref q, g3, g4, g5])), (q, .inl (cI, n, .inl f)), (lt, .inl (cB, nl, .inl lf)), (fa, .inl (cB, nf, .inl gf))]) (va_A [(h0, .inr (2, [.ref lt, g1, .ref q, g3, g4, g5])), (q, .inl (cI, n, .inl f)), (lt, .inl (cB, nl, .inl lf)), (fa, .inl (cB, nf, .inl gf))] sz)) 0 0 (va_A [(h0, .inr (2, [.ref lt, g1, .ref q, g3, g4, g5])), (q, .inl (cI, n, .inl f)), (lt, .inl (cB, nl, .inl lf)), (fa, .inl (cB, nf, .inl gf))] sz) := by
  refine Met.ofW (cc := b_Names_isSpelled) (maxL := 7) (ret := (some .boolean)) (by decide) rfl ?_
  intro p e s m args below meth c s₁ B hml hv
  obtain ⟨rfl, hsz, hP, ⟨hK, hN⟩, hD0⟩ := hv
  have hx := B.exec
  have hb := B.bytes
  have hr := B.returns
  have hts0 := atoms_spec (ws := zc y_Names_isSpelled b_Names_isSpelled 7 (some .boolean)) B.pre
  have hts : ∀ w ∈ zw, w.before _ s = true := fun w hw => hts0 w (List.mem_cons_of_mem _ hw)
  have hown : s.vm.findClass "ProofDesk$Names" = some m.cls := findClass_of_methodNamed B.named
  have hlocks := B.notSynchronized
  subst hsz
  have hD := hD0.self (sz := s.heap.size)
  generalize hAe : va_A [(h0, .inr (2, [.ref lt, g1, .ref q, g3, g4, g5])), (q, .inl (cI, n, .inl f)), (lt, .inl (cB, nl, .inl lf)), (fa, .inl (cB, nf, .inl gf))] s.heap.size = A at hD ⊢
  have hA : ∀ q : Nat, s.heap.size ≤ q → A q := fun q h => by rw [← hAe]; exact Or.inr h
  have hS : va_S A s.heap s.heap [] := va_S.rf
  have hP : va_P D zcl [(h0, .inr (2, [.ref lt, g1, .ref q, g3, g4, g5])), (q, .inl (cI, n, .inl f)), (lt, .inl (cB, nl, .inl lf)), (fa, .inl (cB, nf, .inl gf))] s.heap := hP
  have hl := lv_entry ([.ref h0, .int (nI x), .ref fa, .int (nI a), .int (nI (a + M))]) (n := 7) (Nat.le_of_ble_eq_true rfl)
  rw [lg_entry_eq]
  generalize (lg_sl ([.ref h0, .int (nI x), .ref fa, .int (nI a), .int (nI (a + M))]) ++ List.replicate (7 - (lg_sl ([.ref h0, .int (nI x), .ref fa, .int (nI a), .int (nI (a + M))])).length) Slot.unset).toArray = ls at hl ⊢
  have hl : lv_has ls 7 [(0, .ref h0), (1, .int (nI x)), (2, .ref fa), (3, .int (nI a)), (4, .int (nI (a + M)))] := hl
  refine lv_aload_n hx hb d_Names_isSpelled_0 rfl (lv_at hl 0 rfl) ?_
  refine lv_iload_n hx hb d_Names_isSpelled_1 rfl (lv_at hl 1 rfl) ?_
  have hPc := hP.sub (ws' := [(h0, .inr (2, [.ref lt, g1, .ref q, g3, g4, g5])), (q, .inl (cI, n, .inl f))]) [0, 1] rfl
  have hDc := hD.sub (ws' := [(h0, .inr (2, [.ref lt, g1, .ref q, g3, g4, g5])), (q, .inl (cI, n, .inl f))]) [0, 1] (by decide +kernel) rfl
  have hFc := va_free (wc := [(h0, .inr (2, [.ref lt, g1, .ref q, g3, g4, g5])), (q, .inl (cI, n, .inl f))]) hD hS hA [0, 1] rfl
  have hkc : 0 + 0 ≤ 0 := by omega
  have hks : 0 + 0 ≤ 0 := by omega
  refine va_calli (va_runV (As := [.int (nI x)]) (rest := []) ⟨hx, hb, hml, hown, hts⟩ (g_Names_lengthOf l D cI cB cZ cS s.heap.size h0 q n f (.ref lt) g1 g3 g4 g5 x (by omega) (by omega)) (⟨callB_of 1 hts (zgood kw_113) rfl rfl rfl (hts _ kw_4) (hts _ kw_110) (by decide +kernel) ⟨Nat.le_of_ble_eq_true rfl, Nat.le_of_ble_eq_true rfl⟩, hts _ kw_111, hts _ kw_112⟩) (zPreV hPc hK hN hDc (va_recv (q := ("ProofDesk$Names", F_Names, 6)) hK hP rfl (q0 := 0) rfl)) rfl rfl hl.1 rfl (lv_room (Nat.le_of_ble_eq_true rfl)) d_Names_isSpelled_2 ⟨hkc, hks⟩) hS (fun q _ h => hFc q h) hFc (fun r u t H1 locs ht hvm hw hB hz1 hk1 hS => ?_)
  obtain ⟨hP1, hD1⟩ := hB
  rw [ht] at hP1
  obtain ⟨hP, hD⟩ := va_join (wr := [(lt, .inl (cB, nl, .inl lf)), (fa, .inl (cB, nf, .inl gf))]) (w1 := [(h0, .inr (2, [.ref lt, g1, .ref q, g3, g4, g5])), (q, .inl (cI, n, .inl f))]) hP hD [0, 1] [2, 3] rfl rfl (by decide +kernel) (by decide +kernel) hk1 hFc hP1 hD1
  generalize H1 = H at hP hS ⊢
  have hP : va_P D zcl [(lt, .inl (cB, nl, .inl lf)), (fa, .inl (cB, nf, .inl gf)), (h0, .inr (2, [.ref lt, g1, .ref q, g3, g4, g5])), (q, .inl (cI, n, .inl f))] H := hP
  have hD : va_D A [(lt, .inl (cB, nl, .inl lf)), (fa, .inl (cB, nf, .inl gf)), (h0, .inr (2, [.ref lt, g1, .ref q, g3, g4, g5])), (q, .inl (cI, n, .inl f))] := hD
  subst hw
  refine W.widen (k := 0) (n := 0) (by omega) (by omega) ?_
  refine lv_iload hx hb d_Names_isSpelled_5 (lv_at hl 4 rfl) ?_
  refine lv_iload_n hx hb d_Names_isSpelled_7 rfl (lv_at hl 3 rfl) ?_
  refine lv_isub hx hb d_Names_isSpelled_8 ?_
  refine zz_i (y := nI ((a + M) - a)) (pk_sub (by omega)) ?_
  have hc_1 : ((f (7 * x + 1)) : Int32) = (nI ((a + M) - a)) := by rw [Nat.add_sub_cancel_left]; exact hlen
  refine lv_icmp_eq hx hb d_Names_isSpelled_9 rfl (fun _ => ?_) (fun h => absurd hc_1 h)
  refine lv_aload_n hx hb d_Names_isSpelled_14 rfl (lv_at hl 0 rfl) ?_
  refine va_get (D := D) (ci := 2) (v := .ref q) (C := "ProofDesk$Names") (T := F_Names) (N := 6) hx hb hts in_Names hown hK hP 2 rfl rfl 2 (by decide) (hts _ kw_145) (fun _ h9 => h9) rfl d_Names_isSpelled_15 ?_
  refine lv_bipush (v := 7) hx hb d_Names_isSpelled_18 (by decide) ?_
  refine lv_iload_n hx hb d_Names_isSpelled_20 rfl (lv_at hl 1 rfl) ?_
  refine lv_imul hx hb d_Names_isSpelled_21 ?_
  refine zz_i (y := nI (7 * x)) (pk_mul 7 x) ?_
  refine lv_iconst (v := 0) hx hb d_Names_isSpelled_22 (by decide) ?_
  refine lv_iadd hx hb d_Names_isSpelled_23 ?_
  refine zz_i (y := nI (7 * x + 0)) (nI_add (7 * x) 0) ?_
  refine zz_iald (v := (nI s0)) hx hb hK hP 3 0 rfl rfl (i := (nI (7 * x + 0))) (7 * x + 0) (zix_nI (by omega) (by omega)) (hst) d_Names_isSpelled_24 ?_
  refine lv_iload_n hx hb d_Names_isSpelled_25 rfl (lv_at hl 3 rfl) ?_
  refine lv_isub hx hb d_Names_isSpelled_26 ?_
  refine zz_i (y := nI s0 - nI a) (rfl) ?_
  refine lv_istore (lv' := [(5, .int (nI s0 - nI a)), (0, .ref h0), (1, .int (nI x)), (2, .ref fa), (3, .int (nI a)), (4, .int (nI (a + M)))]) hx hb d_Names_isSpelled_27 hl (by decide) rfl (fun ls hl => ?_)
  refine lv_iload_n hx hb d_Names_isSpelled_29 rfl (lv_at hl 4 rfl) ?_
  refine lv_istore (lv' := [(6, .int (nI a)), (5, .int (nI s0 - nI a)), (0, .ref h0), (1, .int (nI x)), (2, .ref fa), (3, .int (nI a)), (4, .int (nI (a + M)))]) hx hb d_Names_isSpelled_30 hl (by decide) rfl (fun ls hl => ?_)
  have hl : lv_has ls 7 [(6, .int (nI (a + 0))), (5, .int (nI s0 - nI a)), (0, .ref h0), (1, .int (nI x)), (2, .ref fa), (3, .int (nI a)), (4, .int (nI (a + M)))] := lv_sub hl [0, 1, 2, 3, 4, 5, 6] rfl
  have hP := hP.sub (ws' := [(h0, .inr (2, [.ref lt, g1, .ref q, g3, g4, g5])), (q, .inl (cI, n, .inl f)), (lt, .inl (cB, nl, .inl lf)), (fa, .inl (cB, nf, .inl gf))]) [2, 3, 0, 1] rfl
  have hD := hD.sub (ws' := [(h0, .inr (2, [.ref lt, g1, .ref q, g3, g4, g5])), (q, .inl (cI, n, .inl f)), (lt, .inl (cB, nl, .inl lf)), (fa, .inl (cB, nf, .inl gf))]) [2, 3, 0, 1] (by decide +kernel) rfl
  refine lp_isSpelledN hx hb hts hN hown hK h0 lt q fa n f nl lf nf gf g1 g3 g4 g5 x a M s0 N hM hr9 hs9 ha9 hN9 heq hz hy (fun H locs ls hP hD hS hl => ?_) N 0 _ _ _ (by omega) hP hD hS hl
  refine lv_iconst (v := 0) hx hb d_Names_isSpelled_56 (by decide) ?_
  have hP9 := hP.sub (ws' := [(h0, .inr (2, [.ref lt, g1, .ref q, g3, g4, g5])), (q, .inl (cI, n, .inl f)), (lt, .inl (cB, nl, .inl lf)), (fa, .inl (cB, nf, .inl gf))]) [0, 1, 2, 3] rfl
  have hD9 := hD.sub (ws' := [(h0, .inr (2, [.ref lt, g1, .ref q, g3, g4, g5])), (q, .inl (cI, n, .inl f)), (lt, .inl (cB, nl, .inl lf)), (fa, .inl (cB, nf, .inl gf))]) [0, 1, 2, 3] (by decide +kernel) rfl
  refine W.widen (k := 0) (n := 0) (by omega) (by omega) ?_
  exact W.zret (v := 0) hx hb hr rfl (fun t ht hW => ⟨⟨0, (), rfl, rfl, by rw [ht]; exact hP9, hD9⟩, hS.F ht⟩) hS.2.2 d_Names_isSpelled_57
