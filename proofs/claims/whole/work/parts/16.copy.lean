/-! room: the counters can be lowered to what the heap has really grown by -/
def zused (n0 : Nat) (H : Heap) : Nat := ((H.toList.drop n0).map (·.slots.size)).sum
theorem zTight {p : Program} {l : Launch} {e : Env} {R : Room} {s : State} {m : MethodId} {args : Array Value} {below : List Frame} {meth : Method} {c : Code} {H : Heap} {locs : List Loc} {cells slots : Nat} {Q : State → Prop} {g : JFrame} {k n : Nat} (h1 : H.size ≤ s.heap.size + k) (h2 : zused s.heap.size H ≤ n) (kk : W p l e R s m args below meth c H locs k n Q g) : W p l e R s m args below meth c H locs cells slots Q g := by
  intro T hT X
  refine kk T hT { X with same := ?_ }
  obtain ⟨e1, e2, e3, e4, e5, e6⟩ := X.same
  exact ⟨e1, e2, by show T.heap.size ≤ _; rw [hT]; exact h1, e4, by show zused s.heap.size T.heap ≤ n; rw [hT]; exact h2, e6⟩
/-- the first n of f, then nought -/
def zcp (f : Nat → Int32) (n : Nat) : Nat → Int32 := fun j => if j < n then f j else 0
theorem zcpy0 {f : Nat → Int32} {n : Nat} : va_cpy f (fun _ => 0) 0 0 n = zcp f n := by
  funext j
  simp only [va_cpy, zcp, Nat.zero_le, true_and, Nat.zero_add, Nat.sub_zero]
theorem zcp_lo {f : Nat → Int32} {n j : Nat} (h : j < n) : zcp f n j = f j := if_pos h
abbrev b_java_util_Arrays_copyOf2 : ByteArray := prog_25_method_123_code
abbrev y_java_util_Arrays_copyOf2 : MethodName := ⟨"java/util/Arrays", "copyOf", "([II)[I"⟩
theorem d_java_util_Arrays_copyOf2_0 : decode b_java_util_Arrays_copyOf2 0 = .ok (.iload_n 1, 1) := by decide +kernel
theorem d_java_util_Arrays_copyOf2_1 : decode b_java_util_Arrays_copyOf2 1 = .ok (.aload_n 0, 1) := by decide +kernel
theorem d_java_util_Arrays_copyOf2_2 : decode b_java_util_Arrays_copyOf2 2 = .ok (.arraylength, 1) := by decide +kernel
theorem d_java_util_Arrays_copyOf2_3 : decode b_java_util_Arrays_copyOf2 3 = .ok (.if_icmp .ne 11, 3) := by decide +kernel
theorem d_java_util_Arrays_copyOf2_14 : decode b_java_util_Arrays_copyOf2 14 = .ok (.iload_n 1, 1) := by decide +kernel
theorem d_java_util_Arrays_copyOf2_15 : decode b_java_util_Arrays_copyOf2 15 = .ok (.newarray .int, 2) := by decide +kernel
theorem d_java_util_Arrays_copyOf2_17 : decode b_java_util_Arrays_copyOf2 17 = .ok (.astore_n 2, 1) := by decide +kernel
theorem d_java_util_Arrays_copyOf2_18 : decode b_java_util_Arrays_copyOf2 18 = .ok (.aload_n 0, 1) := by decide +kernel
theorem d_java_util_Arrays_copyOf2_19 : decode b_java_util_Arrays_copyOf2 19 = .ok (.iconst 0, 1) := by decide +kernel
theorem d_java_util_Arrays_copyOf2_20 : decode b_java_util_Arrays_copyOf2 20 = .ok (.aload_n 2, 1) := by decide +kernel
theorem d_java_util_Arrays_copyOf2_21 : decode b_java_util_Arrays_copyOf2 21 = .ok (.iconst 0, 1) := by decide +kernel
theorem d_java_util_Arrays_copyOf2_22 : decode b_java_util_Arrays_copyOf2 22 = .ok (.aload_n 0, 1) := by decide +kernel
theorem d_java_util_Arrays_copyOf2_23 : decode b_java_util_Arrays_copyOf2 23 = .ok (.arraylength, 1) := by decide +kernel
theorem d_java_util_Arrays_copyOf2_24 : decode b_java_util_Arrays_copyOf2 24 = .ok (.iload_n 1, 1) := by decide +kernel
theorem d_java_util_Arrays_copyOf2_25 : decode b_java_util_Arrays_copyOf2 25 = .ok (.invokestatic 304, 3) := by decide +kernel
theorem kw_128 : (Jvm.Cond.methodLink "java/util/Arrays" (304 : Nat) ({ cls := "java/lang/Math", name := "min", desc := "(II)I" } : Jvm.MethodName)) ∈ zw := List.mem_filter.mpr ⟨List.mem_append_right _ (List.mem_of_getElem? (i := 128) (by decide +kernel)), by decide +kernel⟩
theorem kw_129 : (Jvm.Cond.static ({ cls := "java/lang/Math", name := "min", desc := "(II)I" } : Jvm.MethodName)) ∈ zw := List.mem_filter.mpr ⟨List.mem_append_right _ (List.mem_of_getElem? (i := 129) (by decide +kernel)), by decide +kernel⟩
theorem kw_6 : (Jvm.Cond.initialized "java/lang/Math") ∈ zw := List.mem_filter.mpr ⟨List.mem_append_right _ (List.mem_of_getElem? (i := 6) (by decide +kernel)), by decide +kernel⟩
theorem kw_130 : (Jvm.Cond.code ({ cls := "java/lang/Math", name := "min", desc := "(II)I" } : Jvm.MethodName) prog_20_method_69_code (2 : Nat) (Option.some Jvm.ClassFile.FieldType.int)) ∈ zw := List.mem_filter.mpr ⟨List.mem_append_right _ (List.mem_of_getElem? (i := 130) rfl), by decide +kernel⟩
theorem d_java_util_Arrays_copyOf2_28 : decode b_java_util_Arrays_copyOf2 28 = .ok (.invokestatic 150, 3) := by decide +kernel
theorem kw_131 : (Jvm.Cond.methodLink "java/util/Arrays" (150 : Nat) ({ cls := "java/lang/System", name := "arraycopy", desc := "(Ljava/lang/Object;ILjava/lang/Object;II)V" } : Jvm.MethodName)) ∈ zw := List.mem_filter.mpr ⟨List.mem_append_right _ (List.mem_of_getElem? (i := 131) (by decide +kernel)), by decide +kernel⟩
theorem d_java_util_Arrays_copyOf2_31 : decode b_java_util_Arrays_copyOf2 31 = .ok (.aload_n 2, 1) := by decide +kernel
theorem d_java_util_Arrays_copyOf2_32 : decode b_java_util_Arrays_copyOf2 32 = .ok (.areturn, 1) := by decide +kernel
set_option maxHeartbeats 4000000 in
set_option maxRecDepth 100000 in
theorem c_copyOf_int (l : Launch) (D : va_G) (cI cB cZ cS : ClassId) (sz : Nat) (a : Nat) (n : Nat) (f : Nat → Int32) (N : Nat) (hn : n < N) (hN : N ≤ 67108864) : Met l y_java_util_Arrays_copyOf2 (zc y_java_util_Arrays_copyOf2 b_java_util_Arrays_copyOf2 3 (some (.array .int))) ({ frames := 1, cells := 1, slots := N, locals := 40 }) (zPc D (zty cI cB cZ cS) [(a, .inl (cI, n, .inl f))] sz [.ref a, .int (nI N)]) (va_Qr (fun _ : Unit => True) (fun _ ra t => va_P D zcl [(a, .inl (cI, n, .inl f)), (ra, .inl (cI, N, .inl (zcp f n)))] t.heap ∧ va_D (va_A [(a, .inl (cI, n, .inl f))] sz) [(a, .inl (cI, n, .inl f)), (ra, .inl (cI, N, .inl (zcp f n)))]) (va_A [(a, .inl (cI, n, .inl f))] sz)) 1 N (va_A [(a, .inl (cI, n, .inl f))] sz) := by
  refine Met.ofW (cc := b_java_util_Arrays_copyOf2) (maxL := 3) (ret := (some (.array .int))) (by decide) rfl ?_
  intro p e s m args below meth c s₁ B hml hv
  obtain ⟨rfl, hsz, hP, ⟨hK, hN⟩, hD0⟩ := hv
  have hx := B.exec
  have hb := B.bytes
  have hr := B.returns
  have hts0 := atoms_spec (ws := zc y_java_util_Arrays_copyOf2 b_java_util_Arrays_copyOf2 3 (some (.array .int))) B.pre
  have hts : ∀ w ∈ zw, w.before _ s = true := fun w hw => hts0 w (List.mem_cons_of_mem _ hw)
  have hown : s.vm.findClass "java/util/Arrays" = some m.cls := findClass_of_methodNamed B.named
  have hlocks := B.notSynchronized
  subst hsz
  have hD := hD0.self (sz := s.heap.size)
  generalize hAe : va_A [(a, .inl (cI, n, .inl f))] s.heap.size = A at hD ⊢
  have hA : ∀ q : Nat, s.heap.size ≤ q → A q := fun q h => by rw [← hAe]; exact Or.inr h
  have hS : va_S A s.heap s.heap [] := va_S.rf
  have hP : va_P D zcl [(a, .inl (cI, n, .inl f))] s.heap := hP
  have hl := lv_entry ([.ref a, .int (nI N)]) (n := 3) (Nat.le_of_ble_eq_true rfl)
  rw [lg_entry_eq]
  generalize (lg_sl ([.ref a, .int (nI N)]) ++ List.replicate (3 - (lg_sl ([.ref a, .int (nI N)])).length) Slot.unset).toArray = ls at hl ⊢
  have hl : lv_has ls 3 [(0, .ref a), (1, .int (nI N))] := hl
  refine lv_iload_n hx hb d_java_util_Arrays_copyOf2_0 rfl (lv_at hl 1 rfl) ?_
  refine lv_aload_n hx hb d_java_util_Arrays_copyOf2_1 rfl (lv_at hl 0 rfl) ?_
  refine va_alen (v := (nI n)) hx hb hK hP 0 0 rfl rfl rfl d_java_util_Arrays_copyOf2_2 ?_
  have hc_1 : ¬ ((nI N) : Int32) = (nI n) := fun h => absurd ((nI_eq (by omega) (by omega)).mp h) (by omega)
  refine lv_icmp_ne hx hb d_java_util_Arrays_copyOf2_3 rfl (fun _ => ?_) (fun h => absurd h hc_1)
  refine lv_iload_n hx hb d_java_util_Arrays_copyOf2_14 rfl (lv_at hl 1 rfl) ?_
  have hkc : 0 + 1 ≤ 1 := by omega
  have hks : 0 + N ≤ N := by omega
  refine zz_newa (atype := .int) (ty := .int) (cA := cI) (a0 := (N, .inl (fun _ => 0))) (N' := N) hx hb (hts _ kw_64) rfl hK hP hD hS hA 0 rfl (fun _ => rfl) (nI_pos (by omega)) (nI_clamp (by omega)) (by show N * 4 ≤ 536870912; omega) hkc hks d_java_util_Arrays_copyOf2_15 (fun q_2 H hP hD hS => ?_)
  have hP : va_P D zcl [(a, .inl (cI, n, .inl f)), (q_2, .inl (cI, N, .inl (fun _ => 0)))] H := hP
  have hD : va_D A [(a, .inl (cI, n, .inl f)), (q_2, .inl (cI, N, .inl (fun _ => 0)))] := hD
  refine W.widen (k := 1) (n := (0 + N)) (by omega) (by omega) ?_
  refine lv_astore_n (lv' := [(2, .ref q_2), (0, .ref a), (1, .int (nI N))]) hx hb d_java_util_Arrays_copyOf2_17 rfl hl (by decide) rfl (fun ls hl => ?_)
  refine lv_aload_n hx hb d_java_util_Arrays_copyOf2_18 rfl (lv_at hl 1 rfl) ?_
  refine lv_iconst (v := 0) hx hb d_java_util_Arrays_copyOf2_19 (by decide) ?_
  refine lv_aload_n hx hb d_java_util_Arrays_copyOf2_20 rfl (lv_at hl 0 rfl) ?_
  refine lv_iconst (v := 0) hx hb d_java_util_Arrays_copyOf2_21 (by decide) ?_
  refine lv_aload_n hx hb d_java_util_Arrays_copyOf2_22 rfl (lv_at hl 1 rfl) ?_
  refine va_alen (v := (nI n)) hx hb hK hP 0 0 rfl rfl rfl d_java_util_Arrays_copyOf2_23 ?_
  refine lv_iload_n hx hb d_java_util_Arrays_copyOf2_24 rfl (lv_at hl 2 rfl) ?_
  refine va_mmin hx hb (hml.trans hl.1.symm) hown (hts _ kw_128) (hts _ kw_129) (hts _ kw_6) (by exact hts _ kw_130) (Nat.le_of_ble_eq_true rfl) (Nat.le_of_ble_eq_true rfl) (show 1 ≤ 1 by omega) (show 0 + N ≤ N by omega) d_java_util_Arrays_copyOf2_25 ?_
  refine zz_i (y := nI n) (if_neg (nI_nlt (by omega) (by omega))) ?_
  refine va_copyi (ty := .int) (sp := 0) (dp := 0) (n := (nI n)) hx hb (hml.trans hl.1.symm) hown (hts _ kw_131) (hts _ kw_133) (hts _ kw_132) (hts _ kw_7) hK hP hD hS 0 1 0 0 rfl rfl rfl rfl rfl (by decide) (by decide) (nI_pos (by omega)) (by rw [sb_cl0, nI_clamp (by omega)]; omega) (by rw [sb_cl0, nI_clamp (by omega)]; omega) (fun _ _ => rfl) (Nat.le_of_ble_eq_true rfl) (Nat.le_of_ble_eq_true rfl) d_java_util_Arrays_copyOf2_28 (fun H locs hP hD hS => ?_)
  have hcp : va_cpy f (fun _ => 0) (0 : Int32).toNatClampNeg (0 : Int32).toNatClampNeg (nI n).toNatClampNeg = zcp f n := by
    rw [sb_cl0, nI_clamp (by omega), zcpy0]
  have hP : va_P D zcl [(a, .inl (cI, n, .inl f)), (q_2, .inl (cI, N, .inl (va_cpy f (fun _ => 0) (0 : Int32).toNatClampNeg (0 : Int32).toNatClampNeg (nI n).toNatClampNeg)))] H := hP
  have hD : va_D A [(a, .inl (cI, n, .inl f)), (q_2, .inl (cI, N, .inl (va_cpy f (fun _ => 0) (0 : Int32).toNatClampNeg (0 : Int32).toNatClampNeg (nI n).toNatClampNeg)))] := hD
  rw [hcp] at hP hD
  have hP : va_P D zcl [(a, .inl (cI, n, .inl f)), (q_2, .inl (cI, N, .inl (zcp f n)))] H := hP
  have hD : va_D A [(a, .inl (cI, n, .inl f)), (q_2, .inl (cI, N, .inl (zcp f n)))] := hD
  refine lv_aload_n hx hb d_java_util_Arrays_copyOf2_31 rfl (lv_at hl 0 rfl) ?_
  have hP9 := hP.sub (ws' := [(a, .inl (cI, n, .inl f)), (q_2, .inl (cI, N, .inl (zcp f n)))]) [0, 1] rfl
  have hD9 := hD.sub (ws' := [(a, .inl (cI, n, .inl f)), (q_2, .inl (cI, N, .inl (zcp f n)))]) [0, 1] (by decide +kernel) rfl
  refine W.widen (k := 1) (n := N) (by omega) (by omega) ?_
  exact W.aret (v := .ref q_2) hx hb hr (by first | exact Or.inr ⟨_, rfl⟩ | exact Or.inl ⟨_, rfl⟩) (Or.inr ⟨_, rfl⟩) (fun t ht hW => ⟨⟨(), q_2, rfl, trivial, by rw [ht]; exact hP9, hD9⟩, hS.F ht⟩) hS.2.2 d_java_util_Arrays_copyOf2_32
