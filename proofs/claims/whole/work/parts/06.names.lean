abbrev b_java_util_Arrays_fill : ByteArray := prog_25_method_103_code
theorem d_java_util_Arrays_fill_5 : decode b_java_util_Arrays_fill 5 = .ok (.iload_n 2, 1) := by decide +kernel
theorem d_java_util_Arrays_fill_6 : decode b_java_util_Arrays_fill 6 = .ok (.iload_n 3, 1) := by decide +kernel
theorem d_java_util_Arrays_fill_7 : decode b_java_util_Arrays_fill 7 = .ok (.if_icmp .ge 13, 3) := by decide +kernel
theorem d_java_util_Arrays_fill_10 : decode b_java_util_Arrays_fill 10 = .ok (.aload_n 0, 1) := by decide +kernel
theorem d_java_util_Arrays_fill_11 : decode b_java_util_Arrays_fill 11 = .ok (.iload_n 2, 1) := by decide +kernel
theorem d_java_util_Arrays_fill_12 : decode b_java_util_Arrays_fill 12 = .ok (.iload_n 1, 1) := by decide +kernel
theorem d_java_util_Arrays_fill_13 : decode b_java_util_Arrays_fill 13 = .ok (.iastore, 1) := by decide +kernel
theorem d_java_util_Arrays_fill_14 : decode b_java_util_Arrays_fill 14 = .ok (.iinc 2 1, 3) := by decide +kernel
theorem d_java_util_Arrays_fill_17 : decode b_java_util_Arrays_fill 17 = .ok (.goto (-12), 3) := by decide +kernel
/-- the first n of f are v -/
def zfill (f : Nat → Int32) (n : Nat) (v : Int32) : Nat → Int32 := fun j => if j < n then v else f j
theorem zfill_0 {f : Nat → Int32} {v : Int32} : zfill f 0 v = f := by
  funext j
  simp [zfill]
theorem zfill_s {f : Nat → Int32} {i : Nat} {v : Int32} : upd (zfill f i v) i v = zfill f (i + 1) v := by
  funext j
  simp only [upd, zfill]
  by_cases h : j = i
  · rw [if_pos h, if_pos (by omega)]
  · rw [if_neg h]
    by_cases h2 : j < i
    · rw [if_pos h2, if_pos (by omega)]
    · rw [if_neg h2, if_neg (by omega)]
theorem zcpy1 {f g : Nat → Int32} {sp dp : Nat} : va_cpy f g sp dp 1 = upd g dp (f sp) := by
  funext j
  simp only [va_cpy, upd]
  by_cases h : j = dp
  · subst h
    rw [if_pos rfl, if_pos (by omega)]
    congr 1
    omega
  · rw [if_neg h, if_neg (by omega)]
section zfills
variable {p : Program} {l : Launch} {e : Env} {R : Room} {s : State} {m : MethodId} {args : Array Value} {below : List Frame} {meth : Method} {c : Code} {H0 : Heap} {cells slots : Nat} {Q : State → Prop} {A : Nat → Prop} {D : va_G} {tys : List (ClassId × FieldType)}
set_option maxHeartbeats 1000000 in
theorem lp_fill (hx : p.tables.exec = Jvm.exec) (hb : c.code = b_java_util_Arrays_fill) (hK : va_K D zcl tys s) {cI : ClassId} (ht : tys[0]? = some (cI, .int)) {a n : Nat} (hn : n < 2 ^ 31) {f : Nat → Int32} {v : Int32}
    (kk : ∀ (H : Heap) (locs : List Loc) (ls : Array Slot), va_P D zcl [(a, .inl (cI, n, .inl (zfill f n v)))] H → va_D A [(a, .inl (cI, n, .inl (zfill f n v)))] → va_S A H0 H locs → W p l e R s m args below meth c H locs cells slots Q (F0 m 20 ls [])) :
    ∀ (d i : Nat) (H : Heap) (locs : List Loc) (ls : Array Slot), i + d = n → va_P D zcl [(a, .inl (cI, n, .inl (zfill f i v)))] H → va_D A [(a, .inl (cI, n, .inl (zfill f i v)))] → va_S A H0 H locs → lv_has ls 4 [(2, .int (nI i)), (3, .int (nI n)), (0, .ref a), (1, .int v)] → W p l e R s m args below meth c H locs cells slots Q (F0 m 5 ls []) := by
  intro d
  induction d with
  | zero =>
    intro i H locs ls hi hP hD hS hl
    obtain rfl : i = n := by omega
    refine lv_iload_n hx hb d_java_util_Arrays_fill_5 rfl (lv_at hl 0 rfl) ?_
    refine lv_iload_n hx hb d_java_util_Arrays_fill_6 rfl (lv_at hl 1 rfl) ?_
    exact lv_icmp_ge hx hb d_java_util_Arrays_fill_7 rfl (fun _ => kk H locs ls hP hD hS) (fun h => absurd (nI_le (Nat.le_refl _) hn) h)
  | succ d ih =>
    intro i H locs ls hi hP hD hS hl
    refine lv_iload_n hx hb d_java_util_Arrays_fill_5 rfl (lv_at hl 0 rfl) ?_
    refine lv_iload_n hx hb d_java_util_Arrays_fill_6 rfl (lv_at hl 1 rfl) ?_
    refine lv_icmp_ge hx hb d_java_util_Arrays_fill_7 rfl (fun h => absurd h (nI_ge (by omega) hn)) (fun _ => ?_)
    refine lv_aload_n hx hb d_java_util_Arrays_fill_10 rfl (lv_at hl 2 rfl) ?_
    refine lv_iload_n hx hb d_java_util_Arrays_fill_11 rfl (lv_at hl 0 rfl) ?_
    refine lv_iload_n hx hb d_java_util_Arrays_fill_12 rfl (lv_at hl 3 rfl) ?_
    refine zz_iast hx hb hK hP hD hS 0 0 rfl ht i (zix_nI (by omega) (by omega)) d_java_util_Arrays_fill_13 (fun H locs hP hD hS => ?_)
    rw [zfill_s] at hP hD
    refine lv_iinc (k := 0) (v := nI (i + 1)) (lv' := [(2, .int (nI (i + 1))), (3, .int (nI n)), (0, .ref a), (1, .int v)]) hx hb d_java_util_Arrays_fill_14 hl rfl (nI_1 i) (by decide) rfl (fun ls hl => ?_)
    refine lv_goto hx hb d_java_util_Arrays_fill_17 rfl ?_
    exact ih (i + 1) H locs ls (by omega) hP hD hS hl
end zfills
abbrev y_java_util_Arrays_fill : MethodName := ⟨"java/util/Arrays", "fill", "([II)V"⟩
theorem d_java_util_Arrays_fill_0 : decode b_java_util_Arrays_fill 0 = .ok (.iconst 0, 1) := by decide +kernel
theorem d_java_util_Arrays_fill_1 : decode b_java_util_Arrays_fill 1 = .ok (.istore_n 2, 1) := by decide +kernel
theorem d_java_util_Arrays_fill_2 : decode b_java_util_Arrays_fill 2 = .ok (.aload_n 0, 1) := by decide +kernel
theorem d_java_util_Arrays_fill_3 : decode b_java_util_Arrays_fill 3 = .ok (.arraylength, 1) := by decide +kernel
theorem d_java_util_Arrays_fill_4 : decode b_java_util_Arrays_fill 4 = .ok (.istore_n 3, 1) := by decide +kernel
theorem d_java_util_Arrays_fill_20 : decode b_java_util_Arrays_fill 20 = .ok (.return_, 1) := by decide +kernel
set_option maxHeartbeats 4000000 in
set_option maxRecDepth 100000 in
theorem c_fill (l : Launch) (D : va_G) (cI cB cZ cS : ClassId) (sz : Nat) (a : Nat) (n : Nat) (f : Nat → Int32) (v : Int32) (hn : n < 2 ^ 31) : Met l y_java_util_Arrays_fill (zc y_java_util_Arrays_fill b_java_util_Arrays_fill 4 none) ({ frames := 0, cells := 0, slots := 0, locals := 0 }) (zPc D (zty cI cB cZ cS) [(a, .inl (cI, n, .inl f))] sz [.ref a, .int v]) (va_Qv (fun _ : Unit => True) (fun _ t => va_P D zcl [(a, .inl (cI, n, .inl (zfill f n v)))] t.heap ∧ va_D (va_A [(a, .inl (cI, n, .inl f))] sz) [(a, .inl (cI, n, .inl (zfill f n v)))]) (va_A [(a, .inl (cI, n, .inl f))] sz)) 0 0 (va_A [(a, .inl (cI, n, .inl f))] sz) := by
  refine Met.ofW (cc := b_java_util_Arrays_fill) (maxL := 4) (ret := none) (by decide) rfl ?_
  intro p e s m args below meth c s₁ B hml hv
  obtain ⟨rfl, hsz, hP, ⟨hK, hN⟩, hD0⟩ := hv
  have hx := B.exec
  have hb := B.bytes
  have hr := B.returns
  have hts0 := atoms_spec (ws := zc y_java_util_Arrays_fill b_java_util_Arrays_fill 4 none) B.pre
  have hts : ∀ w ∈ zw, w.before _ s = true := fun w hw => hts0 w (List.mem_cons_of_mem _ hw)
  have hown : s.vm.findClass "java/util/Arrays" = some m.cls := findClass_of_methodNamed B.named
  have hlocks := B.notSynchronized
  subst hsz
  have hD := hD0.self (sz := s.heap.size)
  generalize hAe : va_A [(a, .inl (cI, n, .inl f))] s.heap.size = A at hD ⊢
  have hA : ∀ q : Nat, s.heap.size ≤ q → A q := fun q h => by rw [← hAe]; exact Or.inr h
  have hS : va_S A s.heap s.heap [] := va_S.rf
  have hP : va_P D zcl [(a, .inl (cI, n, .inl f))] s.heap := hP
  have hl := lv_entry ([.ref a, .int v]) (n := 4) (Nat.le_of_ble_eq_true rfl)
  rw [lg_entry_eq]
  generalize (lg_sl ([.ref a, .int v]) ++ List.replicate (4 - (lg_sl ([.ref a, .int v])).length) Slot.unset).toArray = ls at hl ⊢
  have hl : lv_has ls 4 [(0, .ref a), (1, .int v)] := hl
  refine lv_iconst (v := 0) hx hb d_java_util_Arrays_fill_0 (by decide) ?_
  refine lv_istore_n (lv' := [(2, .int 0), (0, .ref a), (1, .int v)]) hx hb d_java_util_Arrays_fill_1 rfl hl (by decide) rfl (fun ls hl => ?_)
  refine lv_aload_n hx hb d_java_util_Arrays_fill_2 rfl (lv_at hl 1 rfl) ?_
  refine va_alen (v := (nI n)) hx hb hK hP 0 0 rfl rfl rfl d_java_util_Arrays_fill_3 ?_
  refine lv_istore_n (lv' := [(3, .int (nI n)), (2, .int 0), (0, .ref a), (1, .int v)]) hx hb d_java_util_Arrays_fill_4 rfl hl (by decide) rfl (fun ls hl => ?_)
  have hl := lv_sub hl (l' := [(2, .int (nI 0)), (3, .int (nI n)), (0, .ref a), (1, .int v)]) [1, 0, 2, 3] rfl
  rw [show f = zfill f 0 v from zfill_0.symm] at hP hD
  refine lp_fill hx hb hK (cI := cI) rfl hn (fun H locs ls hP hD hS => ?_) n 0 _ _ _ (by omega) hP hD hS hl
  -- behind the loop
  try have H9 := H
  have hP9 := hP.sub (ws' := [(a, .inl (cI, n, .inl (zfill f n v)))]) [0] rfl
  have hD9 := hD.sub (ws' := [(a, .inl (cI, n, .inl (zfill f n v)))]) [0] (by decide +kernel) rfl
  refine W.widen (k := 0) (n := 0) (by omega) (by omega) ?_
  exact W.vret hx hb hr (fun t ht hW => ⟨⟨(), rfl, trivial, by rw [ht]; exact hP9, hD9⟩, hS.F ht⟩) hS.2.2 d_java_util_Arrays_fill_20
abbrev b_Names_bucketOf : ByteArray := prog_5_method_5_code
abbrev y_Names_bucketOf : MethodName := ⟨"ProofDesk$Names", "bucketOf", "([BII)I"⟩
theorem d_Names_bucketOf_0 : decode b_Names_bucketOf 0 = .ok (.iconst 0, 1) := by decide +kernel
theorem d_Names_bucketOf_1 : decode b_Names_bucketOf 1 = .ok (.istore_n 3, 1) := by decide +kernel
theorem d_Names_bucketOf_2 : decode b_Names_bucketOf 2 = .ok (.iload_n 1, 1) := by decide +kernel
theorem d_Names_bucketOf_3 : decode b_Names_bucketOf 3 = .ok (.istore 4, 2) := by decide +kernel
theorem d_Names_bucketOf_5 : decode b_Names_bucketOf 5 = .ok (.iload 4, 2) := by decide +kernel
theorem d_Names_bucketOf_7 : decode b_Names_bucketOf 7 = .ok (.iload_n 2, 1) := by decide +kernel
theorem d_Names_bucketOf_8 : decode b_Names_bucketOf 8 = .ok (.if_icmp .ge 19, 3) := by decide +kernel
theorem d_Names_bucketOf_11 : decode b_Names_bucketOf 11 = .ok (.bipush 31, 2) := by decide +kernel
theorem d_Names_bucketOf_13 : decode b_Names_bucketOf 13 = .ok (.iload_n 3, 1) := by decide +kernel
theorem d_Names_bucketOf_14 : decode b_Names_bucketOf 14 = .ok (.imul, 1) := by decide +kernel
theorem d_Names_bucketOf_15 : decode b_Names_bucketOf 15 = .ok (.aload_n 0, 1) := by decide +kernel
theorem d_Names_bucketOf_16 : decode b_Names_bucketOf 16 = .ok (.iload 4, 2) := by decide +kernel
theorem d_Names_bucketOf_18 : decode b_Names_bucketOf 18 = .ok (.baload, 1) := by decide +kernel
theorem d_Names_bucketOf_19 : decode b_Names_bucketOf 19 = .ok (.iadd, 1) := by decide +kernel
theorem d_Names_bucketOf_20 : decode b_Names_bucketOf 20 = .ok (.istore_n 3, 1) := by decide +kernel
theorem d_Names_bucketOf_21 : decode b_Names_bucketOf 21 = .ok (.iinc 4 1, 3) := by decide +kernel
theorem d_Names_bucketOf_24 : decode b_Names_bucketOf 24 = .ok (.goto (-19), 3) := by decide +kernel
theorem d_Names_bucketOf_27 : decode b_Names_bucketOf 27 = .ok (.iload_n 3, 1) := by decide +kernel
theorem d_Names_bucketOf_28 : decode b_Names_bucketOf 28 = .ok (.bipush 127, 2) := by decide +kernel
theorem d_Names_bucketOf_30 : decode b_Names_bucketOf 30 = .ok (.iand, 1) := by decide +kernel
theorem d_Names_bucketOf_31 : decode b_Names_bucketOf 31 = .ok (.ireturn, 1) := by decide +kernel
set_option maxHeartbeats 4000000 in
set_option maxRecDepth 100000 in
theorem c_Names_bucketOf0 (l : Launch) (D : va_G) (cI cB cZ cS : ClassId) (sz : Nat) (a : Nat) : Met l y_Names_bucketOf (zc y_Names_bucketOf b_Names_bucketOf 5 (some .int)) ({ frames := 0, cells := 0, slots := 0, locals := 0 }) (zPc D (zty cI cB cZ cS) [(a, .inl (cB, 2, .inl (upd (upd (fun _ => 0) 0 120) 1 77)))] sz [.ref a, .int 0, .int 1]) (va_Qi (fun (r : Int32) (_ : Unit) => r = 120) (fun _ t => va_P D zcl [(a, .inl (cB, 2, .inl (upd (upd (fun _ => 0) 0 120) 1 77)))] t.heap ∧ va_D (va_A [(a, .inl (cB, 2, .inl (upd (upd (fun _ => 0) 0 120) 1 77)))] sz) [(a, .inl (cB, 2, .inl (upd (upd (fun _ => 0) 0 120) 1 77)))]) (va_A [(a, .inl (cB, 2, .inl (upd (upd (fun _ => 0) 0 120) 1 77)))] sz)) 0 0 (va_A [(a, .inl (cB, 2, .inl (upd (upd (fun _ => 0) 0 120) 1 77)))] sz) := by
  refine Met.ofW (cc := b_Names_bucketOf) (maxL := 5) (ret := (some .int)) (by decide) rfl ?_
  intro p e s m args below meth c s₁ B hml hv
  obtain ⟨rfl, hsz, hP, ⟨hK, hN⟩, hD0⟩ := hv
  have hx := B.exec
  have hb := B.bytes
  have hr := B.returns
  have hts0 := atoms_spec (ws := zc y_Names_bucketOf b_Names_bucketOf 5 (some .int)) B.pre
  have hts : ∀ w ∈ zw, w.before _ s = true := fun w hw => hts0 w (List.mem_cons_of_mem _ hw)
  have hown : s.vm.findClass "ProofDesk$Names" = some m.cls := findClass_of_methodNamed B.named
  have hlocks := B.notSynchronized
  subst hsz
  have hD := hD0.self (sz := s.heap.size)
  generalize hAe : va_A [(a, .inl (cB, 2, .inl (upd (upd (fun _ => 0) 0 120) 1 77)))] s.heap.size = A at hD ⊢
  have hA : ∀ q : Nat, s.heap.size ≤ q → A q := fun q h => by rw [← hAe]; exact Or.inr h
  have hS : va_S A s.heap s.heap [] := va_S.rf
  have hP : va_P D zcl [(a, .inl (cB, 2, .inl (upd (upd (fun _ => 0) 0 120) 1 77)))] s.heap := hP
  have hl := lv_entry ([.ref a, .int 0, .int 1]) (n := 5) (Nat.le_of_ble_eq_true rfl)
  rw [lg_entry_eq]
  generalize (lg_sl ([.ref a, .int 0, .int 1]) ++ List.replicate (5 - (lg_sl ([.ref a, .int 0, .int 1])).length) Slot.unset).toArray = ls at hl ⊢
  have hl : lv_has ls 5 [(0, .ref a), (1, .int 0), (2, .int 1)] := hl
  refine lv_iconst (v := 0) hx hb d_Names_bucketOf_0 (by decide) ?_
  refine lv_istore_n (lv' := [(3, .int 0), (0, .ref a), (1, .int 0), (2, .int 1)]) hx hb d_Names_bucketOf_1 rfl hl (by decide) rfl (fun ls hl => ?_)
  refine lv_iload_n hx hb d_Names_bucketOf_2 rfl (lv_at hl 2 rfl) ?_
  refine lv_istore (lv' := [(4, .int 0), (3, .int 0), (0, .ref a), (1, .int 0), (2, .int 1)]) hx hb d_Names_bucketOf_3 hl (by decide) rfl (fun ls hl => ?_)
  refine lv_iload hx hb d_Names_bucketOf_5 (lv_at hl 0 rfl) ?_
  refine lv_iload_n hx hb d_Names_bucketOf_7 rfl (lv_at hl 4 rfl) ?_
  have hc_1 : ¬ (1 : Int32) ≤ 0 := by decide +kernel
  refine lv_icmp_ge hx hb d_Names_bucketOf_8 rfl (fun h => absurd h hc_1) (fun _ => ?_)
  refine lv_bipush (v := 31) hx hb d_Names_bucketOf_11 (by decide) ?_
  refine lv_iload_n hx hb d_Names_bucketOf_13 rfl (lv_at hl 1 rfl) ?_
  refine lv_imul hx hb d_Names_bucketOf_14 ?_
  refine zz_i (y := 0) (by decide +kernel) ?_
  refine lv_aload_n hx hb d_Names_bucketOf_15 rfl (lv_at hl 2 rfl) ?_
  refine lv_iload hx hb d_Names_bucketOf_16 (lv_at hl 0 rfl) ?_
  refine zz_bald (v := 120) hx hb hK hP 0 1 rfl rfl (i := 0) 0 (⟨by decide +kernel, by decide +kernel, by decide +kernel⟩) (by first | rfl | decide +kernel | simp [upd]) d_Names_bucketOf_18 ?_
  refine lv_iadd hx hb d_Names_bucketOf_19 ?_
  refine zz_i (y := 120) (by decide +kernel) ?_
  refine lv_istore_n (lv' := [(3, .int 120), (4, .int 0), (0, .ref a), (1, .int 0), (2, .int 1)]) hx hb d_Names_bucketOf_20 rfl hl (by decide) rfl (fun ls hl => ?_)
  refine lv_iinc (k := 1) (v := 1) (lv' := [(4, .int 1), (3, .int 120), (0, .ref a), (1, .int 0), (2, .int 1)]) hx hb d_Names_bucketOf_21 hl rfl (by decide +kernel) (by decide) rfl (fun ls hl => ?_)
  refine lv_goto hx hb d_Names_bucketOf_24 rfl ?_
  refine lv_iload hx hb d_Names_bucketOf_5 (lv_at hl 0 rfl) ?_
  refine lv_iload_n hx hb d_Names_bucketOf_7 rfl (lv_at hl 4 rfl) ?_
  have hc_2 : (1 : Int32) ≤ 1 := by decide +kernel
  refine lv_icmp_ge hx hb d_Names_bucketOf_8 rfl (fun _ => ?_) (fun h => absurd hc_2 h)
  refine lv_iload_n hx hb d_Names_bucketOf_27 rfl (lv_at hl 1 rfl) ?_
  refine lv_bipush (v := 127) hx hb d_Names_bucketOf_28 (by decide) ?_
  refine lv_iand hx hb d_Names_bucketOf_30 ?_
  refine zz_i (y := 120) (by decide +kernel) ?_
  have hP9 := hP.sub (ws' := [(a, .inl (cB, 2, .inl (upd (upd (fun _ => 0) 0 120) 1 77)))]) [0] rfl
  have hD9 := hD.sub (ws' := [(a, .inl (cB, 2, .inl (upd (upd (fun _ => 0) 0 120) 1 77)))]) [0] (by decide +kernel) rfl
  refine W.widen (k := 0) (n := 0) (by omega) (by omega) ?_
  exact W.iret (v := 120) hx hb hr (fun t ht hW => ⟨⟨120, (), rfl, rfl, by rw [ht]; exact hP9, hD9⟩, hS.F ht⟩) hS.2.2 d_Names_bucketOf_31
set_option maxHeartbeats 4000000 in
set_option maxRecDepth 100000 in
theorem c_Names_bucketOf1 (l : Launch) (D : va_G) (cI cB cZ cS : ClassId) (sz : Nat) (a : Nat) : Met l y_Names_bucketOf (zc y_Names_bucketOf b_Names_bucketOf 5 (some .int)) ({ frames := 0, cells := 0, slots := 0, locals := 0 }) (zPc D (zty cI cB cZ cS) [(a, .inl (cB, 2, .inl (upd (upd (fun _ => 0) 0 120) 1 77)))] sz [.ref a, .int 1, .int 2]) (va_Qi (fun (r : Int32) (_ : Unit) => r = 77) (fun _ t => va_P D zcl [(a, .inl (cB, 2, .inl (upd (upd (fun _ => 0) 0 120) 1 77)))] t.heap ∧ va_D (va_A [(a, .inl (cB, 2, .inl (upd (upd (fun _ => 0) 0 120) 1 77)))] sz) [(a, .inl (cB, 2, .inl (upd (upd (fun _ => 0) 0 120) 1 77)))]) (va_A [(a, .inl (cB, 2, .inl (upd (upd (fun _ => 0) 0 120) 1 77)))] sz)) 0 0 (va_A [(a, .inl (cB, 2, .inl (upd (upd (fun _ => 0) 0 120) 1 77)))] sz) := by
  refine Met.ofW (cc := b_Names_bucketOf) (maxL := 5) (ret := (some .int)) (by decide) rfl ?_
  intro p e s m args below meth c s₁ B hml hv
  obtain ⟨rfl, hsz, hP, ⟨hK, hN⟩, hD0⟩ := hv
  have hx := B.exec
  have hb := B.bytes
  have hr := B.returns
  have hts0 := atoms_spec (ws := zc y_Names_bucketOf b_Names_bucketOf 5 (some .int)) B.pre
  have hts : ∀ w ∈ zw, w.before _ s = true := fun w hw => hts0 w (List.mem_cons_of_mem _ hw)
  have hown : s.vm.findClass "ProofDesk$Names" = some m.cls := findClass_of_methodNamed B.named
  have hlocks := B.notSynchronized
  subst hsz
  have hD := hD0.self (sz := s.heap.size)
  generalize hAe : va_A [(a, .inl (cB, 2, .inl (upd (upd (fun _ => 0) 0 120) 1 77)))] s.heap.size = A at hD ⊢
  have hA : ∀ q : Nat, s.heap.size ≤ q → A q := fun q h => by rw [← hAe]; exact Or.inr h
  have hS : va_S A s.heap s.heap [] := va_S.rf
  have hP : va_P D zcl [(a, .inl (cB, 2, .inl (upd (upd (fun _ => 0) 0 120) 1 77)))] s.heap := hP
  have hl := lv_entry ([.ref a, .int 1, .int 2]) (n := 5) (Nat.le_of_ble_eq_true rfl)
  rw [lg_entry_eq]
  generalize (lg_sl ([.ref a, .int 1, .int 2]) ++ List.replicate (5 - (lg_sl ([.ref a, .int 1, .int 2])).length) Slot.unset).toArray = ls at hl ⊢
  have hl : lv_has ls 5 [(0, .ref a), (1, .int 1), (2, .int 2)] := hl
  refine lv_iconst (v := 0) hx hb d_Names_bucketOf_0 (by decide) ?_
  refine lv_istore_n (lv' := [(3, .int 0), (0, .ref a), (1, .int 1), (2, .int 2)]) hx hb d_Names_bucketOf_1 rfl hl (by decide) rfl (fun ls hl => ?_)
  refine lv_iload_n hx hb d_Names_bucketOf_2 rfl (lv_at hl 2 rfl) ?_
  refine lv_istore (lv' := [(4, .int 1), (3, .int 0), (0, .ref a), (1, .int 1), (2, .int 2)]) hx hb d_Names_bucketOf_3 hl (by decide) rfl (fun ls hl => ?_)
  refine lv_iload hx hb d_Names_bucketOf_5 (lv_at hl 0 rfl) ?_
  refine lv_iload_n hx hb d_Names_bucketOf_7 rfl (lv_at hl 4 rfl) ?_
  have hc_1 : ¬ (2 : Int32) ≤ 1 := by decide +kernel
  refine lv_icmp_ge hx hb d_Names_bucketOf_8 rfl (fun h => absurd h hc_1) (fun _ => ?_)
  refine lv_bipush (v := 31) hx hb d_Names_bucketOf_11 (by decide) ?_
  refine lv_iload_n hx hb d_Names_bucketOf_13 rfl (lv_at hl 1 rfl) ?_
  refine lv_imul hx hb d_Names_bucketOf_14 ?_
  refine zz_i (y := 0) (by decide +kernel) ?_
  refine lv_aload_n hx hb d_Names_bucketOf_15 rfl (lv_at hl 2 rfl) ?_
  refine lv_iload hx hb d_Names_bucketOf_16 (lv_at hl 0 rfl) ?_
  refine zz_bald (v := 77) hx hb hK hP 0 1 rfl rfl (i := 1) 1 (⟨by decide +kernel, by decide +kernel, by decide +kernel⟩) (by first | rfl | decide +kernel | simp [upd]) d_Names_bucketOf_18 ?_
  refine lv_iadd hx hb d_Names_bucketOf_19 ?_
  refine zz_i (y := 77) (by decide +kernel) ?_
  refine lv_istore_n (lv' := [(3, .int 77), (4, .int 1), (0, .ref a), (1, .int 1), (2, .int 2)]) hx hb d_Names_bucketOf_20 rfl hl (by decide) rfl (fun ls hl => ?_)
  refine lv_iinc (k := 1) (v := 2) (lv' := [(4, .int 2), (3, .int 77), (0, .ref a), (1, .int 1), (2, .int 2)]) hx hb d_Names_bucketOf_21 hl rfl (by decide +kernel) (by decide) rfl (fun ls hl => ?_)
  refine lv_goto hx hb d_Names_bucketOf_24 rfl ?_
  refine lv_iload hx hb d_Names_bucketOf_5 (lv_at hl 0 rfl) ?_
  refine lv_iload_n hx hb d_Names_bucketOf_7 rfl (lv_at hl 4 rfl) ?_
  have hc_2 : (2 : Int32) ≤ 2 := by decide +kernel
  refine lv_icmp_ge hx hb d_Names_bucketOf_8 rfl (fun _ => ?_) (fun h => absurd hc_2 h)
  refine lv_iload_n hx hb d_Names_bucketOf_27 rfl (lv_at hl 1 rfl) ?_
  refine lv_bipush (v := 127) hx hb d_Names_bucketOf_28 (by decide) ?_
  refine lv_iand hx hb d_Names_bucketOf_30 ?_
  refine zz_i (y := 77) (by decide +kernel) ?_
  have hP9 := hP.sub (ws' := [(a, .inl (cB, 2, .inl (upd (upd (fun _ => 0) 0 120) 1 77)))]) [0] rfl
  have hD9 := hD.sub (ws' := [(a, .inl (cB, 2, .inl (upd (upd (fun _ => 0) 0 120) 1 77)))]) [0] (by decide +kernel) rfl
  refine W.widen (k := 0) (n := 0) (by omega) (by omega) ?_
  exact W.iret (v := 77) hx hb hr (fun t ht hW => ⟨⟨77, (), rfl, rfl, by rw [ht]; exact hP9, hD9⟩, hS.F ht⟩) hS.2.2 d_Names_bucketOf_31
abbrev b_Names_lookUp : ByteArray := prog_5_method_2_code
abbrev y_Names_lookUp : MethodName := ⟨"ProofDesk$Names", "lookUp", "([BII)I"⟩
theorem d_Names_lookUp_0 : decode b_Names_lookUp 0 = .ok (.aload_n 0, 1) := by decide +kernel
theorem d_Names_lookUp_1 : decode b_Names_lookUp 1 = .ok (.getfield 19, 3) := by decide +kernel
theorem kw_146 : (Jvm.Cond.fieldLink "ProofDesk$Names" (19 : Nat) "ProofDesk$Names" "buckets" "[I") ∈ zw := List.mem_filter.mpr ⟨List.mem_append_right _ (List.mem_of_getElem? (i := 146) (by decide +kernel)), by decide +kernel⟩
theorem d_Names_lookUp_4 : decode b_Names_lookUp 4 = .ok (.aload_n 1, 1) := by decide +kernel
theorem d_Names_lookUp_5 : decode b_Names_lookUp 5 = .ok (.iload_n 2, 1) := by decide +kernel
theorem d_Names_lookUp_6 : decode b_Names_lookUp 6 = .ok (.iload_n 3, 1) := by decide +kernel
theorem d_Names_lookUp_7 : decode b_Names_lookUp 7 = .ok (.invokestatic 32, 3) := by decide +kernel
theorem kw_105 : (Jvm.Cond.code ({ cls := "ProofDesk$Names", name := "bucketOf", desc := "([BII)I" } : Jvm.MethodName) prog_5_method_5_code (5 : Nat) (Option.some Jvm.ClassFile.FieldType.int)) ∈ zw := List.mem_filter.mpr ⟨List.mem_append_right _ (List.mem_of_getElem? (i := 105) rfl), by decide +kernel⟩
theorem kw_4 : (Jvm.Cond.initialized "ProofDesk$Names") ∈ zw := List.mem_filter.mpr ⟨List.mem_append_right _ (List.mem_of_getElem? (i := 4) (by decide +kernel)), by decide +kernel⟩
theorem kw_103 : (Jvm.Cond.methodLink "ProofDesk$Names" (32 : Nat) ({ cls := "ProofDesk$Names", name := "bucketOf", desc := "([BII)I" } : Jvm.MethodName)) ∈ zw := List.mem_filter.mpr ⟨List.mem_append_right _ (List.mem_of_getElem? (i := 103) (by decide +kernel)), by decide +kernel⟩
theorem kw_104 : (Jvm.Cond.static ({ cls := "ProofDesk$Names", name := "bucketOf", desc := "([BII)I" } : Jvm.MethodName)) ∈ zw := List.mem_filter.mpr ⟨List.mem_append_right _ (List.mem_of_getElem? (i := 104) (by decide +kernel)), by decide +kernel⟩
theorem d_Names_lookUp_10 : decode b_Names_lookUp 10 = .ok (.iaload, 1) := by decide +kernel
theorem d_Names_lookUp_11 : decode b_Names_lookUp 11 = .ok (.istore 4, 2) := by decide +kernel
theorem d_Names_lookUp_13 : decode b_Names_lookUp 13 = .ok (.iload 4, 2) := by decide +kernel
theorem d_Names_lookUp_15 : decode b_Names_lookUp 15 = .ok (.iconst (-1), 1) := by decide +kernel
theorem d_Names_lookUp_16 : decode b_Names_lookUp 16 = .ok (.if_icmp .eq 35, 3) := by decide +kernel
theorem d_Names_lookUp_51 : decode b_Names_lookUp 51 = .ok (.iconst (-1), 1) := by decide +kernel
theorem d_Names_lookUp_52 : decode b_Names_lookUp 52 = .ok (.ireturn, 1) := by decide +kernel
set_option maxHeartbeats 4000000 in
set_option maxRecDepth 100000 in
theorem c_Names_lookUp0 (l : Launch) (D : va_G) (cI cB cZ cS : ClassId) (sz : Nat) (h0 : Nat) (lt : Nat) (rw : Nat) (bu : Nat) (a : Nat) : Met l y_Names_lookUp (zc y_Names_lookUp b_Names_lookUp 5 (some .int)) ({ frames := 1, cells := 0, slots := 0, locals := 24 }) (zPc D (zty cI cB cZ cS) [(h0, .inr (2, [.ref lt, .int 0, .ref rw, .ref bu, .int 0, .int 0])), (lt, .inl (cB, 256, .inl (fun _ => 0))), (rw, .inl (cI, 224, .inl (fun _ => 0))), (bu, .inl (cI, 128, .inl (zfill (fun _ => 0) 128 (-1)))), (a, .inl (cB, 2, .inl (upd (upd (fun _ => 0) 0 120) 1 77)))] sz [.ref h0, .ref a, .int 0, .int 1]) (va_Qi (fun (r : Int32) (_ : Unit) => r = (-1)) (fun _ t => va_P D zcl [(h0, .inr (2, [.ref lt, .int 0, .ref rw, .ref bu, .int 0, .int 0])), (lt, .inl (cB, 256, .inl (fun _ => 0))), (rw, .inl (cI, 224, .inl (fun _ => 0))), (bu, .inl (cI, 128, .inl (zfill (fun _ => 0) 128 (-1)))), (a, .inl (cB, 2, .inl (upd (upd (fun _ => 0) 0 120) 1 77)))] t.heap ∧ va_D (va_A [(h0, .inr (2, [.ref lt, .int 0, .ref rw, .ref bu, .int 0, .int 0])), (lt, .inl (cB, 256, .inl (fun _ => 0))), (rw, .inl (cI, 224, .inl (fun _ => 0))), (bu, .inl (cI, 128, .inl (zfill (fun _ => 0) 128 (-1)))), (a, .inl (cB, 2, .inl (upd (upd (fun _ => 0) 0 120) 1 77)))] sz) [(h0, .inr (2, [.ref lt, .int 0, .ref rw, .ref bu, .int 0, .int 0])), (lt, .inl (cB, 256, .inl (fun _ => 0))), (rw, .inl (cI, 224, .inl (fun _ => 0))), (bu, .inl (cI, 128, .inl (zfill (fun _ => 0) 128 (-1)))), (a, .inl (cB, 2, .inl (upd (upd (fun _ => 0) 0 120) 1 77)))]) (va_A [(h0, .inr (2, [.ref lt, .int 0, .ref rw, .ref bu, .int 0, .int 0])), (lt, .inl (cB, 256, .inl (fun _ => 0))), (rw, .inl (cI, 224, .inl (fun _ => 0))), (bu, .inl (cI, 128, .inl (zfill (fun _ => 0) 128 (-1)))), (a, .inl (cB, 2, .inl (upd (upd (fun _ => 0) 0 120) 1 77)))] sz)) 0 0 (va_A [(h0, .inr (2, [.ref lt, .int 0, .ref rw, .ref bu, .int 0, .int 0])), (lt, .inl (cB, 256, .inl (fun _ => 0))), (rw, .inl (cI, 224, .inl (fun _ => 0))), (bu, .inl (cI, 128, .inl (zfill (fun _ => 0) 128 (-1)))), (a, .inl (cB, 2, .inl (upd (upd (fun _ => 0) 0 120) 1 77)))] sz) := by
  refine Met.ofW (cc := b_Names_lookUp) (maxL := 5) (ret := (some .int)) (by decide) rfl ?_
  intro p e s m args below meth c s₁ B hml hv
  obtain ⟨rfl, hsz, hP, ⟨hK, hN⟩, hD0⟩ := hv
  have hx := B.exec
  have hb := B.bytes
  have hr := B.returns
  have hts0 := atoms_spec (ws := zc y_Names_lookUp b_Names_lookUp 5 (some .int)) B.pre
  have hts : ∀ w ∈ zw, w.before _ s = true := fun w hw => hts0 w (List.mem_cons_of_mem _ hw)
  have hown : s.vm.findClass "ProofDesk$Names" = some m.cls := findClass_of_methodNamed B.named
  have hlocks := B.notSynchronized
  subst hsz
  have hD := hD0.self (sz := s.heap.size)
  generalize hAe : va_A [(h0, .inr (2, [.ref lt, .int 0, .ref rw, .ref bu, .int 0, .int 0])), (lt, .inl (cB, 256, .inl (fun _ => 0))), (rw, .inl (cI, 224, .inl (fun _ => 0))), (bu, .inl (cI, 128, .inl (zfill (fun _ => 0) 128 (-1)))), (a, .inl (cB, 2, .inl (upd (upd (fun _ => 0) 0 120) 1 77)))] s.heap.size = A at hD ⊢
  have hA : ∀ q : Nat, s.heap.size ≤ q → A q := fun q h => by rw [← hAe]; exact Or.inr h
  have hS : va_S A s.heap s.heap [] := va_S.rf
  have hP : va_P D zcl [(h0, .inr (2, [.ref lt, .int 0, .ref rw, .ref bu, .int 0, .int 0])), (lt, .inl (cB, 256, .inl (fun _ => 0))), (rw, .inl (cI, 224, .inl (fun _ => 0))), (bu, .inl (cI, 128, .inl (zfill (fun _ => 0) 128 (-1)))), (a, .inl (cB, 2, .inl (upd (upd (fun _ => 0) 0 120) 1 77)))] s.heap := hP
  have hl := lv_entry ([.ref h0, .ref a, .int 0, .int 1]) (n := 5) (Nat.le_of_ble_eq_true rfl)
  rw [lg_entry_eq]
  generalize (lg_sl ([.ref h0, .ref a, .int 0, .int 1]) ++ List.replicate (5 - (lg_sl ([.ref h0, .ref a, .int 0, .int 1])).length) Slot.unset).toArray = ls at hl ⊢
  have hl : lv_has ls 5 [(0, .ref h0), (1, .ref a), (2, .int 0), (3, .int 1)] := hl
  refine lv_aload_n hx hb d_Names_lookUp_0 rfl (lv_at hl 0 rfl) ?_
  refine va_get (D := D) (ci := 2) (v := .ref bu) (C := "ProofDesk$Names") (T := F_Names) (N := 6) hx hb hts in_Names hown hK hP 0 rfl rfl 3 (by decide) (hts _ kw_146) (fun _ h9 => h9) rfl d_Names_lookUp_1 ?_
  refine lv_aload_n hx hb d_Names_lookUp_4 rfl (lv_at hl 1 rfl) ?_
  refine lv_iload_n hx hb d_Names_lookUp_5 rfl (lv_at hl 2 rfl) ?_
  refine lv_iload_n hx hb d_Names_lookUp_6 rfl (lv_at hl 3 rfl) ?_
  have hPc := hP.sub (ws' := [(a, .inl (cB, 2, .inl (upd (upd (fun _ => 0) 0 120) 1 77)))]) [4] rfl
  have hDc := hD.sub (ws' := [(a, .inl (cB, 2, .inl (upd (upd (fun _ => 0) 0 120) 1 77)))]) [4] (by decide +kernel) rfl
  have hFc := va_free (wc := [(a, .inl (cB, 2, .inl (upd (upd (fun _ => 0) 0 120) 1 77)))]) hD hS hA [4] rfl
  have hkc : 0 + 0 ≤ 0 := by omega
  have hks : 0 + 0 ≤ 0 := by omega
  refine va_calli (va_runS (As := [.ref a, .int 0, .int 1]) (rest := [.ref bu]) ⟨hx, hb, hml, hown, hts⟩ (c_Names_bucketOf0 l D cI cB cZ cS s.heap.size a) (⟨callB_of 3 hts (zgood kw_105) rfl rfl rfl (hts _ kw_4) (hts _ kw_103) (by decide +kernel) ⟨Nat.le_of_ble_eq_true rfl, Nat.le_of_ble_eq_true rfl⟩, hts _ kw_104⟩) (zPreS hPc hK hN hDc) rfl rfl hl.1 rfl (lv_room (Nat.le_of_ble_eq_true rfl)) d_Names_lookUp_7 ⟨hkc, hks⟩) hS (fun q _ h => hFc q h) hFc (fun r u t H1 locs ht hvm hw hB hz1 hk1 hS => ?_)
  obtain ⟨hP1, hD1⟩ := hB
  rw [ht] at hP1
  obtain ⟨hP, hD⟩ := va_join (wr := [(h0, .inr (2, [.ref lt, .int 0, .ref rw, .ref bu, .int 0, .int 0])), (lt, .inl (cB, 256, .inl (fun _ => 0))), (rw, .inl (cI, 224, .inl (fun _ => 0))), (bu, .inl (cI, 128, .inl (zfill (fun _ => 0) 128 (-1))))]) (w1 := [(a, .inl (cB, 2, .inl (upd (upd (fun _ => 0) 0 120) 1 77)))]) hP hD [4] [0, 1, 2, 3] rfl rfl (by decide +kernel) (by decide +kernel) hk1 hFc hP1 hD1
  generalize H1 = H at hP hS ⊢
  have hP : va_P D zcl [(h0, .inr (2, [.ref lt, .int 0, .ref rw, .ref bu, .int 0, .int 0])), (lt, .inl (cB, 256, .inl (fun _ => 0))), (rw, .inl (cI, 224, .inl (fun _ => 0))), (bu, .inl (cI, 128, .inl (zfill (fun _ => 0) 128 (-1)))), (a, .inl (cB, 2, .inl (upd (upd (fun _ => 0) 0 120) 1 77)))] H := hP
  have hD : va_D A [(h0, .inr (2, [.ref lt, .int 0, .ref rw, .ref bu, .int 0, .int 0])), (lt, .inl (cB, 256, .inl (fun _ => 0))), (rw, .inl (cI, 224, .inl (fun _ => 0))), (bu, .inl (cI, 128, .inl (zfill (fun _ => 0) 128 (-1)))), (a, .inl (cB, 2, .inl (upd (upd (fun _ => 0) 0 120) 1 77)))] := hD
  subst hw
  refine W.widen (k := 0) (n := 0) (by omega) (by omega) ?_
  refine zz_iald (v := (-1)) hx hb hK hP 3 0 rfl rfl (i := 120) 120 (⟨by decide +kernel, by decide +kernel, by decide +kernel⟩) (by first | rfl | decide +kernel | simp [upd]) d_Names_lookUp_10 ?_
  refine lv_istore (lv' := [(4, .int (-1)), (0, .ref h0), (1, .ref a), (2, .int 0), (3, .int 1)]) hx hb d_Names_lookUp_11 hl (by decide) rfl (fun ls hl => ?_)
  refine lv_iload hx hb d_Names_lookUp_13 (lv_at hl 0 rfl) ?_
  refine lv_iconst (v := (-1)) hx hb d_Names_lookUp_15 (by decide) ?_
  have hc_1 : ((-1) : Int32) = (-1) := by decide +kernel
  refine lv_icmp_eq hx hb d_Names_lookUp_16 rfl (fun _ => ?_) (fun h => absurd hc_1 h)
  refine lv_iconst (v := (-1)) hx hb d_Names_lookUp_51 (by decide) ?_
  have hP9 := hP.sub (ws' := [(h0, .inr (2, [.ref lt, .int 0, .ref rw, .ref bu, .int 0, .int 0])), (lt, .inl (cB, 256, .inl (fun _ => 0))), (rw, .inl (cI, 224, .inl (fun _ => 0))), (bu, .inl (cI, 128, .inl (zfill (fun _ => 0) 128 (-1)))), (a, .inl (cB, 2, .inl (upd (upd (fun _ => 0) 0 120) 1 77)))]) [0, 1, 2, 3, 4] rfl
  have hD9 := hD.sub (ws' := [(h0, .inr (2, [.ref lt, .int 0, .ref rw, .ref bu, .int 0, .int 0])), (lt, .inl (cB, 256, .inl (fun _ => 0))), (rw, .inl (cI, 224, .inl (fun _ => 0))), (bu, .inl (cI, 128, .inl (zfill (fun _ => 0) 128 (-1)))), (a, .inl (cB, 2, .inl (upd (upd (fun _ => 0) 0 120) 1 77)))]) [0, 1, 2, 3, 4] (by decide +kernel) rfl
  refine W.widen (k := 0) (n := 0) (by omega) (by omega) ?_
  exact W.iret (v := (-1)) hx hb hr (fun t ht hW => ⟨⟨(-1), (), rfl, rfl, by rw [ht]; exact hP9, hD9⟩, hS.F ht⟩) hS.2.2 d_Names_lookUp_52
abbrev b_Names_add : ByteArray := prog_5_method_4_code
abbrev y_Names_add : MethodName := ⟨"ProofDesk$Names", "add", "([BII)I"⟩
theorem d_Names_add_0 : decode b_Names_add 0 = .ok (.iload_n 3, 1) := by decide +kernel
theorem d_Names_add_1 : decode b_Names_add 1 = .ok (.iload_n 2, 1) := by decide +kernel
theorem d_Names_add_2 : decode b_Names_add 2 = .ok (.isub, 1) := by decide +kernel
theorem d_Names_add_3 : decode b_Names_add 3 = .ok (.istore 4, 2) := by decide +kernel
theorem d_Names_add_5 : decode b_Names_add 5 = .ok (.aload_n 0, 1) := by decide +kernel
theorem d_Names_add_6 : decode b_Names_add 6 = .ok (.getfield 45, 3) := by decide +kernel
theorem kw_144 : (Jvm.Cond.fieldLink "ProofDesk$Names" (45 : Nat) "ProofDesk$Names" "letterCount" "I") ∈ zw := List.mem_filter.mpr ⟨List.mem_append_right _ (List.mem_of_getElem? (i := 144) (by decide +kernel)), by decide +kernel⟩
theorem d_Names_add_9 : decode b_Names_add 9 = .ok (.iload 4, 2) := by decide +kernel
theorem d_Names_add_11 : decode b_Names_add 11 = .ok (.iadd, 1) := by decide +kernel
theorem d_Names_add_12 : decode b_Names_add 12 = .ok (.aload_n 0, 1) := by decide +kernel
theorem d_Names_add_13 : decode b_Names_add 13 = .ok (.getfield 9, 3) := by decide +kernel
theorem kw_143 : (Jvm.Cond.fieldLink "ProofDesk$Names" (9 : Nat) "ProofDesk$Names" "letters" "[B") ∈ zw := List.mem_filter.mpr ⟨List.mem_append_right _ (List.mem_of_getElem? (i := 143) (by decide +kernel)), by decide +kernel⟩
theorem d_Names_add_16 : decode b_Names_add 16 = .ok (.arraylength, 1) := by decide +kernel
theorem d_Names_add_17 : decode b_Names_add 17 = .ok (.if_icmp .le 21, 3) := by decide +kernel
theorem d_Names_add_38 : decode b_Names_add 38 = .ok (.bipush 7, 2) := by decide +kernel
theorem d_Names_add_40 : decode b_Names_add 40 = .ok (.aload_n 0, 1) := by decide +kernel
theorem d_Names_add_41 : decode b_Names_add 41 = .ok (.getfield 53, 3) := by decide +kernel
theorem kw_148 : (Jvm.Cond.fieldLink "ProofDesk$Names" (53 : Nat) "ProofDesk$Names" "count" "I") ∈ zw := List.mem_filter.mpr ⟨List.mem_append_right _ (List.mem_of_getElem? (i := 148) (by decide +kernel)), by decide +kernel⟩
theorem d_Names_add_44 : decode b_Names_add 44 = .ok (.iconst 1, 1) := by decide +kernel
theorem d_Names_add_45 : decode b_Names_add 45 = .ok (.iadd, 1) := by decide +kernel
theorem d_Names_add_46 : decode b_Names_add 46 = .ok (.imul, 1) := by decide +kernel
theorem d_Names_add_47 : decode b_Names_add 47 = .ok (.aload_n 0, 1) := by decide +kernel
theorem d_Names_add_48 : decode b_Names_add 48 = .ok (.getfield 15, 3) := by decide +kernel
theorem kw_145 : (Jvm.Cond.fieldLink "ProofDesk$Names" (15 : Nat) "ProofDesk$Names" "rows" "[I") ∈ zw := List.mem_filter.mpr ⟨List.mem_append_right _ (List.mem_of_getElem? (i := 145) (by decide +kernel)), by decide +kernel⟩
theorem d_Names_add_51 : decode b_Names_add 51 = .ok (.arraylength, 1) := by decide +kernel
theorem d_Names_add_52 : decode b_Names_add 52 = .ok (.if_icmp .le 21, 3) := by decide +kernel
theorem d_Names_add_73 : decode b_Names_add 73 = .ok (.aload_n 1, 1) := by decide +kernel
theorem d_Names_add_74 : decode b_Names_add 74 = .ok (.iload_n 2, 1) := by decide +kernel
theorem d_Names_add_75 : decode b_Names_add 75 = .ok (.aload_n 0, 1) := by decide +kernel
theorem d_Names_add_76 : decode b_Names_add 76 = .ok (.getfield 9, 3) := by decide +kernel
theorem d_Names_add_79 : decode b_Names_add 79 = .ok (.aload_n 0, 1) := by decide +kernel
theorem d_Names_add_80 : decode b_Names_add 80 = .ok (.getfield 45, 3) := by decide +kernel
theorem d_Names_add_83 : decode b_Names_add 83 = .ok (.iload 4, 2) := by decide +kernel
theorem d_Names_add_85 : decode b_Names_add 85 = .ok (.invokestatic 59, 3) := by decide +kernel
theorem kw_142 : (Jvm.Cond.methodLink "ProofDesk$Names" (59 : Nat) ({ cls := "java/lang/System", name := "arraycopy", desc := "(Ljava/lang/Object;ILjava/lang/Object;II)V" } : Jvm.MethodName)) ∈ zw := List.mem_filter.mpr ⟨List.mem_append_right _ (List.mem_of_getElem? (i := 142) (by decide +kernel)), by decide +kernel⟩
theorem kw_133 : (Jvm.Cond.native ({ cls := "java/lang/System", name := "arraycopy", desc := "(Ljava/lang/Object;ILjava/lang/Object;II)V" } : Jvm.MethodName)) ∈ zw := List.mem_filter.mpr ⟨List.mem_append_right _ (List.mem_of_getElem? (i := 133) (by decide +kernel)), by decide +kernel⟩
theorem kw_132 : (Jvm.Cond.static ({ cls := "java/lang/System", name := "arraycopy", desc := "(Ljava/lang/Object;ILjava/lang/Object;II)V" } : Jvm.MethodName)) ∈ zw := List.mem_filter.mpr ⟨List.mem_append_right _ (List.mem_of_getElem? (i := 132) (by decide +kernel)), by decide +kernel⟩
theorem kw_7 : (Jvm.Cond.initialized "java/lang/System") ∈ zw := List.mem_filter.mpr ⟨List.mem_append_right _ (List.mem_of_getElem? (i := 7) (by decide +kernel)), by decide +kernel⟩
theorem d_Names_add_88 : decode b_Names_add 88 = .ok (.aload_n 1, 1) := by decide +kernel
theorem d_Names_add_89 : decode b_Names_add 89 = .ok (.iload_n 2, 1) := by decide +kernel
theorem d_Names_add_90 : decode b_Names_add 90 = .ok (.iload_n 3, 1) := by decide +kernel
theorem d_Names_add_91 : decode b_Names_add 91 = .ok (.invokestatic 32, 3) := by decide +kernel
theorem d_Names_add_94 : decode b_Names_add 94 = .ok (.istore 5, 2) := by decide +kernel
theorem d_Names_add_96 : decode b_Names_add 96 = .ok (.bipush 7, 2) := by decide +kernel
theorem d_Names_add_98 : decode b_Names_add 98 = .ok (.aload_n 0, 1) := by decide +kernel
theorem d_Names_add_99 : decode b_Names_add 99 = .ok (.getfield 53, 3) := by decide +kernel
theorem d_Names_add_102 : decode b_Names_add 102 = .ok (.imul, 1) := by decide +kernel
theorem d_Names_add_103 : decode b_Names_add 103 = .ok (.istore 6, 2) := by decide +kernel
theorem d_Names_add_105 : decode b_Names_add 105 = .ok (.aload_n 0, 1) := by decide +kernel
theorem d_Names_add_106 : decode b_Names_add 106 = .ok (.getfield 15, 3) := by decide +kernel
theorem d_Names_add_109 : decode b_Names_add 109 = .ok (.iload 6, 2) := by decide +kernel
theorem d_Names_add_111 : decode b_Names_add 111 = .ok (.iconst 0, 1) := by decide +kernel
theorem d_Names_add_112 : decode b_Names_add 112 = .ok (.iadd, 1) := by decide +kernel
theorem d_Names_add_113 : decode b_Names_add 113 = .ok (.aload_n 0, 1) := by decide +kernel
theorem d_Names_add_114 : decode b_Names_add 114 = .ok (.getfield 45, 3) := by decide +kernel
theorem d_Names_add_117 : decode b_Names_add 117 = .ok (.iastore, 1) := by decide +kernel
theorem d_Names_add_118 : decode b_Names_add 118 = .ok (.aload_n 0, 1) := by decide +kernel
theorem d_Names_add_119 : decode b_Names_add 119 = .ok (.getfield 15, 3) := by decide +kernel
theorem d_Names_add_122 : decode b_Names_add 122 = .ok (.iload 6, 2) := by decide +kernel
theorem d_Names_add_124 : decode b_Names_add 124 = .ok (.iconst 1, 1) := by decide +kernel
theorem d_Names_add_125 : decode b_Names_add 125 = .ok (.iadd, 1) := by decide +kernel
theorem d_Names_add_126 : decode b_Names_add 126 = .ok (.iload 4, 2) := by decide +kernel
theorem d_Names_add_128 : decode b_Names_add 128 = .ok (.iastore, 1) := by decide +kernel
theorem d_Names_add_129 : decode b_Names_add 129 = .ok (.aload_n 0, 1) := by decide +kernel
theorem d_Names_add_130 : decode b_Names_add 130 = .ok (.getfield 15, 3) := by decide +kernel
theorem d_Names_add_133 : decode b_Names_add 133 = .ok (.iload 6, 2) := by decide +kernel
theorem d_Names_add_135 : decode b_Names_add 135 = .ok (.iconst 2, 1) := by decide +kernel
theorem d_Names_add_136 : decode b_Names_add 136 = .ok (.iadd, 1) := by decide +kernel
theorem d_Names_add_137 : decode b_Names_add 137 = .ok (.aload_n 0, 1) := by decide +kernel
theorem d_Names_add_138 : decode b_Names_add 138 = .ok (.getfield 19, 3) := by decide +kernel
theorem d_Names_add_141 : decode b_Names_add 141 = .ok (.iload 5, 2) := by decide +kernel
theorem d_Names_add_143 : decode b_Names_add 143 = .ok (.iaload, 1) := by decide +kernel
theorem d_Names_add_144 : decode b_Names_add 144 = .ok (.iastore, 1) := by decide +kernel
theorem d_Names_add_145 : decode b_Names_add 145 = .ok (.aload_n 0, 1) := by decide +kernel
theorem d_Names_add_146 : decode b_Names_add 146 = .ok (.getfield 15, 3) := by decide +kernel
theorem d_Names_add_149 : decode b_Names_add 149 = .ok (.iload 6, 2) := by decide +kernel
theorem d_Names_add_151 : decode b_Names_add 151 = .ok (.iconst 3, 1) := by decide +kernel
theorem d_Names_add_152 : decode b_Names_add 152 = .ok (.iadd, 1) := by decide +kernel
theorem d_Names_add_153 : decode b_Names_add 153 = .ok (.iload 5, 2) := by decide +kernel
theorem d_Names_add_155 : decode b_Names_add 155 = .ok (.iastore, 1) := by decide +kernel
theorem d_Names_add_156 : decode b_Names_add 156 = .ok (.aload_n 0, 1) := by decide +kernel
theorem d_Names_add_157 : decode b_Names_add 157 = .ok (.getfield 15, 3) := by decide +kernel
theorem d_Names_add_160 : decode b_Names_add 160 = .ok (.iload 6, 2) := by decide +kernel
theorem d_Names_add_162 : decode b_Names_add 162 = .ok (.iconst 4, 1) := by decide +kernel
theorem d_Names_add_163 : decode b_Names_add 163 = .ok (.iadd, 1) := by decide +kernel
theorem d_Names_add_164 : decode b_Names_add 164 = .ok (.iconst (-1), 1) := by decide +kernel
theorem d_Names_add_165 : decode b_Names_add 165 = .ok (.iastore, 1) := by decide +kernel
theorem d_Names_add_166 : decode b_Names_add 166 = .ok (.aload_n 0, 1) := by decide +kernel
theorem d_Names_add_167 : decode b_Names_add 167 = .ok (.getfield 15, 3) := by decide +kernel
theorem d_Names_add_170 : decode b_Names_add 170 = .ok (.iload 6, 2) := by decide +kernel
theorem d_Names_add_172 : decode b_Names_add 172 = .ok (.iconst 5, 1) := by decide +kernel
theorem d_Names_add_173 : decode b_Names_add 173 = .ok (.iadd, 1) := by decide +kernel
theorem d_Names_add_174 : decode b_Names_add 174 = .ok (.iconst (-1), 1) := by decide +kernel
theorem d_Names_add_175 : decode b_Names_add 175 = .ok (.iastore, 1) := by decide +kernel
theorem d_Names_add_176 : decode b_Names_add 176 = .ok (.aload_n 0, 1) := by decide +kernel
theorem d_Names_add_177 : decode b_Names_add 177 = .ok (.getfield 15, 3) := by decide +kernel
theorem d_Names_add_180 : decode b_Names_add 180 = .ok (.iload 6, 2) := by decide +kernel
theorem d_Names_add_182 : decode b_Names_add 182 = .ok (.bipush 6, 2) := by decide +kernel
theorem d_Names_add_184 : decode b_Names_add 184 = .ok (.iadd, 1) := by decide +kernel
theorem d_Names_add_185 : decode b_Names_add 185 = .ok (.iconst 0, 1) := by decide +kernel
theorem d_Names_add_186 : decode b_Names_add 186 = .ok (.iastore, 1) := by decide +kernel
theorem d_Names_add_187 : decode b_Names_add 187 = .ok (.aload_n 0, 1) := by decide +kernel
theorem d_Names_add_188 : decode b_Names_add 188 = .ok (.getfield 19, 3) := by decide +kernel
theorem d_Names_add_191 : decode b_Names_add 191 = .ok (.iload 5, 2) := by decide +kernel
theorem d_Names_add_193 : decode b_Names_add 193 = .ok (.aload_n 0, 1) := by decide +kernel
theorem d_Names_add_194 : decode b_Names_add 194 = .ok (.getfield 53, 3) := by decide +kernel
theorem d_Names_add_197 : decode b_Names_add 197 = .ok (.iastore, 1) := by decide +kernel
theorem d_Names_add_198 : decode b_Names_add 198 = .ok (.aload_n 0, 1) := by decide +kernel
theorem d_Names_add_199 : decode b_Names_add 199 = .ok (.dup, 1) := by decide +kernel
theorem d_Names_add_200 : decode b_Names_add 200 = .ok (.getfield 45, 3) := by decide +kernel
theorem d_Names_add_203 : decode b_Names_add 203 = .ok (.iload 4, 2) := by decide +kernel
theorem d_Names_add_205 : decode b_Names_add 205 = .ok (.iadd, 1) := by decide +kernel
theorem d_Names_add_206 : decode b_Names_add 206 = .ok (.putfield 45, 3) := by decide +kernel
theorem d_Names_add_209 : decode b_Names_add 209 = .ok (.aload_n 0, 1) := by decide +kernel
theorem d_Names_add_210 : decode b_Names_add 210 = .ok (.dup, 1) := by decide +kernel
theorem d_Names_add_211 : decode b_Names_add 211 = .ok (.getfield 53, 3) := by decide +kernel
theorem d_Names_add_214 : decode b_Names_add 214 = .ok (.iconst 1, 1) := by decide +kernel
theorem d_Names_add_215 : decode b_Names_add 215 = .ok (.iadd, 1) := by decide +kernel
theorem d_Names_add_216 : decode b_Names_add 216 = .ok (.putfield 53, 3) := by decide +kernel
theorem d_Names_add_219 : decode b_Names_add 219 = .ok (.aload_n 0, 1) := by decide +kernel
theorem d_Names_add_220 : decode b_Names_add 220 = .ok (.getfield 53, 3) := by decide +kernel
theorem d_Names_add_223 : decode b_Names_add 223 = .ok (.iconst 1, 1) := by decide +kernel
theorem d_Names_add_224 : decode b_Names_add 224 = .ok (.isub, 1) := by decide +kernel
theorem d_Names_add_225 : decode b_Names_add 225 = .ok (.ireturn, 1) := by decide +kernel
set_option maxHeartbeats 4000000 in
set_option maxRecDepth 100000 in
theorem c_Names_add0 (l : Launch) (D : va_G) (cI cB cZ cS : ClassId) (sz : Nat) (h0 : Nat) (lt : Nat) (rw : Nat) (bu : Nat) (a : Nat) : Met l y_Names_add (zc y_Names_add b_Names_add 7 (some .int)) ({ frames := 1, cells := 0, slots := 0, locals := 40 }) (zPc D (zty cI cB cZ cS) [(h0, .inr (2, [.ref lt, .int 0, .ref rw, .ref bu, .int 0, .int 0])), (lt, .inl (cB, 256, .inl (fun _ => 0))), (rw, .inl (cI, 224, .inl (fun _ => 0))), (bu, .inl (cI, 128, .inl (zfill (fun _ => 0) 128 (-1)))), (a, .inl (cB, 2, .inl (upd (upd (fun _ => 0) 0 120) 1 77)))] sz [.ref h0, .ref a, .int 0, .int 1]) (va_Qi (fun (r : Int32) (_ : Unit) => r = 0) (fun _ t => va_P D zcl [(h0, .inr (2, [.ref lt, .int 1, .ref rw, .ref bu, .int 1, .int 0])), (lt, .inl (cB, 256, .inl (upd (fun _ => 0) 0 120))), (rw, .inl (cI, 224, .inl (upd (upd (upd (upd (upd (upd (upd (fun _ => 0) 0 0) 1 1) 2 (-1)) 3 120) 4 (-1)) 5 (-1)) 6 0))), (bu, .inl (cI, 128, .inl (upd (zfill (fun _ => 0) 128 (-1)) 120 0))), (a, .inl (cB, 2, .inl (upd (upd (fun _ => 0) 0 120) 1 77)))] t.heap ∧ va_D (va_A [(h0, .inr (2, [.ref lt, .int 0, .ref rw, .ref bu, .int 0, .int 0])), (lt, .inl (cB, 256, .inl (fun _ => 0))), (rw, .inl (cI, 224, .inl (fun _ => 0))), (bu, .inl (cI, 128, .inl (zfill (fun _ => 0) 128 (-1)))), (a, .inl (cB, 2, .inl (upd (upd (fun _ => 0) 0 120) 1 77)))] sz) [(h0, .inr (2, [.ref lt, .int 1, .ref rw, .ref bu, .int 1, .int 0])), (lt, .inl (cB, 256, .inl (upd (fun _ => 0) 0 120))), (rw, .inl (cI, 224, .inl (upd (upd (upd (upd (upd (upd (upd (fun _ => 0) 0 0) 1 1) 2 (-1)) 3 120) 4 (-1)) 5 (-1)) 6 0))), (bu, .inl (cI, 128, .inl (upd (zfill (fun _ => 0) 128 (-1)) 120 0))), (a, .inl (cB, 2, .inl (upd (upd (fun _ => 0) 0 120) 1 77)))]) (va_A [(h0, .inr (2, [.ref lt, .int 0, .ref rw, .ref bu, .int 0, .int 0])), (lt, .inl (cB, 256, .inl (fun _ => 0))), (rw, .inl (cI, 224, .inl (fun _ => 0))), (bu, .inl (cI, 128, .inl (zfill (fun _ => 0) 128 (-1)))), (a, .inl (cB, 2, .inl (upd (upd (fun _ => 0) 0 120) 1 77)))] sz)) 0 0 (va_A [(h0, .inr (2, [.ref lt, .int 0, .ref rw, .ref bu, .int 0, .int 0])), (lt, .inl (cB, 256, .inl (fun _ => 0))), (rw, .inl (cI, 224, .inl (fun _ => 0))), (bu, .inl (cI, 128, .inl (zfill (fun _ => 0) 128 (-1)))), (a, .inl (cB, 2, .inl (upd (upd (fun _ => 0) 0 120) 1 77)))] sz) := by
  refine Met.ofW (cc := b_Names_add) (maxL := 7) (ret := (some .int)) (by decide) rfl ?_
  intro p e s m args below meth c s₁ B hml hv
  obtain ⟨rfl, hsz, hP, ⟨hK, hN⟩, hD0⟩ := hv
  have hx := B.exec
  have hb := B.bytes
  have hr := B.returns
  have hts0 := atoms_spec (ws := zc y_Names_add b_Names_add 7 (some .int)) B.pre
  have hts : ∀ w ∈ zw, w.before _ s = true := fun w hw => hts0 w (List.mem_cons_of_mem _ hw)
  have hown : s.vm.findClass "ProofDesk$Names" = some m.cls := findClass_of_methodNamed B.named
  have hlocks := B.notSynchronized
  subst hsz
  have hD := hD0.self (sz := s.heap.size)
  generalize hAe : va_A [(h0, .inr (2, [.ref lt, .int 0, .ref rw, .ref bu, .int 0, .int 0])), (lt, .inl (cB, 256, .inl (fun _ => 0))), (rw, .inl (cI, 224, .inl (fun _ => 0))), (bu, .inl (cI, 128, .inl (zfill (fun _ => 0) 128 (-1)))), (a, .inl (cB, 2, .inl (upd (upd (fun _ => 0) 0 120) 1 77)))] s.heap.size = A at hD ⊢
  have hA : ∀ q : Nat, s.heap.size ≤ q → A q := fun q h => by rw [← hAe]; exact Or.inr h
  have hS : va_S A s.heap s.heap [] := va_S.rf
  have hP : va_P D zcl [(h0, .inr (2, [.ref lt, .int 0, .ref rw, .ref bu, .int 0, .int 0])), (lt, .inl (cB, 256, .inl (fun _ => 0))), (rw, .inl (cI, 224, .inl (fun _ => 0))), (bu, .inl (cI, 128, .inl (zfill (fun _ => 0) 128 (-1)))), (a, .inl (cB, 2, .inl (upd (upd (fun _ => 0) 0 120) 1 77)))] s.heap := hP
  have hl := lv_entry ([.ref h0, .ref a, .int 0, .int 1]) (n := 7) (Nat.le_of_ble_eq_true rfl)
  rw [lg_entry_eq]
  generalize (lg_sl ([.ref h0, .ref a, .int 0, .int 1]) ++ List.replicate (7 - (lg_sl ([.ref h0, .ref a, .int 0, .int 1])).length) Slot.unset).toArray = ls at hl ⊢
  have hl : lv_has ls 7 [(0, .ref h0), (1, .ref a), (2, .int 0), (3, .int 1)] := hl
  refine lv_iload_n hx hb d_Names_add_0 rfl (lv_at hl 3 rfl) ?_
  refine lv_iload_n hx hb d_Names_add_1 rfl (lv_at hl 2 rfl) ?_
  refine lv_isub hx hb d_Names_add_2 ?_
  refine zz_i (y := 1) (by decide +kernel) ?_
  refine lv_istore (lv' := [(4, .int 1), (0, .ref h0), (1, .ref a), (2, .int 0), (3, .int 1)]) hx hb d_Names_add_3 hl (by decide) rfl (fun ls hl => ?_)
  refine lv_aload_n hx hb d_Names_add_5 rfl (lv_at hl 1 rfl) ?_
  refine va_get (D := D) (ci := 2) (v := .int 0) (C := "ProofDesk$Names") (T := F_Names) (N := 6) hx hb hts in_Names hown hK hP 0 rfl rfl 1 (by decide) (hts _ kw_144) (fun _ h9 => h9) rfl d_Names_add_6 ?_
  refine lv_iload hx hb d_Names_add_9 (lv_at hl 0 rfl) ?_
  refine lv_iadd hx hb d_Names_add_11 ?_
  refine zz_i (y := 1) (by decide +kernel) ?_
  refine lv_aload_n hx hb d_Names_add_12 rfl (lv_at hl 1 rfl) ?_
  refine va_get (D := D) (ci := 2) (v := .ref lt) (C := "ProofDesk$Names") (T := F_Names) (N := 6) hx hb hts in_Names hown hK hP 0 rfl rfl 0 (by decide) (hts _ kw_143) (fun _ h9 => h9) rfl d_Names_add_13 ?_
  refine va_alen (v := 256) hx hb hK hP 1 1 rfl rfl (by decide +kernel) d_Names_add_16 ?_
  have hc_1 : (1 : Int32) ≤ 256 := by decide +kernel
  refine lv_icmp_le hx hb d_Names_add_17 rfl (fun _ => ?_) (fun h => absurd hc_1 h)
  refine lv_bipush (v := 7) hx hb d_Names_add_38 (by decide) ?_
  refine lv_aload_n hx hb d_Names_add_40 rfl (lv_at hl 1 rfl) ?_
  refine va_get (D := D) (ci := 2) (v := .int 0) (C := "ProofDesk$Names") (T := F_Names) (N := 6) hx hb hts in_Names hown hK hP 0 rfl rfl 4 (by decide) (hts _ kw_148) (fun _ h9 => h9) rfl d_Names_add_41 ?_
  refine lv_iconst (v := 1) hx hb d_Names_add_44 (by decide) ?_
  refine lv_iadd hx hb d_Names_add_45 ?_
  refine zz_i (y := 1) (by decide +kernel) ?_
  refine lv_imul hx hb d_Names_add_46 ?_
  refine zz_i (y := 7) (by decide +kernel) ?_
  refine lv_aload_n hx hb d_Names_add_47 rfl (lv_at hl 1 rfl) ?_
  refine va_get (D := D) (ci := 2) (v := .ref rw) (C := "ProofDesk$Names") (T := F_Names) (N := 6) hx hb hts in_Names hown hK hP 0 rfl rfl 2 (by decide) (hts _ kw_145) (fun _ h9 => h9) rfl d_Names_add_48 ?_
  refine va_alen (v := 224) hx hb hK hP 2 0 rfl rfl (by decide +kernel) d_Names_add_51 ?_
  have hc_2 : (7 : Int32) ≤ 224 := by decide +kernel
  refine lv_icmp_le hx hb d_Names_add_52 rfl (fun _ => ?_) (fun h => absurd hc_2 h)
  refine lv_aload_n hx hb d_Names_add_73 rfl (lv_at hl 2 rfl) ?_
  refine lv_iload_n hx hb d_Names_add_74 rfl (lv_at hl 3 rfl) ?_
  refine lv_aload_n hx hb d_Names_add_75 rfl (lv_at hl 1 rfl) ?_
  refine va_get (D := D) (ci := 2) (v := .ref lt) (C := "ProofDesk$Names") (T := F_Names) (N := 6) hx hb hts in_Names hown hK hP 0 rfl rfl 0 (by decide) (hts _ kw_143) (fun _ h9 => h9) rfl d_Names_add_76 ?_
  refine lv_aload_n hx hb d_Names_add_79 rfl (lv_at hl 1 rfl) ?_
  refine va_get (D := D) (ci := 2) (v := .int 0) (C := "ProofDesk$Names") (T := F_Names) (N := 6) hx hb hts in_Names hown hK hP 0 rfl rfl 1 (by decide) (hts _ kw_144) (fun _ h9 => h9) rfl d_Names_add_80 ?_
  refine lv_iload hx hb d_Names_add_83 (lv_at hl 0 rfl) ?_
  refine va_copyi (ty := .byte) (sp := 0) (dp := 0) (n := 1) hx hb (hml.trans hl.1.symm) hown (hts _ kw_142) (hts _ kw_133) (hts _ kw_132) (hts _ kw_7) hK hP hD hS 4 1 1 1 rfl rfl rfl rfl rfl (by decide) (by decide) (by decide) (by decide +kernel) (by decide +kernel) (fun i hi => ?_) (Nat.le_of_ble_eq_true rfl) (Nat.le_of_ble_eq_true rfl) d_Names_add_85 (fun H locs hP hD hS => ?_)
  · obtain rfl : i = 0 := by have h9 : i < 1 := hi; omega
    decide +kernel
  have hcp : va_cpy (upd (upd (fun _ => 0) 0 120) 1 77) (fun _ => 0) (0 : Int32).toNatClampNeg (0 : Int32).toNatClampNeg (1 : Int32).toNatClampNeg = upd (fun _ => 0) 0 120 := by
    simp only [show (0 : Int32).toNatClampNeg = 0 from by decide +kernel, show (1 : Int32).toNatClampNeg = 1 from by decide +kernel, zcpy1]
    rfl
  have hP : va_P D zcl [(h0, .inr (2, [.ref lt, .int 0, .ref rw, .ref bu, .int 0, .int 0])), (lt, .inl (cB, 256, .inl (va_cpy (upd (upd (fun _ => 0) 0 120) 1 77) (fun _ => 0) (0 : Int32).toNatClampNeg (0 : Int32).toNatClampNeg (1 : Int32).toNatClampNeg))), (rw, .inl (cI, 224, .inl (fun _ => 0))), (bu, .inl (cI, 128, .inl (zfill (fun _ => 0) 128 (-1)))), (a, .inl (cB, 2, .inl (upd (upd (fun _ => 0) 0 120) 1 77)))] H := hP
  have hD : va_D A [(h0, .inr (2, [.ref lt, .int 0, .ref rw, .ref bu, .int 0, .int 0])), (lt, .inl (cB, 256, .inl (va_cpy (upd (upd (fun _ => 0) 0 120) 1 77) (fun _ => 0) (0 : Int32).toNatClampNeg (0 : Int32).toNatClampNeg (1 : Int32).toNatClampNeg))), (rw, .inl (cI, 224, .inl (fun _ => 0))), (bu, .inl (cI, 128, .inl (zfill (fun _ => 0) 128 (-1)))), (a, .inl (cB, 2, .inl (upd (upd (fun _ => 0) 0 120) 1 77)))] := hD
  rw [hcp] at hP hD
  have hP : va_P D zcl [(h0, .inr (2, [.ref lt, .int 0, .ref rw, .ref bu, .int 0, .int 0])), (lt, .inl (cB, 256, .inl (upd (fun _ => 0) 0 120))), (rw, .inl (cI, 224, .inl (fun _ => 0))), (bu, .inl (cI, 128, .inl (zfill (fun _ => 0) 128 (-1)))), (a, .inl (cB, 2, .inl (upd (upd (fun _ => 0) 0 120) 1 77)))] H := hP
  have hD : va_D A [(h0, .inr (2, [.ref lt, .int 0, .ref rw, .ref bu, .int 0, .int 0])), (lt, .inl (cB, 256, .inl (upd (fun _ => 0) 0 120))), (rw, .inl (cI, 224, .inl (fun _ => 0))), (bu, .inl (cI, 128, .inl (zfill (fun _ => 0) 128 (-1)))), (a, .inl (cB, 2, .inl (upd (upd (fun _ => 0) 0 120) 1 77)))] := hD
  refine lv_aload_n hx hb d_Names_add_88 rfl (lv_at hl 2 rfl) ?_
  refine lv_iload_n hx hb d_Names_add_89 rfl (lv_at hl 3 rfl) ?_
  refine lv_iload_n hx hb d_Names_add_90 rfl (lv_at hl 4 rfl) ?_
  have hPc := hP.sub (ws' := [(a, .inl (cB, 2, .inl (upd (upd (fun _ => 0) 0 120) 1 77)))]) [4] rfl
  have hDc := hD.sub (ws' := [(a, .inl (cB, 2, .inl (upd (upd (fun _ => 0) 0 120) 1 77)))]) [4] (by decide +kernel) rfl
  have hFc := va_free (wc := [(a, .inl (cB, 2, .inl (upd (upd (fun _ => 0) 0 120) 1 77)))]) hD hS hA [4] rfl
  have hkc : 0 + 0 ≤ 0 := by omega
  have hks : 0 + 0 ≤ 0 := by omega
  refine va_calli (va_runS (As := [.ref a, .int 0, .int 1]) (rest := []) ⟨hx, hb, hml, hown, hts⟩ (c_Names_bucketOf0 l D cI cB cZ cS H.size a) (⟨callB_of 3 hts (zgood kw_105) rfl rfl rfl (hts _ kw_4) (hts _ kw_103) (by decide +kernel) ⟨Nat.le_of_ble_eq_true rfl, Nat.le_of_ble_eq_true rfl⟩, hts _ kw_104⟩) (zPreS hPc hK hN hDc) rfl rfl hl.1 rfl (lv_room (Nat.le_of_ble_eq_true rfl)) d_Names_add_91 ⟨hkc, hks⟩) hS (fun q _ h => hFc q h) hFc (fun r u t H1 locs ht hvm hw hB hz1 hk1 hS => ?_)
  obtain ⟨hP1, hD1⟩ := hB
  rw [ht] at hP1
  obtain ⟨hP, hD⟩ := va_join (wr := [(h0, .inr (2, [.ref lt, .int 0, .ref rw, .ref bu, .int 0, .int 0])), (lt, .inl (cB, 256, .inl (upd (fun _ => 0) 0 120))), (rw, .inl (cI, 224, .inl (fun _ => 0))), (bu, .inl (cI, 128, .inl (zfill (fun _ => 0) 128 (-1))))]) (w1 := [(a, .inl (cB, 2, .inl (upd (upd (fun _ => 0) 0 120) 1 77)))]) hP hD [4] [0, 1, 2, 3] rfl rfl (by decide +kernel) (by decide +kernel) hk1 hFc hP1 hD1
  generalize H1 = H at hP hS ⊢
  have hP : va_P D zcl [(h0, .inr (2, [.ref lt, .int 0, .ref rw, .ref bu, .int 0, .int 0])), (lt, .inl (cB, 256, .inl (upd (fun _ => 0) 0 120))), (rw, .inl (cI, 224, .inl (fun _ => 0))), (bu, .inl (cI, 128, .inl (zfill (fun _ => 0) 128 (-1)))), (a, .inl (cB, 2, .inl (upd (upd (fun _ => 0) 0 120) 1 77)))] H := hP
  have hD : va_D A [(h0, .inr (2, [.ref lt, .int 0, .ref rw, .ref bu, .int 0, .int 0])), (lt, .inl (cB, 256, .inl (upd (fun _ => 0) 0 120))), (rw, .inl (cI, 224, .inl (fun _ => 0))), (bu, .inl (cI, 128, .inl (zfill (fun _ => 0) 128 (-1)))), (a, .inl (cB, 2, .inl (upd (upd (fun _ => 0) 0 120) 1 77)))] := hD
  subst hw
  refine W.widen (k := 0) (n := 0) (by omega) (by omega) ?_
  refine lv_istore (lv' := [(5, .int 120), (4, .int 1), (0, .ref h0), (1, .ref a), (2, .int 0), (3, .int 1)]) hx hb d_Names_add_94 hl (by decide) rfl (fun ls hl => ?_)
  refine lv_bipush (v := 7) hx hb d_Names_add_96 (by decide) ?_
  refine lv_aload_n hx hb d_Names_add_98 rfl (lv_at hl 2 rfl) ?_
  refine va_get (D := D) (ci := 2) (v := .int 0) (C := "ProofDesk$Names") (T := F_Names) (N := 6) hx hb hts in_Names hown hK hP 0 rfl rfl 4 (by decide) (hts _ kw_148) (fun _ h9 => h9) rfl d_Names_add_99 ?_
  refine lv_imul hx hb d_Names_add_102 ?_
  refine zz_i (y := 0) (by decide +kernel) ?_
  refine lv_istore (lv' := [(6, .int 0), (5, .int 120), (4, .int 1), (0, .ref h0), (1, .ref a), (2, .int 0), (3, .int 1)]) hx hb d_Names_add_103 hl (by decide) rfl (fun ls hl => ?_)
  refine lv_aload_n hx hb d_Names_add_105 rfl (lv_at hl 3 rfl) ?_
  refine va_get (D := D) (ci := 2) (v := .ref rw) (C := "ProofDesk$Names") (T := F_Names) (N := 6) hx hb hts in_Names hown hK hP 0 rfl rfl 2 (by decide) (hts _ kw_145) (fun _ h9 => h9) rfl d_Names_add_106 ?_
  refine lv_iload hx hb d_Names_add_109 (lv_at hl 0 rfl) ?_
  refine lv_iconst (v := 0) hx hb d_Names_add_111 (by decide) ?_
  refine lv_iadd hx hb d_Names_add_112 ?_
  refine zz_i (y := 0) (by decide +kernel) ?_
  refine lv_aload_n hx hb d_Names_add_113 rfl (lv_at hl 3 rfl) ?_
  refine va_get (D := D) (ci := 2) (v := .int 0) (C := "ProofDesk$Names") (T := F_Names) (N := 6) hx hb hts in_Names hown hK hP 0 rfl rfl 1 (by decide) (hts _ kw_144) (fun _ h9 => h9) rfl d_Names_add_114 ?_
  refine zz_iast hx hb hK hP hD hS 2 0 rfl rfl (i := 0) (x := 0) 0 (⟨by decide +kernel, by decide +kernel, by decide +kernel⟩) d_Names_add_117 (fun H locs hP hD hS => ?_)
  have hP : va_P D zcl [(h0, .inr (2, [.ref lt, .int 0, .ref rw, .ref bu, .int 0, .int 0])), (lt, .inl (cB, 256, .inl (upd (fun _ => 0) 0 120))), (rw, .inl (cI, 224, .inl (upd (fun _ => 0) 0 0))), (bu, .inl (cI, 128, .inl (zfill (fun _ => 0) 128 (-1)))), (a, .inl (cB, 2, .inl (upd (upd (fun _ => 0) 0 120) 1 77)))] H := hP
  have hD : va_D A [(h0, .inr (2, [.ref lt, .int 0, .ref rw, .ref bu, .int 0, .int 0])), (lt, .inl (cB, 256, .inl (upd (fun _ => 0) 0 120))), (rw, .inl (cI, 224, .inl (upd (fun _ => 0) 0 0))), (bu, .inl (cI, 128, .inl (zfill (fun _ => 0) 128 (-1)))), (a, .inl (cB, 2, .inl (upd (upd (fun _ => 0) 0 120) 1 77)))] := hD
  refine lv_aload_n hx hb d_Names_add_118 rfl (lv_at hl 3 rfl) ?_
  refine va_get (D := D) (ci := 2) (v := .ref rw) (C := "ProofDesk$Names") (T := F_Names) (N := 6) hx hb hts in_Names hown hK hP 0 rfl rfl 2 (by decide) (hts _ kw_145) (fun _ h9 => h9) rfl d_Names_add_119 ?_
  refine lv_iload hx hb d_Names_add_122 (lv_at hl 0 rfl) ?_
  refine lv_iconst (v := 1) hx hb d_Names_add_124 (by decide) ?_
  refine lv_iadd hx hb d_Names_add_125 ?_
  refine zz_i (y := 1) (by decide +kernel) ?_
  refine lv_iload hx hb d_Names_add_126 (lv_at hl 2 rfl) ?_
  refine zz_iast hx hb hK hP hD hS 2 0 rfl rfl (i := 1) (x := 1) 1 (⟨by decide +kernel, by decide +kernel, by decide +kernel⟩) d_Names_add_128 (fun H locs hP hD hS => ?_)
  have hP : va_P D zcl [(h0, .inr (2, [.ref lt, .int 0, .ref rw, .ref bu, .int 0, .int 0])), (lt, .inl (cB, 256, .inl (upd (fun _ => 0) 0 120))), (rw, .inl (cI, 224, .inl (upd (upd (fun _ => 0) 0 0) 1 1))), (bu, .inl (cI, 128, .inl (zfill (fun _ => 0) 128 (-1)))), (a, .inl (cB, 2, .inl (upd (upd (fun _ => 0) 0 120) 1 77)))] H := hP
  have hD : va_D A [(h0, .inr (2, [.ref lt, .int 0, .ref rw, .ref bu, .int 0, .int 0])), (lt, .inl (cB, 256, .inl (upd (fun _ => 0) 0 120))), (rw, .inl (cI, 224, .inl (upd (upd (fun _ => 0) 0 0) 1 1))), (bu, .inl (cI, 128, .inl (zfill (fun _ => 0) 128 (-1)))), (a, .inl (cB, 2, .inl (upd (upd (fun _ => 0) 0 120) 1 77)))] := hD
  refine lv_aload_n hx hb d_Names_add_129 rfl (lv_at hl 3 rfl) ?_
  refine va_get (D := D) (ci := 2) (v := .ref rw) (C := "ProofDesk$Names") (T := F_Names) (N := 6) hx hb hts in_Names hown hK hP 0 rfl rfl 2 (by decide) (hts _ kw_145) (fun _ h9 => h9) rfl d_Names_add_130 ?_
  refine lv_iload hx hb d_Names_add_133 (lv_at hl 0 rfl) ?_
  refine lv_iconst (v := 2) hx hb d_Names_add_135 (by decide) ?_
  refine lv_iadd hx hb d_Names_add_136 ?_
  refine zz_i (y := 2) (by decide +kernel) ?_
  refine lv_aload_n hx hb d_Names_add_137 rfl (lv_at hl 3 rfl) ?_
  refine va_get (D := D) (ci := 2) (v := .ref bu) (C := "ProofDesk$Names") (T := F_Names) (N := 6) hx hb hts in_Names hown hK hP 0 rfl rfl 3 (by decide) (hts _ kw_146) (fun _ h9 => h9) rfl d_Names_add_138 ?_
  refine lv_iload hx hb d_Names_add_141 (lv_at hl 1 rfl) ?_
  refine zz_iald (v := (-1)) hx hb hK hP 3 0 rfl rfl (i := 120) 120 (⟨by decide +kernel, by decide +kernel, by decide +kernel⟩) (by first | rfl | decide +kernel | simp [upd]) d_Names_add_143 ?_
  refine zz_iast hx hb hK hP hD hS 2 0 rfl rfl (i := 2) (x := (-1)) 2 (⟨by decide +kernel, by decide +kernel, by decide +kernel⟩) d_Names_add_144 (fun H locs hP hD hS => ?_)
  have hP : va_P D zcl [(h0, .inr (2, [.ref lt, .int 0, .ref rw, .ref bu, .int 0, .int 0])), (lt, .inl (cB, 256, .inl (upd (fun _ => 0) 0 120))), (rw, .inl (cI, 224, .inl (upd (upd (upd (fun _ => 0) 0 0) 1 1) 2 (-1)))), (bu, .inl (cI, 128, .inl (zfill (fun _ => 0) 128 (-1)))), (a, .inl (cB, 2, .inl (upd (upd (fun _ => 0) 0 120) 1 77)))] H := hP
  have hD : va_D A [(h0, .inr (2, [.ref lt, .int 0, .ref rw, .ref bu, .int 0, .int 0])), (lt, .inl (cB, 256, .inl (upd (fun _ => 0) 0 120))), (rw, .inl (cI, 224, .inl (upd (upd (upd (fun _ => 0) 0 0) 1 1) 2 (-1)))), (bu, .inl (cI, 128, .inl (zfill (fun _ => 0) 128 (-1)))), (a, .inl (cB, 2, .inl (upd (upd (fun _ => 0) 0 120) 1 77)))] := hD
  refine lv_aload_n hx hb d_Names_add_145 rfl (lv_at hl 3 rfl) ?_
  refine va_get (D := D) (ci := 2) (v := .ref rw) (C := "ProofDesk$Names") (T := F_Names) (N := 6) hx hb hts in_Names hown hK hP 0 rfl rfl 2 (by decide) (hts _ kw_145) (fun _ h9 => h9) rfl d_Names_add_146 ?_
  refine lv_iload hx hb d_Names_add_149 (lv_at hl 0 rfl) ?_
  refine lv_iconst (v := 3) hx hb d_Names_add_151 (by decide) ?_
  refine lv_iadd hx hb d_Names_add_152 ?_
  refine zz_i (y := 3) (by decide +kernel) ?_
  refine lv_iload hx hb d_Names_add_153 (lv_at hl 1 rfl) ?_
  refine zz_iast hx hb hK hP hD hS 2 0 rfl rfl (i := 3) (x := 120) 3 (⟨by decide +kernel, by decide +kernel, by decide +kernel⟩) d_Names_add_155 (fun H locs hP hD hS => ?_)
  have hP : va_P D zcl [(h0, .inr (2, [.ref lt, .int 0, .ref rw, .ref bu, .int 0, .int 0])), (lt, .inl (cB, 256, .inl (upd (fun _ => 0) 0 120))), (rw, .inl (cI, 224, .inl (upd (upd (upd (upd (fun _ => 0) 0 0) 1 1) 2 (-1)) 3 120))), (bu, .inl (cI, 128, .inl (zfill (fun _ => 0) 128 (-1)))), (a, .inl (cB, 2, .inl (upd (upd (fun _ => 0) 0 120) 1 77)))] H := hP
  have hD : va_D A [(h0, .inr (2, [.ref lt, .int 0, .ref rw, .ref bu, .int 0, .int 0])), (lt, .inl (cB, 256, .inl (upd (fun _ => 0) 0 120))), (rw, .inl (cI, 224, .inl (upd (upd (upd (upd (fun _ => 0) 0 0) 1 1) 2 (-1)) 3 120))), (bu, .inl (cI, 128, .inl (zfill (fun _ => 0) 128 (-1)))), (a, .inl (cB, 2, .inl (upd (upd (fun _ => 0) 0 120) 1 77)))] := hD
  refine lv_aload_n hx hb d_Names_add_156 rfl (lv_at hl 3 rfl) ?_
  refine va_get (D := D) (ci := 2) (v := .ref rw) (C := "ProofDesk$Names") (T := F_Names) (N := 6) hx hb hts in_Names hown hK hP 0 rfl rfl 2 (by decide) (hts _ kw_145) (fun _ h9 => h9) rfl d_Names_add_157 ?_
  refine lv_iload hx hb d_Names_add_160 (lv_at hl 0 rfl) ?_
  refine lv_iconst (v := 4) hx hb d_Names_add_162 (by decide) ?_
  refine lv_iadd hx hb d_Names_add_163 ?_
  refine zz_i (y := 4) (by decide +kernel) ?_
  refine lv_iconst (v := (-1)) hx hb d_Names_add_164 (by decide) ?_
  refine zz_iast hx hb hK hP hD hS 2 0 rfl rfl (i := 4) (x := (-1)) 4 (⟨by decide +kernel, by decide +kernel, by decide +kernel⟩) d_Names_add_165 (fun H locs hP hD hS => ?_)
  have hP : va_P D zcl [(h0, .inr (2, [.ref lt, .int 0, .ref rw, .ref bu, .int 0, .int 0])), (lt, .inl (cB, 256, .inl (upd (fun _ => 0) 0 120))), (rw, .inl (cI, 224, .inl (upd (upd (upd (upd (upd (fun _ => 0) 0 0) 1 1) 2 (-1)) 3 120) 4 (-1)))), (bu, .inl (cI, 128, .inl (zfill (fun _ => 0) 128 (-1)))), (a, .inl (cB, 2, .inl (upd (upd (fun _ => 0) 0 120) 1 77)))] H := hP
  have hD : va_D A [(h0, .inr (2, [.ref lt, .int 0, .ref rw, .ref bu, .int 0, .int 0])), (lt, .inl (cB, 256, .inl (upd (fun _ => 0) 0 120))), (rw, .inl (cI, 224, .inl (upd (upd (upd (upd (upd (fun _ => 0) 0 0) 1 1) 2 (-1)) 3 120) 4 (-1)))), (bu, .inl (cI, 128, .inl (zfill (fun _ => 0) 128 (-1)))), (a, .inl (cB, 2, .inl (upd (upd (fun _ => 0) 0 120) 1 77)))] := hD
  refine lv_aload_n hx hb d_Names_add_166 rfl (lv_at hl 3 rfl) ?_
  refine va_get (D := D) (ci := 2) (v := .ref rw) (C := "ProofDesk$Names") (T := F_Names) (N := 6) hx hb hts in_Names hown hK hP 0 rfl rfl 2 (by decide) (hts _ kw_145) (fun _ h9 => h9) rfl d_Names_add_167 ?_
  refine lv_iload hx hb d_Names_add_170 (lv_at hl 0 rfl) ?_
  refine lv_iconst (v := 5) hx hb d_Names_add_172 (by decide) ?_
  refine lv_iadd hx hb d_Names_add_173 ?_
  refine zz_i (y := 5) (by decide +kernel) ?_
  refine lv_iconst (v := (-1)) hx hb d_Names_add_174 (by decide) ?_
  refine zz_iast hx hb hK hP hD hS 2 0 rfl rfl (i := 5) (x := (-1)) 5 (⟨by decide +kernel, by decide +kernel, by decide +kernel⟩) d_Names_add_175 (fun H locs hP hD hS => ?_)
  have hP : va_P D zcl [(h0, .inr (2, [.ref lt, .int 0, .ref rw, .ref bu, .int 0, .int 0])), (lt, .inl (cB, 256, .inl (upd (fun _ => 0) 0 120))), (rw, .inl (cI, 224, .inl (upd (upd (upd (upd (upd (upd (fun _ => 0) 0 0) 1 1) 2 (-1)) 3 120) 4 (-1)) 5 (-1)))), (bu, .inl (cI, 128, .inl (zfill (fun _ => 0) 128 (-1)))), (a, .inl (cB, 2, .inl (upd (upd (fun _ => 0) 0 120) 1 77)))] H := hP
  have hD : va_D A [(h0, .inr (2, [.ref lt, .int 0, .ref rw, .ref bu, .int 0, .int 0])), (lt, .inl (cB, 256, .inl (upd (fun _ => 0) 0 120))), (rw, .inl (cI, 224, .inl (upd (upd (upd (upd (upd (upd (fun _ => 0) 0 0) 1 1) 2 (-1)) 3 120) 4 (-1)) 5 (-1)))), (bu, .inl (cI, 128, .inl (zfill (fun _ => 0) 128 (-1)))), (a, .inl (cB, 2, .inl (upd (upd (fun _ => 0) 0 120) 1 77)))] := hD
  refine lv_aload_n hx hb d_Names_add_176 rfl (lv_at hl 3 rfl) ?_
  refine va_get (D := D) (ci := 2) (v := .ref rw) (C := "ProofDesk$Names") (T := F_Names) (N := 6) hx hb hts in_Names hown hK hP 0 rfl rfl 2 (by decide) (hts _ kw_145) (fun _ h9 => h9) rfl d_Names_add_177 ?_
  refine lv_iload hx hb d_Names_add_180 (lv_at hl 0 rfl) ?_
  refine lv_bipush (v := 6) hx hb d_Names_add_182 (by decide) ?_
  refine lv_iadd hx hb d_Names_add_184 ?_
  refine zz_i (y := 6) (by decide +kernel) ?_
  refine lv_iconst (v := 0) hx hb d_Names_add_185 (by decide) ?_
  refine zz_iast hx hb hK hP hD hS 2 0 rfl rfl (i := 6) (x := 0) 6 (⟨by decide +kernel, by decide +kernel, by decide +kernel⟩) d_Names_add_186 (fun H locs hP hD hS => ?_)
  have hP : va_P D zcl [(h0, .inr (2, [.ref lt, .int 0, .ref rw, .ref bu, .int 0, .int 0])), (lt, .inl (cB, 256, .inl (upd (fun _ => 0) 0 120))), (rw, .inl (cI, 224, .inl (upd (upd (upd (upd (upd (upd (upd (fun _ => 0) 0 0) 1 1) 2 (-1)) 3 120) 4 (-1)) 5 (-1)) 6 0))), (bu, .inl (cI, 128, .inl (zfill (fun _ => 0) 128 (-1)))), (a, .inl (cB, 2, .inl (upd (upd (fun _ => 0) 0 120) 1 77)))] H := hP
  have hD : va_D A [(h0, .inr (2, [.ref lt, .int 0, .ref rw, .ref bu, .int 0, .int 0])), (lt, .inl (cB, 256, .inl (upd (fun _ => 0) 0 120))), (rw, .inl (cI, 224, .inl (upd (upd (upd (upd (upd (upd (upd (fun _ => 0) 0 0) 1 1) 2 (-1)) 3 120) 4 (-1)) 5 (-1)) 6 0))), (bu, .inl (cI, 128, .inl (zfill (fun _ => 0) 128 (-1)))), (a, .inl (cB, 2, .inl (upd (upd (fun _ => 0) 0 120) 1 77)))] := hD
  refine lv_aload_n hx hb d_Names_add_187 rfl (lv_at hl 3 rfl) ?_
  refine va_get (D := D) (ci := 2) (v := .ref bu) (C := "ProofDesk$Names") (T := F_Names) (N := 6) hx hb hts in_Names hown hK hP 0 rfl rfl 3 (by decide) (hts _ kw_146) (fun _ h9 => h9) rfl d_Names_add_188 ?_
  refine lv_iload hx hb d_Names_add_191 (lv_at hl 1 rfl) ?_
  refine lv_aload_n hx hb d_Names_add_193 rfl (lv_at hl 3 rfl) ?_
  refine va_get (D := D) (ci := 2) (v := .int 0) (C := "ProofDesk$Names") (T := F_Names) (N := 6) hx hb hts in_Names hown hK hP 0 rfl rfl 4 (by decide) (hts _ kw_148) (fun _ h9 => h9) rfl d_Names_add_194 ?_
  refine zz_iast hx hb hK hP hD hS 3 0 rfl rfl (i := 120) (x := 0) 120 (⟨by decide +kernel, by decide +kernel, by decide +kernel⟩) d_Names_add_197 (fun H locs hP hD hS => ?_)
  have hP : va_P D zcl [(h0, .inr (2, [.ref lt, .int 0, .ref rw, .ref bu, .int 0, .int 0])), (lt, .inl (cB, 256, .inl (upd (fun _ => 0) 0 120))), (rw, .inl (cI, 224, .inl (upd (upd (upd (upd (upd (upd (upd (fun _ => 0) 0 0) 1 1) 2 (-1)) 3 120) 4 (-1)) 5 (-1)) 6 0))), (bu, .inl (cI, 128, .inl (upd (zfill (fun _ => 0) 128 (-1)) 120 0))), (a, .inl (cB, 2, .inl (upd (upd (fun _ => 0) 0 120) 1 77)))] H := hP
  have hD : va_D A [(h0, .inr (2, [.ref lt, .int 0, .ref rw, .ref bu, .int 0, .int 0])), (lt, .inl (cB, 256, .inl (upd (fun _ => 0) 0 120))), (rw, .inl (cI, 224, .inl (upd (upd (upd (upd (upd (upd (upd (fun _ => 0) 0 0) 1 1) 2 (-1)) 3 120) 4 (-1)) 5 (-1)) 6 0))), (bu, .inl (cI, 128, .inl (upd (zfill (fun _ => 0) 128 (-1)) 120 0))), (a, .inl (cB, 2, .inl (upd (upd (fun _ => 0) 0 120) 1 77)))] := hD
  refine lv_aload_n hx hb d_Names_add_198 rfl (lv_at hl 3 rfl) ?_
  refine lv_dup hx hb d_Names_add_199 rfl ?_
  refine va_get (D := D) (ci := 2) (v := .int 0) (C := "ProofDesk$Names") (T := F_Names) (N := 6) hx hb hts in_Names hown hK hP 0 rfl rfl 1 (by decide) (hts _ kw_144) (fun _ h9 => h9) rfl d_Names_add_200 ?_
  refine lv_iload hx hb d_Names_add_203 (lv_at hl 2 rfl) ?_
  refine lv_iadd hx hb d_Names_add_205 ?_
  refine zz_i (y := 1) (by decide +kernel) ?_
  refine va_put (D := D) (ci := 2) (v := .int 1) (ty := .int) (C := "ProofDesk$Names") (T := F_Names) (N := 6) hx hb hts in_Names t_Names t_Names_ok n_Names hown hK hP hD hS 0 rfl rfl 1 (by decide) (hts _ kw_144) (fun _ h9 => h9) rfl (by decide +kernel) rfl rfl (Nat.le_of_ble_eq_true rfl) d_Names_add_206 (fun H locs hP hD hS => ?_)
  have hP : va_P D zcl [(h0, .inr (2, [.ref lt, .int 1, .ref rw, .ref bu, .int 0, .int 0])), (lt, .inl (cB, 256, .inl (upd (fun _ => 0) 0 120))), (rw, .inl (cI, 224, .inl (upd (upd (upd (upd (upd (upd (upd (fun _ => 0) 0 0) 1 1) 2 (-1)) 3 120) 4 (-1)) 5 (-1)) 6 0))), (bu, .inl (cI, 128, .inl (upd (zfill (fun _ => 0) 128 (-1)) 120 0))), (a, .inl (cB, 2, .inl (upd (upd (fun _ => 0) 0 120) 1 77)))] H := hP
  have hD : va_D A [(h0, .inr (2, [.ref lt, .int 1, .ref rw, .ref bu, .int 0, .int 0])), (lt, .inl (cB, 256, .inl (upd (fun _ => 0) 0 120))), (rw, .inl (cI, 224, .inl (upd (upd (upd (upd (upd (upd (upd (fun _ => 0) 0 0) 1 1) 2 (-1)) 3 120) 4 (-1)) 5 (-1)) 6 0))), (bu, .inl (cI, 128, .inl (upd (zfill (fun _ => 0) 128 (-1)) 120 0))), (a, .inl (cB, 2, .inl (upd (upd (fun _ => 0) 0 120) 1 77)))] := hD
  refine lv_aload_n hx hb d_Names_add_209 rfl (lv_at hl 3 rfl) ?_
  refine lv_dup hx hb d_Names_add_210 rfl ?_
  refine va_get (D := D) (ci := 2) (v := .int 0) (C := "ProofDesk$Names") (T := F_Names) (N := 6) hx hb hts in_Names hown hK hP 0 rfl rfl 4 (by decide) (hts _ kw_148) (fun _ h9 => h9) rfl d_Names_add_211 ?_
  refine lv_iconst (v := 1) hx hb d_Names_add_214 (by decide) ?_
  refine lv_iadd hx hb d_Names_add_215 ?_
  refine zz_i (y := 1) (by decide +kernel) ?_
  refine va_put (D := D) (ci := 2) (v := .int 1) (ty := .int) (C := "ProofDesk$Names") (T := F_Names) (N := 6) hx hb hts in_Names t_Names t_Names_ok n_Names hown hK hP hD hS 0 rfl rfl 4 (by decide) (hts _ kw_148) (fun _ h9 => h9) rfl (by decide +kernel) rfl rfl (Nat.le_of_ble_eq_true rfl) d_Names_add_216 (fun H locs hP hD hS => ?_)
  have hP : va_P D zcl [(h0, .inr (2, [.ref lt, .int 1, .ref rw, .ref bu, .int 1, .int 0])), (lt, .inl (cB, 256, .inl (upd (fun _ => 0) 0 120))), (rw, .inl (cI, 224, .inl (upd (upd (upd (upd (upd (upd (upd (fun _ => 0) 0 0) 1 1) 2 (-1)) 3 120) 4 (-1)) 5 (-1)) 6 0))), (bu, .inl (cI, 128, .inl (upd (zfill (fun _ => 0) 128 (-1)) 120 0))), (a, .inl (cB, 2, .inl (upd (upd (fun _ => 0) 0 120) 1 77)))] H := hP
  have hD : va_D A [(h0, .inr (2, [.ref lt, .int 1, .ref rw, .ref bu, .int 1, .int 0])), (lt, .inl (cB, 256, .inl (upd (fun _ => 0) 0 120))), (rw, .inl (cI, 224, .inl (upd (upd (upd (upd (upd (upd (upd (fun _ => 0) 0 0) 1 1) 2 (-1)) 3 120) 4 (-1)) 5 (-1)) 6 0))), (bu, .inl (cI, 128, .inl (upd (zfill (fun _ => 0) 128 (-1)) 120 0))), (a, .inl (cB, 2, .inl (upd (upd (fun _ => 0) 0 120) 1 77)))] := hD
  refine lv_aload_n hx hb d_Names_add_219 rfl (lv_at hl 3 rfl) ?_
  refine va_get (D := D) (ci := 2) (v := .int 1) (C := "ProofDesk$Names") (T := F_Names) (N := 6) hx hb hts in_Names hown hK hP 0 rfl rfl 4 (by decide) (hts _ kw_148) (fun _ h9 => h9) rfl d_Names_add_220 ?_
  refine lv_iconst (v := 1) hx hb d_Names_add_223 (by decide) ?_
  refine lv_isub hx hb d_Names_add_224 ?_
  refine zz_i (y := 0) (by decide +kernel) ?_
  have hP9 := hP.sub (ws' := [(h0, .inr (2, [.ref lt, .int 1, .ref rw, .ref bu, .int 1, .int 0])), (lt, .inl (cB, 256, .inl (upd (fun _ => 0) 0 120))), (rw, .inl (cI, 224, .inl (upd (upd (upd (upd (upd (upd (upd (fun _ => 0) 0 0) 1 1) 2 (-1)) 3 120) 4 (-1)) 5 (-1)) 6 0))), (bu, .inl (cI, 128, .inl (upd (zfill (fun _ => 0) 128 (-1)) 120 0))), (a, .inl (cB, 2, .inl (upd (upd (fun _ => 0) 0 120) 1 77)))]) [0, 1, 2, 3, 4] rfl
  have hD9 := hD.sub (ws' := [(h0, .inr (2, [.ref lt, .int 1, .ref rw, .ref bu, .int 1, .int 0])), (lt, .inl (cB, 256, .inl (upd (fun _ => 0) 0 120))), (rw, .inl (cI, 224, .inl (upd (upd (upd (upd (upd (upd (upd (fun _ => 0) 0 0) 1 1) 2 (-1)) 3 120) 4 (-1)) 5 (-1)) 6 0))), (bu, .inl (cI, 128, .inl (upd (zfill (fun _ => 0) 128 (-1)) 120 0))), (a, .inl (cB, 2, .inl (upd (upd (fun _ => 0) 0 120) 1 77)))]) [0, 1, 2, 3, 4] (by decide +kernel) rfl
  refine W.widen (k := 0) (n := 0) (by omega) (by omega) ?_
  exact W.iret (v := 0) hx hb hr (fun t ht hW => ⟨⟨0, (), rfl, rfl, by rw [ht]; exact hP9, hD9⟩, hS.F ht⟩) hS.2.2 d_Names_add_225
abbrev b_Names_intern : ByteArray := prog_5_method_3_code
abbrev y_Names_intern : MethodName := ⟨"ProofDesk$Names", "intern", "([BII)I"⟩
theorem d_Names_intern_0 : decode b_Names_intern 0 = .ok (.aload_n 0, 1) := by decide +kernel
theorem d_Names_intern_1 : decode b_Names_intern 1 = .ok (.aload_n 1, 1) := by decide +kernel
theorem d_Names_intern_2 : decode b_Names_intern 2 = .ok (.iload_n 2, 1) := by decide +kernel
theorem d_Names_intern_3 : decode b_Names_intern 3 = .ok (.iload_n 3, 1) := by decide +kernel
theorem d_Names_intern_4 : decode b_Names_intern 4 = .ok (.invokevirtual 39, 3) := by decide +kernel
theorem kw_102 : (Jvm.Cond.code ({ cls := "ProofDesk$Names", name := "lookUp", desc := "([BII)I" } : Jvm.MethodName) prog_5_method_2_code (5 : Nat) (Option.some Jvm.ClassFile.FieldType.int)) ∈ zw := List.mem_filter.mpr ⟨List.mem_append_right _ (List.mem_of_getElem? (i := 102) rfl), by decide +kernel⟩
theorem kw_99 : (Jvm.Cond.methodLink "ProofDesk$Names" (39 : Nat) ({ cls := "ProofDesk$Names", name := "lookUp", desc := "([BII)I" } : Jvm.MethodName)) ∈ zw := List.mem_filter.mpr ⟨List.mem_append_right _ (List.mem_of_getElem? (i := 99) (by decide +kernel)), by decide +kernel⟩
theorem kw_100 : (Jvm.Cond.instanceMethod ({ cls := "ProofDesk$Names", name := "lookUp", desc := "([BII)I" } : Jvm.MethodName)) ∈ zw := List.mem_filter.mpr ⟨List.mem_append_right _ (List.mem_of_getElem? (i := 100) (by decide +kernel)), by decide +kernel⟩
theorem kw_101 : (Jvm.Cond.selects "ProofDesk$Names" ({ cls := "ProofDesk$Names", name := "lookUp", desc := "([BII)I" } : Jvm.MethodName) ({ cls := "ProofDesk$Names", name := "lookUp", desc := "([BII)I" } : Jvm.MethodName)) ∈ zw := List.mem_filter.mpr ⟨List.mem_append_right _ (List.mem_of_getElem? (i := 101) (by decide +kernel)), by decide +kernel⟩
theorem d_Names_intern_7 : decode b_Names_intern 7 = .ok (.istore 4, 2) := by decide +kernel
theorem d_Names_intern_9 : decode b_Names_intern 9 = .ok (.iload 4, 2) := by decide +kernel
theorem d_Names_intern_11 : decode b_Names_intern 11 = .ok (.iconst (-1), 1) := by decide +kernel
theorem d_Names_intern_12 : decode b_Names_intern 12 = .ok (.if_icmp .eq 8, 3) := by decide +kernel
theorem d_Names_intern_20 : decode b_Names_intern 20 = .ok (.aload_n 0, 1) := by decide +kernel
theorem d_Names_intern_21 : decode b_Names_intern 21 = .ok (.aload_n 1, 1) := by decide +kernel
theorem d_Names_intern_22 : decode b_Names_intern 22 = .ok (.iload_n 2, 1) := by decide +kernel
theorem d_Names_intern_23 : decode b_Names_intern 23 = .ok (.iload_n 3, 1) := by decide +kernel
theorem d_Names_intern_24 : decode b_Names_intern 24 = .ok (.invokevirtual 42, 3) := by decide +kernel
theorem kw_117 : (Jvm.Cond.code ({ cls := "ProofDesk$Names", name := "add", desc := "([BII)I" } : Jvm.MethodName) prog_5_method_4_code (7 : Nat) (Option.some Jvm.ClassFile.FieldType.int)) ∈ zw := List.mem_filter.mpr ⟨List.mem_append_right _ (List.mem_of_getElem? (i := 117) rfl), by decide +kernel⟩
theorem kw_114 : (Jvm.Cond.methodLink "ProofDesk$Names" (42 : Nat) ({ cls := "ProofDesk$Names", name := "add", desc := "([BII)I" } : Jvm.MethodName)) ∈ zw := List.mem_filter.mpr ⟨List.mem_append_right _ (List.mem_of_getElem? (i := 114) (by decide +kernel)), by decide +kernel⟩
theorem kw_116 : (Jvm.Cond.instanceMethod ({ cls := "ProofDesk$Names", name := "add", desc := "([BII)I" } : Jvm.MethodName)) ∈ zw := List.mem_filter.mpr ⟨List.mem_append_right _ (List.mem_of_getElem? (i := 116) (by decide +kernel)), by decide +kernel⟩
theorem kp_1 : (Jvm.Cond.selects "ProofDesk$Names" ({ cls := "ProofDesk$Names", name := "add", desc := "([BII)I" } : Jvm.MethodName) ({ cls := "ProofDesk$Names", name := "add", desc := "([BII)I" } : Jvm.MethodName)) ∈ zw := List.mem_filter.mpr ⟨List.mem_append_left _ (List.mem_of_getElem? (i := 1) (by decide +kernel)), by decide +kernel⟩
theorem d_Names_intern_27 : decode b_Names_intern 27 = .ok (.ireturn, 1) := by decide +kernel
set_option maxHeartbeats 4000000 in
set_option maxRecDepth 100000 in
theorem c_Names_intern0 (l : Launch) (D : va_G) (cI cB cZ cS : ClassId) (sz : Nat) (h0 : Nat) (lt : Nat) (rw : Nat) (bu : Nat) (a : Nat) : Met l y_Names_intern (zc y_Names_intern b_Names_intern 5 (some .int)) ({ frames := 2, cells := 0, slots := 0, locals := 66 }) (zPc D (zty cI cB cZ cS) [(h0, .inr (2, [.ref lt, .int 0, .ref rw, .ref bu, .int 0, .int 0])), (lt, .inl (cB, 256, .inl (fun _ => 0))), (rw, .inl (cI, 224, .inl (fun _ => 0))), (bu, .inl (cI, 128, .inl (zfill (fun _ => 0) 128 (-1)))), (a, .inl (cB, 2, .inl (upd (upd (fun _ => 0) 0 120) 1 77)))] sz [.ref h0, .ref a, .int 0, .int 1]) (va_Qi (fun (r : Int32) (_ : Unit) => r = 0) (fun _ t => va_P D zcl [(h0, .inr (2, [.ref lt, .int 1, .ref rw, .ref bu, .int 1, .int 0])), (lt, .inl (cB, 256, .inl (upd (fun _ => 0) 0 120))), (rw, .inl (cI, 224, .inl (upd (upd (upd (upd (upd (upd (upd (fun _ => 0) 0 0) 1 1) 2 (-1)) 3 120) 4 (-1)) 5 (-1)) 6 0))), (bu, .inl (cI, 128, .inl (upd (zfill (fun _ => 0) 128 (-1)) 120 0))), (a, .inl (cB, 2, .inl (upd (upd (fun _ => 0) 0 120) 1 77)))] t.heap ∧ va_D (va_A [(h0, .inr (2, [.ref lt, .int 0, .ref rw, .ref bu, .int 0, .int 0])), (lt, .inl (cB, 256, .inl (fun _ => 0))), (rw, .inl (cI, 224, .inl (fun _ => 0))), (bu, .inl (cI, 128, .inl (zfill (fun _ => 0) 128 (-1)))), (a, .inl (cB, 2, .inl (upd (upd (fun _ => 0) 0 120) 1 77)))] sz) [(h0, .inr (2, [.ref lt, .int 1, .ref rw, .ref bu, .int 1, .int 0])), (lt, .inl (cB, 256, .inl (upd (fun _ => 0) 0 120))), (rw, .inl (cI, 224, .inl (upd (upd (upd (upd (upd (upd (upd (fun _ => 0) 0 0) 1 1) 2 (-1)) 3 120) 4 (-1)) 5 (-1)) 6 0))), (bu, .inl (cI, 128, .inl (upd (zfill (fun _ => 0) 128 (-1)) 120 0))), (a, .inl (cB, 2, .inl (upd (upd (fun _ => 0) 0 120) 1 77)))]) (va_A [(h0, .inr (2, [.ref lt, .int 0, .ref rw, .ref bu, .int 0, .int 0])), (lt, .inl (cB, 256, .inl (fun _ => 0))), (rw, .inl (cI, 224, .inl (fun _ => 0))), (bu, .inl (cI, 128, .inl (zfill (fun _ => 0) 128 (-1)))), (a, .inl (cB, 2, .inl (upd (upd (fun _ => 0) 0 120) 1 77)))] sz)) 0 0 (va_A [(h0, .inr (2, [.ref lt, .int 0, .ref rw, .ref bu, .int 0, .int 0])), (lt, .inl (cB, 256, .inl (fun _ => 0))), (rw, .inl (cI, 224, .inl (fun _ => 0))), (bu, .inl (cI, 128, .inl (zfill (fun _ => 0) 128 (-1)))), (a, .inl (cB, 2, .inl (upd (upd (fun _ => 0) 0 120) 1 77)))] sz) := by
  refine Met.ofW (cc := b_Names_intern) (maxL := 5) (ret := (some .int)) (by decide) rfl ?_
  intro p e s m args below meth c s₁ B hml hv
  obtain ⟨rfl, hsz, hP, ⟨hK, hN⟩, hD0⟩ := hv
  have hx := B.exec
  have hb := B.bytes
  have hr := B.returns
  have hts0 := atoms_spec (ws := zc y_Names_intern b_Names_intern 5 (some .int)) B.pre
  have hts : ∀ w ∈ zw, w.before _ s = true := fun w hw => hts0 w (List.mem_cons_of_mem _ hw)
  have hown : s.vm.findClass "ProofDesk$Names" = some m.cls := findClass_of_methodNamed B.named
  have hlocks := B.notSynchronized
  subst hsz
  have hD := hD0.self (sz := s.heap.size)
  generalize hAe : va_A [(h0, .inr (2, [.ref lt, .int 0, .ref rw, .ref bu, .int 0, .int 0])), (lt, .inl (cB, 256, .inl (fun _ => 0))), (rw, .inl (cI, 224, .inl (fun _ => 0))), (bu, .inl (cI, 128, .inl (zfill (fun _ => 0) 128 (-1)))), (a, .inl (cB, 2, .inl (upd (upd (fun _ => 0) 0 120) 1 77)))] s.heap.size = A at hD ⊢
  have hA : ∀ q : Nat, s.heap.size ≤ q → A q := fun q h => by rw [← hAe]; exact Or.inr h
  have hS : va_S A s.heap s.heap [] := va_S.rf
  have hP : va_P D zcl [(h0, .inr (2, [.ref lt, .int 0, .ref rw, .ref bu, .int 0, .int 0])), (lt, .inl (cB, 256, .inl (fun _ => 0))), (rw, .inl (cI, 224, .inl (fun _ => 0))), (bu, .inl (cI, 128, .inl (zfill (fun _ => 0) 128 (-1)))), (a, .inl (cB, 2, .inl (upd (upd (fun _ => 0) 0 120) 1 77)))] s.heap := hP
  have hl := lv_entry ([.ref h0, .ref a, .int 0, .int 1]) (n := 5) (Nat.le_of_ble_eq_true rfl)
  rw [lg_entry_eq]
  generalize (lg_sl ([.ref h0, .ref a, .int 0, .int 1]) ++ List.replicate (5 - (lg_sl ([.ref h0, .ref a, .int 0, .int 1])).length) Slot.unset).toArray = ls at hl ⊢
  have hl : lv_has ls 5 [(0, .ref h0), (1, .ref a), (2, .int 0), (3, .int 1)] := hl
  refine lv_aload_n hx hb d_Names_intern_0 rfl (lv_at hl 0 rfl) ?_
  refine lv_aload_n hx hb d_Names_intern_1 rfl (lv_at hl 1 rfl) ?_
  refine lv_iload_n hx hb d_Names_intern_2 rfl (lv_at hl 2 rfl) ?_
  refine lv_iload_n hx hb d_Names_intern_3 rfl (lv_at hl 3 rfl) ?_
  have hPc := hP.sub (ws' := [(h0, .inr (2, [.ref lt, .int 0, .ref rw, .ref bu, .int 0, .int 0])), (lt, .inl (cB, 256, .inl (fun _ => 0))), (rw, .inl (cI, 224, .inl (fun _ => 0))), (bu, .inl (cI, 128, .inl (zfill (fun _ => 0) 128 (-1)))), (a, .inl (cB, 2, .inl (upd (upd (fun _ => 0) 0 120) 1 77)))]) [0, 1, 2, 3, 4] rfl
  have hDc := hD.sub (ws' := [(h0, .inr (2, [.ref lt, .int 0, .ref rw, .ref bu, .int 0, .int 0])), (lt, .inl (cB, 256, .inl (fun _ => 0))), (rw, .inl (cI, 224, .inl (fun _ => 0))), (bu, .inl (cI, 128, .inl (zfill (fun _ => 0) 128 (-1)))), (a, .inl (cB, 2, .inl (upd (upd (fun _ => 0) 0 120) 1 77)))]) [0, 1, 2, 3, 4] (by decide +kernel) rfl
  have hFc := va_free (wc := [(h0, .inr (2, [.ref lt, .int 0, .ref rw, .ref bu, .int 0, .int 0])), (lt, .inl (cB, 256, .inl (fun _ => 0))), (rw, .inl (cI, 224, .inl (fun _ => 0))), (bu, .inl (cI, 128, .inl (zfill (fun _ => 0) 128 (-1)))), (a, .inl (cB, 2, .inl (upd (upd (fun _ => 0) 0 120) 1 77)))]) hD hS hA [0, 1, 2, 3, 4] rfl
  have hkc : 0 + 0 ≤ 0 := by omega
  have hks : 0 + 0 ≤ 0 := by omega
  refine va_calli (va_runV (As := [.ref a, .int 0, .int 1]) (rest := []) ⟨hx, hb, hml, hown, hts⟩ (c_Names_lookUp0 l D cI cB cZ cS s.heap.size h0 lt rw bu a) (⟨callB_of 3 hts (zgood kw_102) rfl rfl rfl (hts _ kw_4) (hts _ kw_99) (by decide +kernel) ⟨Nat.le_of_ble_eq_true rfl, Nat.le_of_ble_eq_true rfl⟩, hts _ kw_100, hts _ kw_101⟩) (zPreV hPc hK hN hDc (va_recv (q := ("ProofDesk$Names", F_Names, 6)) hK hP rfl (q0 := 0) rfl)) rfl rfl hl.1 rfl (lv_room (Nat.le_of_ble_eq_true rfl)) d_Names_intern_4 ⟨hkc, hks⟩) hS (fun q _ h => hFc q h) hFc (fun r u t H1 locs ht hvm hw hB hz1 hk1 hS => ?_)
  obtain ⟨hP1, hD1⟩ := hB
  rw [ht] at hP1
  obtain ⟨hP, hD⟩ := va_join (wr := []) (w1 := [(h0, .inr (2, [.ref lt, .int 0, .ref rw, .ref bu, .int 0, .int 0])), (lt, .inl (cB, 256, .inl (fun _ => 0))), (rw, .inl (cI, 224, .inl (fun _ => 0))), (bu, .inl (cI, 128, .inl (zfill (fun _ => 0) 128 (-1)))), (a, .inl (cB, 2, .inl (upd (upd (fun _ => 0) 0 120) 1 77)))]) hP hD [0, 1, 2, 3, 4] [] rfl rfl (by decide +kernel) (by decide +kernel) hk1 hFc hP1 hD1
  generalize H1 = H at hP hS ⊢
  have hP : va_P D zcl [(h0, .inr (2, [.ref lt, .int 0, .ref rw, .ref bu, .int 0, .int 0])), (lt, .inl (cB, 256, .inl (fun _ => 0))), (rw, .inl (cI, 224, .inl (fun _ => 0))), (bu, .inl (cI, 128, .inl (zfill (fun _ => 0) 128 (-1)))), (a, .inl (cB, 2, .inl (upd (upd (fun _ => 0) 0 120) 1 77)))] H := hP
  have hD : va_D A [(h0, .inr (2, [.ref lt, .int 0, .ref rw, .ref bu, .int 0, .int 0])), (lt, .inl (cB, 256, .inl (fun _ => 0))), (rw, .inl (cI, 224, .inl (fun _ => 0))), (bu, .inl (cI, 128, .inl (zfill (fun _ => 0) 128 (-1)))), (a, .inl (cB, 2, .inl (upd (upd (fun _ => 0) 0 120) 1 77)))] := hD
  subst hw
  refine W.widen (k := 0) (n := 0) (by omega) (by omega) ?_
  refine lv_istore (lv' := [(4, .int (-1)), (0, .ref h0), (1, .ref a), (2, .int 0), (3, .int 1)]) hx hb d_Names_intern_7 hl (by decide) rfl (fun ls hl => ?_)
  refine lv_iload hx hb d_Names_intern_9 (lv_at hl 0 rfl) ?_
  refine lv_iconst (v := (-1)) hx hb d_Names_intern_11 (by decide) ?_
  have hc_1 : ((-1) : Int32) = (-1) := by decide +kernel
  refine lv_icmp_eq hx hb d_Names_intern_12 rfl (fun _ => ?_) (fun h => absurd hc_1 h)
  refine lv_aload_n hx hb d_Names_intern_20 rfl (lv_at hl 1 rfl) ?_
  refine lv_aload_n hx hb d_Names_intern_21 rfl (lv_at hl 2 rfl) ?_
  refine lv_iload_n hx hb d_Names_intern_22 rfl (lv_at hl 3 rfl) ?_
  refine lv_iload_n hx hb d_Names_intern_23 rfl (lv_at hl 4 rfl) ?_
  have hPc := hP.sub (ws' := [(h0, .inr (2, [.ref lt, .int 0, .ref rw, .ref bu, .int 0, .int 0])), (lt, .inl (cB, 256, .inl (fun _ => 0))), (rw, .inl (cI, 224, .inl (fun _ => 0))), (bu, .inl (cI, 128, .inl (zfill (fun _ => 0) 128 (-1)))), (a, .inl (cB, 2, .inl (upd (upd (fun _ => 0) 0 120) 1 77)))]) [0, 1, 2, 3, 4] rfl
  have hDc := hD.sub (ws' := [(h0, .inr (2, [.ref lt, .int 0, .ref rw, .ref bu, .int 0, .int 0])), (lt, .inl (cB, 256, .inl (fun _ => 0))), (rw, .inl (cI, 224, .inl (fun _ => 0))), (bu, .inl (cI, 128, .inl (zfill (fun _ => 0) 128 (-1)))), (a, .inl (cB, 2, .inl (upd (upd (fun _ => 0) 0 120) 1 77)))]) [0, 1, 2, 3, 4] (by decide +kernel) rfl
  have hFc := va_free (wc := [(h0, .inr (2, [.ref lt, .int 0, .ref rw, .ref bu, .int 0, .int 0])), (lt, .inl (cB, 256, .inl (fun _ => 0))), (rw, .inl (cI, 224, .inl (fun _ => 0))), (bu, .inl (cI, 128, .inl (zfill (fun _ => 0) 128 (-1)))), (a, .inl (cB, 2, .inl (upd (upd (fun _ => 0) 0 120) 1 77)))]) hD hS hA [0, 1, 2, 3, 4] rfl
  have hkc : 0 + 0 ≤ 0 := by omega
  have hks : 0 + 0 ≤ 0 := by omega
  refine va_calli (va_runV (As := [.ref a, .int 0, .int 1]) (rest := []) ⟨hx, hb, hml, hown, hts⟩ (c_Names_add0 l D cI cB cZ cS H.size h0 lt rw bu a) (⟨callB_of 3 hts (zgood kw_117) rfl rfl rfl (hts _ kw_4) (hts _ kw_114) (by decide +kernel) ⟨Nat.le_of_ble_eq_true rfl, Nat.le_of_ble_eq_true rfl⟩, hts _ kw_116, hts _ kp_1⟩) (zPreV hPc hK hN hDc (va_recv (q := ("ProofDesk$Names", F_Names, 6)) hK hP rfl (q0 := 0) rfl)) rfl rfl hl.1 rfl (lv_room (Nat.le_of_ble_eq_true rfl)) d_Names_intern_24 ⟨hkc, hks⟩) hS (fun q _ h => hFc q h) hFc (fun r u t H1 locs ht hvm hw hB hz1 hk1 hS => ?_)
  obtain ⟨hP1, hD1⟩ := hB
  rw [ht] at hP1
  obtain ⟨hP, hD⟩ := va_join (wr := []) (w1 := [(h0, .inr (2, [.ref lt, .int 1, .ref rw, .ref bu, .int 1, .int 0])), (lt, .inl (cB, 256, .inl (upd (fun _ => 0) 0 120))), (rw, .inl (cI, 224, .inl (upd (upd (upd (upd (upd (upd (upd (fun _ => 0) 0 0) 1 1) 2 (-1)) 3 120) 4 (-1)) 5 (-1)) 6 0))), (bu, .inl (cI, 128, .inl (upd (zfill (fun _ => 0) 128 (-1)) 120 0))), (a, .inl (cB, 2, .inl (upd (upd (fun _ => 0) 0 120) 1 77)))]) hP hD [0, 1, 2, 3, 4] [] rfl rfl (by decide +kernel) (by decide +kernel) hk1 hFc hP1 hD1
  generalize H1 = H at hP hS ⊢
  have hP : va_P D zcl [(h0, .inr (2, [.ref lt, .int 1, .ref rw, .ref bu, .int 1, .int 0])), (lt, .inl (cB, 256, .inl (upd (fun _ => 0) 0 120))), (rw, .inl (cI, 224, .inl (upd (upd (upd (upd (upd (upd (upd (fun _ => 0) 0 0) 1 1) 2 (-1)) 3 120) 4 (-1)) 5 (-1)) 6 0))), (bu, .inl (cI, 128, .inl (upd (zfill (fun _ => 0) 128 (-1)) 120 0))), (a, .inl (cB, 2, .inl (upd (upd (fun _ => 0) 0 120) 1 77)))] H := hP
  have hD : va_D A [(h0, .inr (2, [.ref lt, .int 1, .ref rw, .ref bu, .int 1, .int 0])), (lt, .inl (cB, 256, .inl (upd (fun _ => 0) 0 120))), (rw, .inl (cI, 224, .inl (upd (upd (upd (upd (upd (upd (upd (fun _ => 0) 0 0) 1 1) 2 (-1)) 3 120) 4 (-1)) 5 (-1)) 6 0))), (bu, .inl (cI, 128, .inl (upd (zfill (fun _ => 0) 128 (-1)) 120 0))), (a, .inl (cB, 2, .inl (upd (upd (fun _ => 0) 0 120) 1 77)))] := hD
  subst hw
  refine W.widen (k := 0) (n := 0) (by omega) (by omega) ?_
  have hP9 := hP.sub (ws' := [(h0, .inr (2, [.ref lt, .int 1, .ref rw, .ref bu, .int 1, .int 0])), (lt, .inl (cB, 256, .inl (upd (fun _ => 0) 0 120))), (rw, .inl (cI, 224, .inl (upd (upd (upd (upd (upd (upd (upd (fun _ => 0) 0 0) 1 1) 2 (-1)) 3 120) 4 (-1)) 5 (-1)) 6 0))), (bu, .inl (cI, 128, .inl (upd (zfill (fun _ => 0) 128 (-1)) 120 0))), (a, .inl (cB, 2, .inl (upd (upd (fun _ => 0) 0 120) 1 77)))]) [0, 1, 2, 3, 4] rfl
  have hD9 := hD.sub (ws' := [(h0, .inr (2, [.ref lt, .int 1, .ref rw, .ref bu, .int 1, .int 0])), (lt, .inl (cB, 256, .inl (upd (fun _ => 0) 0 120))), (rw, .inl (cI, 224, .inl (upd (upd (upd (upd (upd (upd (upd (fun _ => 0) 0 0) 1 1) 2 (-1)) 3 120) 4 (-1)) 5 (-1)) 6 0))), (bu, .inl (cI, 128, .inl (upd (zfill (fun _ => 0) 128 (-1)) 120 0))), (a, .inl (cB, 2, .inl (upd (upd (fun _ => 0) 0 120) 1 77)))]) [0, 1, 2, 3, 4] (by decide +kernel) rfl
  refine W.widen (k := 0) (n := 0) (by omega) (by omega) ?_
  exact W.iret (v := 0) hx hb hr (fun t ht hW => ⟨⟨0, (), rfl, rfl, by rw [ht]; exact hP9, hD9⟩, hS.F ht⟩) hS.2.2 d_Names_intern_27
set_option maxHeartbeats 4000000 in
set_option maxRecDepth 100000 in
theorem c_Names_lookUp1 (l : Launch) (D : va_G) (cI cB cZ cS : ClassId) (sz : Nat) (h0 : Nat) (lt : Nat) (rw : Nat) (bu : Nat) (a : Nat) : Met l y_Names_lookUp (zc y_Names_lookUp b_Names_lookUp 5 (some .int)) ({ frames := 1, cells := 0, slots := 0, locals := 24 }) (zPc D (zty cI cB cZ cS) [(h0, .inr (2, [.ref lt, .int 1, .ref rw, .ref bu, .int 1, .int 0])), (lt, .inl (cB, 256, .inl (upd (fun _ => 0) 0 120))), (rw, .inl (cI, 224, .inl (upd (upd (upd (upd (upd (upd (upd (fun _ => 0) 0 0) 1 1) 2 (-1)) 3 120) 4 (-1)) 5 (-1)) 6 0))), (bu, .inl (cI, 128, .inl (upd (zfill (fun _ => 0) 128 (-1)) 120 0))), (a, .inl (cB, 2, .inl (upd (upd (fun _ => 0) 0 120) 1 77)))] sz [.ref h0, .ref a, .int 1, .int 2]) (va_Qi (fun (r : Int32) (_ : Unit) => r = (-1)) (fun _ t => va_P D zcl [(h0, .inr (2, [.ref lt, .int 1, .ref rw, .ref bu, .int 1, .int 0])), (lt, .inl (cB, 256, .inl (upd (fun _ => 0) 0 120))), (rw, .inl (cI, 224, .inl (upd (upd (upd (upd (upd (upd (upd (fun _ => 0) 0 0) 1 1) 2 (-1)) 3 120) 4 (-1)) 5 (-1)) 6 0))), (bu, .inl (cI, 128, .inl (upd (zfill (fun _ => 0) 128 (-1)) 120 0))), (a, .inl (cB, 2, .inl (upd (upd (fun _ => 0) 0 120) 1 77)))] t.heap ∧ va_D (va_A [(h0, .inr (2, [.ref lt, .int 1, .ref rw, .ref bu, .int 1, .int 0])), (lt, .inl (cB, 256, .inl (upd (fun _ => 0) 0 120))), (rw, .inl (cI, 224, .inl (upd (upd (upd (upd (upd (upd (upd (fun _ => 0) 0 0) 1 1) 2 (-1)) 3 120) 4 (-1)) 5 (-1)) 6 0))), (bu, .inl (cI, 128, .inl (upd (zfill (fun _ => 0) 128 (-1)) 120 0))), (a, .inl (cB, 2, .inl (upd (upd (fun _ => 0) 0 120) 1 77)))] sz) [(h0, .inr (2, [.ref lt, .int 1, .ref rw, .ref bu, .int 1, .int 0])), (lt, .inl (cB, 256, .inl (upd (fun _ => 0) 0 120))), (rw, .inl (cI, 224, .inl (upd (upd (upd (upd (upd (upd (upd (fun _ => 0) 0 0) 1 1) 2 (-1)) 3 120) 4 (-1)) 5 (-1)) 6 0))), (bu, .inl (cI, 128, .inl (upd (zfill (fun _ => 0) 128 (-1)) 120 0))), (a, .inl (cB, 2, .inl (upd (upd (fun _ => 0) 0 120) 1 77)))]) (va_A [(h0, .inr (2, [.ref lt, .int 1, .ref rw, .ref bu, .int 1, .int 0])), (lt, .inl (cB, 256, .inl (upd (fun _ => 0) 0 120))), (rw, .inl (cI, 224, .inl (upd (upd (upd (upd (upd (upd (upd (fun _ => 0) 0 0) 1 1) 2 (-1)) 3 120) 4 (-1)) 5 (-1)) 6 0))), (bu, .inl (cI, 128, .inl (upd (zfill (fun _ => 0) 128 (-1)) 120 0))), (a, .inl (cB, 2, .inl (upd (upd (fun _ => 0) 0 120) 1 77)))] sz)) 0 0 (va_A [(h0, .inr (2, [.ref lt, .int 1, .ref rw, .ref bu, .int 1, .int 0])), (lt, .inl (cB, 256, .inl (upd (fun _ => 0) 0 120))), (rw, .inl (cI, 224, .inl (upd (upd (upd (upd (upd (upd (upd (fun _ => 0) 0 0) 1 1) 2 (-1)) 3 120) 4 (-1)) 5 (-1)) 6 0))), (bu, .inl (cI, 128, .inl (upd (zfill (fun _ => 0) 128 (-1)) 120 0))), (a, .inl (cB, 2, .inl (upd (upd (fun _ => 0) 0 120) 1 77)))] sz) := by
  refine Met.ofW (cc := b_Names_lookUp) (maxL := 5) (ret := (some .int)) (by decide) rfl ?_
  intro p e s m args below meth c s₁ B hml hv
  obtain ⟨rfl, hsz, hP, ⟨hK, hN⟩, hD0⟩ := hv
  have hx := B.exec
  have hb := B.bytes
  have hr := B.returns
  have hts0 := atoms_spec (ws := zc y_Names_lookUp b_Names_lookUp 5 (some .int)) B.pre
  have hts : ∀ w ∈ zw, w.before _ s = true := fun w hw => hts0 w (List.mem_cons_of_mem _ hw)
  have hown : s.vm.findClass "ProofDesk$Names" = some m.cls := findClass_of_methodNamed B.named
  have hlocks := B.notSynchronized
  subst hsz
  have hD := hD0.self (sz := s.heap.size)
  generalize hAe : va_A [(h0, .inr (2, [.ref lt, .int 1, .ref rw, .ref bu, .int 1, .int 0])), (lt, .inl (cB, 256, .inl (upd (fun _ => 0) 0 120))), (rw, .inl (cI, 224, .inl (upd (upd (upd (upd (upd (upd (upd (fun _ => 0) 0 0) 1 1) 2 (-1)) 3 120) 4 (-1)) 5 (-1)) 6 0))), (bu, .inl (cI, 128, .inl (upd (zfill (fun _ => 0) 128 (-1)) 120 0))), (a, .inl (cB, 2, .inl (upd (upd (fun _ => 0) 0 120) 1 77)))] s.heap.size = A at hD ⊢
  have hA : ∀ q : Nat, s.heap.size ≤ q → A q := fun q h => by rw [← hAe]; exact Or.inr h
  have hS : va_S A s.heap s.heap [] := va_S.rf
  have hP : va_P D zcl [(h0, .inr (2, [.ref lt, .int 1, .ref rw, .ref bu, .int 1, .int 0])), (lt, .inl (cB, 256, .inl (upd (fun _ => 0) 0 120))), (rw, .inl (cI, 224, .inl (upd (upd (upd (upd (upd (upd (upd (fun _ => 0) 0 0) 1 1) 2 (-1)) 3 120) 4 (-1)) 5 (-1)) 6 0))), (bu, .inl (cI, 128, .inl (upd (zfill (fun _ => 0) 128 (-1)) 120 0))), (a, .inl (cB, 2, .inl (upd (upd (fun _ => 0) 0 120) 1 77)))] s.heap := hP
  have hl := lv_entry ([.ref h0, .ref a, .int 1, .int 2]) (n := 5) (Nat.le_of_ble_eq_true rfl)
  rw [lg_entry_eq]
  generalize (lg_sl ([.ref h0, .ref a, .int 1, .int 2]) ++ List.replicate (5 - (lg_sl ([.ref h0, .ref a, .int 1, .int 2])).length) Slot.unset).toArray = ls at hl ⊢
  have hl : lv_has ls 5 [(0, .ref h0), (1, .ref a), (2, .int 1), (3, .int 2)] := hl
  refine lv_aload_n hx hb d_Names_lookUp_0 rfl (lv_at hl 0 rfl) ?_
  refine va_get (D := D) (ci := 2) (v := .ref bu) (C := "ProofDesk$Names") (T := F_Names) (N := 6) hx hb hts in_Names hown hK hP 0 rfl rfl 3 (by decide) (hts _ kw_146) (fun _ h9 => h9) rfl d_Names_lookUp_1 ?_
  refine lv_aload_n hx hb d_Names_lookUp_4 rfl (lv_at hl 1 rfl) ?_
  refine lv_iload_n hx hb d_Names_lookUp_5 rfl (lv_at hl 2 rfl) ?_
  refine lv_iload_n hx hb d_Names_lookUp_6 rfl (lv_at hl 3 rfl) ?_
  have hPc := hP.sub (ws' := [(a, .inl (cB, 2, .inl (upd (upd (fun _ => 0) 0 120) 1 77)))]) [4] rfl
  have hDc := hD.sub (ws' := [(a, .inl (cB, 2, .inl (upd (upd (fun _ => 0) 0 120) 1 77)))]) [4] (by decide +kernel) rfl
  have hFc := va_free (wc := [(a, .inl (cB, 2, .inl (upd (upd (fun _ => 0) 0 120) 1 77)))]) hD hS hA [4] rfl
  have hkc : 0 + 0 ≤ 0 := by omega
  have hks : 0 + 0 ≤ 0 := by omega
  refine va_calli (va_runS (As := [.ref a, .int 1, .int 2]) (rest := [.ref bu]) ⟨hx, hb, hml, hown, hts⟩ (c_Names_bucketOf1 l D cI cB cZ cS s.heap.size a) (⟨callB_of 3 hts (zgood kw_105) rfl rfl rfl (hts _ kw_4) (hts _ kw_103) (by decide +kernel) ⟨Nat.le_of_ble_eq_true rfl, Nat.le_of_ble_eq_true rfl⟩, hts _ kw_104⟩) (zPreS hPc hK hN hDc) rfl rfl hl.1 rfl (lv_room (Nat.le_of_ble_eq_true rfl)) d_Names_lookUp_7 ⟨hkc, hks⟩) hS (fun q _ h => hFc q h) hFc (fun r u t H1 locs ht hvm hw hB hz1 hk1 hS => ?_)
  obtain ⟨hP1, hD1⟩ := hB
  rw [ht] at hP1
  obtain ⟨hP, hD⟩ := va_join (wr := [(h0, .inr (2, [.ref lt, .int 1, .ref rw, .ref bu, .int 1, .int 0])), (lt, .inl (cB, 256, .inl (upd (fun _ => 0) 0 120))), (rw, .inl (cI, 224, .inl (upd (upd (upd (upd (upd (upd (upd (fun _ => 0) 0 0) 1 1) 2 (-1)) 3 120) 4 (-1)) 5 (-1)) 6 0))), (bu, .inl (cI, 128, .inl (upd (zfill (fun _ => 0) 128 (-1)) 120 0)))]) (w1 := [(a, .inl (cB, 2, .inl (upd (upd (fun _ => 0) 0 120) 1 77)))]) hP hD [4] [0, 1, 2, 3] rfl rfl (by decide +kernel) (by decide +kernel) hk1 hFc hP1 hD1
  generalize H1 = H at hP hS ⊢
  have hP : va_P D zcl [(h0, .inr (2, [.ref lt, .int 1, .ref rw, .ref bu, .int 1, .int 0])), (lt, .inl (cB, 256, .inl (upd (fun _ => 0) 0 120))), (rw, .inl (cI, 224, .inl (upd (upd (upd (upd (upd (upd (upd (fun _ => 0) 0 0) 1 1) 2 (-1)) 3 120) 4 (-1)) 5 (-1)) 6 0))), (bu, .inl (cI, 128, .inl (upd (zfill (fun _ => 0) 128 (-1)) 120 0))), (a, .inl (cB, 2, .inl (upd (upd (fun _ => 0) 0 120) 1 77)))] H := hP
  have hD : va_D A [(h0, .inr (2, [.ref lt, .int 1, .ref rw, .ref bu, .int 1, .int 0])), (lt, .inl (cB, 256, .inl (upd (fun _ => 0) 0 120))), (rw, .inl (cI, 224, .inl (upd (upd (upd (upd (upd (upd (upd (fun _ => 0) 0 0) 1 1) 2 (-1)) 3 120) 4 (-1)) 5 (-1)) 6 0))), (bu, .inl (cI, 128, .inl (upd (zfill (fun _ => 0) 128 (-1)) 120 0))), (a, .inl (cB, 2, .inl (upd (upd (fun _ => 0) 0 120) 1 77)))] := hD
  subst hw
  refine W.widen (k := 0) (n := 0) (by omega) (by omega) ?_
  refine zz_iald (v := (-1)) hx hb hK hP 3 0 rfl rfl (i := 77) 77 (⟨by decide +kernel, by decide +kernel, by decide +kernel⟩) (by first | rfl | decide +kernel | simp [upd]) d_Names_lookUp_10 ?_
  refine lv_istore (lv' := [(4, .int (-1)), (0, .ref h0), (1, .ref a), (2, .int 1), (3, .int 2)]) hx hb d_Names_lookUp_11 hl (by decide) rfl (fun ls hl => ?_)
  refine lv_iload hx hb d_Names_lookUp_13 (lv_at hl 0 rfl) ?_
  refine lv_iconst (v := (-1)) hx hb d_Names_lookUp_15 (by decide) ?_
  have hc_1 : ((-1) : Int32) = (-1) := by decide +kernel
  refine lv_icmp_eq hx hb d_Names_lookUp_16 rfl (fun _ => ?_) (fun h => absurd hc_1 h)
  refine lv_iconst (v := (-1)) hx hb d_Names_lookUp_51 (by decide) ?_
  have hP9 := hP.sub (ws' := [(h0, .inr (2, [.ref lt, .int 1, .ref rw, .ref bu, .int 1, .int 0])), (lt, .inl (cB, 256, .inl (upd (fun _ => 0) 0 120))), (rw, .inl (cI, 224, .inl (upd (upd (upd (upd (upd (upd (upd (fun _ => 0) 0 0) 1 1) 2 (-1)) 3 120) 4 (-1)) 5 (-1)) 6 0))), (bu, .inl (cI, 128, .inl (upd (zfill (fun _ => 0) 128 (-1)) 120 0))), (a, .inl (cB, 2, .inl (upd (upd (fun _ => 0) 0 120) 1 77)))]) [0, 1, 2, 3, 4] rfl
  have hD9 := hD.sub (ws' := [(h0, .inr (2, [.ref lt, .int 1, .ref rw, .ref bu, .int 1, .int 0])), (lt, .inl (cB, 256, .inl (upd (fun _ => 0) 0 120))), (rw, .inl (cI, 224, .inl (upd (upd (upd (upd (upd (upd (upd (fun _ => 0) 0 0) 1 1) 2 (-1)) 3 120) 4 (-1)) 5 (-1)) 6 0))), (bu, .inl (cI, 128, .inl (upd (zfill (fun _ => 0) 128 (-1)) 120 0))), (a, .inl (cB, 2, .inl (upd (upd (fun _ => 0) 0 120) 1 77)))]) [0, 1, 2, 3, 4] (by decide +kernel) rfl
  refine W.widen (k := 0) (n := 0) (by omega) (by omega) ?_
  exact W.iret (v := (-1)) hx hb hr (fun t ht hW => ⟨⟨(-1), (), rfl, rfl, by rw [ht]; exact hP9, hD9⟩, hS.F ht⟩) hS.2.2 d_Names_lookUp_52
set_option maxHeartbeats 4000000 in
set_option maxRecDepth 100000 in
theorem c_Names_add1 (l : Launch) (D : va_G) (cI cB cZ cS : ClassId) (sz : Nat) (h0 : Nat) (lt : Nat) (rw : Nat) (bu : Nat) (a : Nat) : Met l y_Names_add (zc y_Names_add b_Names_add 7 (some .int)) ({ frames := 1, cells := 0, slots := 0, locals := 40 }) (zPc D (zty cI cB cZ cS) [(h0, .inr (2, [.ref lt, .int 1, .ref rw, .ref bu, .int 1, .int 0])), (lt, .inl (cB, 256, .inl (upd (fun _ => 0) 0 120))), (rw, .inl (cI, 224, .inl (upd (upd (upd (upd (upd (upd (upd (fun _ => 0) 0 0) 1 1) 2 (-1)) 3 120) 4 (-1)) 5 (-1)) 6 0))), (bu, .inl (cI, 128, .inl (upd (zfill (fun _ => 0) 128 (-1)) 120 0))), (a, .inl (cB, 2, .inl (upd (upd (fun _ => 0) 0 120) 1 77)))] sz [.ref h0, .ref a, .int 1, .int 2]) (va_Qi (fun (r : Int32) (_ : Unit) => r = 1) (fun _ t => va_P D zcl [(h0, .inr (2, [.ref lt, .int 2, .ref rw, .ref bu, .int 2, .int 0])), (lt, .inl (cB, 256, .inl (upd (upd (fun _ => 0) 0 120) 1 77))), (rw, .inl (cI, 224, .inl (upd (upd (upd (upd (upd (upd (upd (upd (upd (upd (upd (upd (upd (upd (fun _ => 0) 0 0) 1 1) 2 (-1)) 3 120) 4 (-1)) 5 (-1)) 6 0) 7 1) 8 1) 9 (-1)) 10 77) 11 (-1)) 12 (-1)) 13 0))), (bu, .inl (cI, 128, .inl (upd (upd (zfill (fun _ => 0) 128 (-1)) 120 0) 77 1))), (a, .inl (cB, 2, .inl (upd (upd (fun _ => 0) 0 120) 1 77)))] t.heap ∧ va_D (va_A [(h0, .inr (2, [.ref lt, .int 1, .ref rw, .ref bu, .int 1, .int 0])), (lt, .inl (cB, 256, .inl (upd (fun _ => 0) 0 120))), (rw, .inl (cI, 224, .inl (upd (upd (upd (upd (upd (upd (upd (fun _ => 0) 0 0) 1 1) 2 (-1)) 3 120) 4 (-1)) 5 (-1)) 6 0))), (bu, .inl (cI, 128, .inl (upd (zfill (fun _ => 0) 128 (-1)) 120 0))), (a, .inl (cB, 2, .inl (upd (upd (fun _ => 0) 0 120) 1 77)))] sz) [(h0, .inr (2, [.ref lt, .int 2, .ref rw, .ref bu, .int 2, .int 0])), (lt, .inl (cB, 256, .inl (upd (upd (fun _ => 0) 0 120) 1 77))), (rw, .inl (cI, 224, .inl (upd (upd (upd (upd (upd (upd (upd (upd (upd (upd (upd (upd (upd (upd (fun _ => 0) 0 0) 1 1) 2 (-1)) 3 120) 4 (-1)) 5 (-1)) 6 0) 7 1) 8 1) 9 (-1)) 10 77) 11 (-1)) 12 (-1)) 13 0))), (bu, .inl (cI, 128, .inl (upd (upd (zfill (fun _ => 0) 128 (-1)) 120 0) 77 1))), (a, .inl (cB, 2, .inl (upd (upd (fun _ => 0) 0 120) 1 77)))]) (va_A [(h0, .inr (2, [.ref lt, .int 1, .ref rw, .ref bu, .int 1, .int 0])), (lt, .inl (cB, 256, .inl (upd (fun _ => 0) 0 120))), (rw, .inl (cI, 224, .inl (upd (upd (upd (upd (upd (upd (upd (fun _ => 0) 0 0) 1 1) 2 (-1)) 3 120) 4 (-1)) 5 (-1)) 6 0))), (bu, .inl (cI, 128, .inl (upd (zfill (fun _ => 0) 128 (-1)) 120 0))), (a, .inl (cB, 2, .inl (upd (upd (fun _ => 0) 0 120) 1 77)))] sz)) 0 0 (va_A [(h0, .inr (2, [.ref lt, .int 1, .ref rw, .ref bu, .int 1, .int 0])), (lt, .inl (cB, 256, .inl (upd (fun _ => 0) 0 120))), (rw, .inl (cI, 224, .inl (upd (upd (upd (upd (upd (upd (upd (fun _ => 0) 0 0) 1 1) 2 (-1)) 3 120) 4 (-1)) 5 (-1)) 6 0))), (bu, .inl (cI, 128, .inl (upd (zfill (fun _ => 0) 128 (-1)) 120 0))), (a, .inl (cB, 2, .inl (upd (upd (fun _ => 0) 0 120) 1 77)))] sz) := by
  refine Met.ofW (cc := b_Names_add) (maxL := 7) (ret := (some .int)) (by decide) rfl ?_
  intro p e s m args below meth c s₁ B hml hv
  obtain ⟨rfl, hsz, hP, ⟨hK, hN⟩, hD0⟩ := hv
  have hx := B.exec
  have hb := B.bytes
  have hr := B.returns
  have hts0 := atoms_spec (ws := zc y_Names_add b_Names_add 7 (some .int)) B.pre
  have hts : ∀ w ∈ zw, w.before _ s = true := fun w hw => hts0 w (List.mem_cons_of_mem _ hw)
  have hown : s.vm.findClass "ProofDesk$Names" = some m.cls := findClass_of_methodNamed B.named
  have hlocks := B.notSynchronized
  subst hsz
  have hD := hD0.self (sz := s.heap.size)
  generalize hAe : va_A [(h0, .inr (2, [.ref lt, .int 1, .ref rw, .ref bu, .int 1, .int 0])), (lt, .inl (cB, 256, .inl (upd (fun _ => 0) 0 120))), (rw, .inl (cI, 224, .inl (upd (upd (upd (upd (upd (upd (upd (fun _ => 0) 0 0) 1 1) 2 (-1)) 3 120) 4 (-1)) 5 (-1)) 6 0))), (bu, .inl (cI, 128, .inl (upd (zfill (fun _ => 0) 128 (-1)) 120 0))), (a, .inl (cB, 2, .inl (upd (upd (fun _ => 0) 0 120) 1 77)))] s.heap.size = A at hD ⊢
  have hA : ∀ q : Nat, s.heap.size ≤ q → A q := fun q h => by rw [← hAe]; exact Or.inr h
  have hS : va_S A s.heap s.heap [] := va_S.rf
  have hP : va_P D zcl [(h0, .inr (2, [.ref lt, .int 1, .ref rw, .ref bu, .int 1, .int 0])), (lt, .inl (cB, 256, .inl (upd (fun _ => 0) 0 120))), (rw, .inl (cI, 224, .inl (upd (upd (upd (upd (upd (upd (upd (fun _ => 0) 0 0) 1 1) 2 (-1)) 3 120) 4 (-1)) 5 (-1)) 6 0))), (bu, .inl (cI, 128, .inl (upd (zfill (fun _ => 0) 128 (-1)) 120 0))), (a, .inl (cB, 2, .inl (upd (upd (fun _ => 0) 0 120) 1 77)))] s.heap := hP
  have hl := lv_entry ([.ref h0, .ref a, .int 1, .int 2]) (n := 7) (Nat.le_of_ble_eq_true rfl)
  rw [lg_entry_eq]
  generalize (lg_sl ([.ref h0, .ref a, .int 1, .int 2]) ++ List.replicate (7 - (lg_sl ([.ref h0, .ref a, .int 1, .int 2])).length) Slot.unset).toArray = ls at hl ⊢
  have hl : lv_has ls 7 [(0, .ref h0), (1, .ref a), (2, .int 1), (3, .int 2)] := hl
  refine lv_iload_n hx hb d_Names_add_0 rfl (lv_at hl 3 rfl) ?_
  refine lv_iload_n hx hb d_Names_add_1 rfl (lv_at hl 2 rfl) ?_
  refine lv_isub hx hb d_Names_add_2 ?_
  refine zz_i (y := 1) (by decide +kernel) ?_
  refine lv_istore (lv' := [(4, .int 1), (0, .ref h0), (1, .ref a), (2, .int 1), (3, .int 2)]) hx hb d_Names_add_3 hl (by decide) rfl (fun ls hl => ?_)
  refine lv_aload_n hx hb d_Names_add_5 rfl (lv_at hl 1 rfl) ?_
  refine va_get (D := D) (ci := 2) (v := .int 1) (C := "ProofDesk$Names") (T := F_Names) (N := 6) hx hb hts in_Names hown hK hP 0 rfl rfl 1 (by decide) (hts _ kw_144) (fun _ h9 => h9) rfl d_Names_add_6 ?_
  refine lv_iload hx hb d_Names_add_9 (lv_at hl 0 rfl) ?_
  refine lv_iadd hx hb d_Names_add_11 ?_
  refine zz_i (y := 2) (by decide +kernel) ?_
  refine lv_aload_n hx hb d_Names_add_12 rfl (lv_at hl 1 rfl) ?_
  refine va_get (D := D) (ci := 2) (v := .ref lt) (C := "ProofDesk$Names") (T := F_Names) (N := 6) hx hb hts in_Names hown hK hP 0 rfl rfl 0 (by decide) (hts _ kw_143) (fun _ h9 => h9) rfl d_Names_add_13 ?_
  refine va_alen (v := 256) hx hb hK hP 1 1 rfl rfl (by decide +kernel) d_Names_add_16 ?_
  have hc_1 : (2 : Int32) ≤ 256 := by decide +kernel
  refine lv_icmp_le hx hb d_Names_add_17 rfl (fun _ => ?_) (fun h => absurd hc_1 h)
  refine lv_bipush (v := 7) hx hb d_Names_add_38 (by decide) ?_
  refine lv_aload_n hx hb d_Names_add_40 rfl (lv_at hl 1 rfl) ?_
  refine va_get (D := D) (ci := 2) (v := .int 1) (C := "ProofDesk$Names") (T := F_Names) (N := 6) hx hb hts in_Names hown hK hP 0 rfl rfl 4 (by decide) (hts _ kw_148) (fun _ h9 => h9) rfl d_Names_add_41 ?_
  refine lv_iconst (v := 1) hx hb d_Names_add_44 (by decide) ?_
  refine lv_iadd hx hb d_Names_add_45 ?_
  refine zz_i (y := 2) (by decide +kernel) ?_
  refine lv_imul hx hb d_Names_add_46 ?_
  refine zz_i (y := 14) (by decide +kernel) ?_
  refine lv_aload_n hx hb d_Names_add_47 rfl (lv_at hl 1 rfl) ?_
  refine va_get (D := D) (ci := 2) (v := .ref rw) (C := "ProofDesk$Names") (T := F_Names) (N := 6) hx hb hts in_Names hown hK hP 0 rfl rfl 2 (by decide) (hts _ kw_145) (fun _ h9 => h9) rfl d_Names_add_48 ?_
  refine va_alen (v := 224) hx hb hK hP 2 0 rfl rfl (by decide +kernel) d_Names_add_51 ?_
  have hc_2 : (14 : Int32) ≤ 224 := by decide +kernel
  refine lv_icmp_le hx hb d_Names_add_52 rfl (fun _ => ?_) (fun h => absurd hc_2 h)
  refine lv_aload_n hx hb d_Names_add_73 rfl (lv_at hl 2 rfl) ?_
  refine lv_iload_n hx hb d_Names_add_74 rfl (lv_at hl 3 rfl) ?_
  refine lv_aload_n hx hb d_Names_add_75 rfl (lv_at hl 1 rfl) ?_
  refine va_get (D := D) (ci := 2) (v := .ref lt) (C := "ProofDesk$Names") (T := F_Names) (N := 6) hx hb hts in_Names hown hK hP 0 rfl rfl 0 (by decide) (hts _ kw_143) (fun _ h9 => h9) rfl d_Names_add_76 ?_
  refine lv_aload_n hx hb d_Names_add_79 rfl (lv_at hl 1 rfl) ?_
  refine va_get (D := D) (ci := 2) (v := .int 1) (C := "ProofDesk$Names") (T := F_Names) (N := 6) hx hb hts in_Names hown hK hP 0 rfl rfl 1 (by decide) (hts _ kw_144) (fun _ h9 => h9) rfl d_Names_add_80 ?_
  refine lv_iload hx hb d_Names_add_83 (lv_at hl 0 rfl) ?_
  refine va_copyi (ty := .byte) (sp := 1) (dp := 1) (n := 1) hx hb (hml.trans hl.1.symm) hown (hts _ kw_142) (hts _ kw_133) (hts _ kw_132) (hts _ kw_7) hK hP hD hS 4 1 1 1 rfl rfl rfl rfl rfl (by decide) (by decide) (by decide) (by decide +kernel) (by decide +kernel) (fun i hi => ?_) (Nat.le_of_ble_eq_true rfl) (Nat.le_of_ble_eq_true rfl) d_Names_add_85 (fun H locs hP hD hS => ?_)
  · obtain rfl : i = 0 := by have h9 : i < 1 := hi; omega
    decide +kernel
  have hcp : va_cpy (upd (upd (fun _ => 0) 0 120) 1 77) (upd (fun _ => 0) 0 120) (1 : Int32).toNatClampNeg (1 : Int32).toNatClampNeg (1 : Int32).toNatClampNeg = upd (upd (fun _ => 0) 0 120) 1 77 := by
    simp only [show (0 : Int32).toNatClampNeg = 0 from by decide +kernel, show (1 : Int32).toNatClampNeg = 1 from by decide +kernel, zcpy1]
    rfl
  have hP : va_P D zcl [(h0, .inr (2, [.ref lt, .int 1, .ref rw, .ref bu, .int 1, .int 0])), (lt, .inl (cB, 256, .inl (va_cpy (upd (upd (fun _ => 0) 0 120) 1 77) (upd (fun _ => 0) 0 120) (1 : Int32).toNatClampNeg (1 : Int32).toNatClampNeg (1 : Int32).toNatClampNeg))), (rw, .inl (cI, 224, .inl (upd (upd (upd (upd (upd (upd (upd (fun _ => 0) 0 0) 1 1) 2 (-1)) 3 120) 4 (-1)) 5 (-1)) 6 0))), (bu, .inl (cI, 128, .inl (upd (zfill (fun _ => 0) 128 (-1)) 120 0))), (a, .inl (cB, 2, .inl (upd (upd (fun _ => 0) 0 120) 1 77)))] H := hP
  have hD : va_D A [(h0, .inr (2, [.ref lt, .int 1, .ref rw, .ref bu, .int 1, .int 0])), (lt, .inl (cB, 256, .inl (va_cpy (upd (upd (fun _ => 0) 0 120) 1 77) (upd (fun _ => 0) 0 120) (1 : Int32).toNatClampNeg (1 : Int32).toNatClampNeg (1 : Int32).toNatClampNeg))), (rw, .inl (cI, 224, .inl (upd (upd (upd (upd (upd (upd (upd (fun _ => 0) 0 0) 1 1) 2 (-1)) 3 120) 4 (-1)) 5 (-1)) 6 0))), (bu, .inl (cI, 128, .inl (upd (zfill (fun _ => 0) 128 (-1)) 120 0))), (a, .inl (cB, 2, .inl (upd (upd (fun _ => 0) 0 120) 1 77)))] := hD
  rw [hcp] at hP hD
  have hP : va_P D zcl [(h0, .inr (2, [.ref lt, .int 1, .ref rw, .ref bu, .int 1, .int 0])), (lt, .inl (cB, 256, .inl (upd (upd (fun _ => 0) 0 120) 1 77))), (rw, .inl (cI, 224, .inl (upd (upd (upd (upd (upd (upd (upd (fun _ => 0) 0 0) 1 1) 2 (-1)) 3 120) 4 (-1)) 5 (-1)) 6 0))), (bu, .inl (cI, 128, .inl (upd (zfill (fun _ => 0) 128 (-1)) 120 0))), (a, .inl (cB, 2, .inl (upd (upd (fun _ => 0) 0 120) 1 77)))] H := hP
  have hD : va_D A [(h0, .inr (2, [.ref lt, .int 1, .ref rw, .ref bu, .int 1, .int 0])), (lt, .inl (cB, 256, .inl (upd (upd (fun _ => 0) 0 120) 1 77))), (rw, .inl (cI, 224, .inl (upd (upd (upd (upd (upd (upd (upd (fun _ => 0) 0 0) 1 1) 2 (-1)) 3 120) 4 (-1)) 5 (-1)) 6 0))), (bu, .inl (cI, 128, .inl (upd (zfill (fun _ => 0) 128 (-1)) 120 0))), (a, .inl (cB, 2, .inl (upd (upd (fun _ => 0) 0 120) 1 77)))] := hD
  refine lv_aload_n hx hb d_Names_add_88 rfl (lv_at hl 2 rfl) ?_
  refine lv_iload_n hx hb d_Names_add_89 rfl (lv_at hl 3 rfl) ?_
  refine lv_iload_n hx hb d_Names_add_90 rfl (lv_at hl 4 rfl) ?_
  have hPc := hP.sub (ws' := [(a, .inl (cB, 2, .inl (upd (upd (fun _ => 0) 0 120) 1 77)))]) [4] rfl
  have hDc := hD.sub (ws' := [(a, .inl (cB, 2, .inl (upd (upd (fun _ => 0) 0 120) 1 77)))]) [4] (by decide +kernel) rfl
  have hFc := va_free (wc := [(a, .inl (cB, 2, .inl (upd (upd (fun _ => 0) 0 120) 1 77)))]) hD hS hA [4] rfl
  have hkc : 0 + 0 ≤ 0 := by omega
  have hks : 0 + 0 ≤ 0 := by omega
  refine va_calli (va_runS (As := [.ref a, .int 1, .int 2]) (rest := []) ⟨hx, hb, hml, hown, hts⟩ (c_Names_bucketOf1 l D cI cB cZ cS H.size a) (⟨callB_of 3 hts (zgood kw_105) rfl rfl rfl (hts _ kw_4) (hts _ kw_103) (by decide +kernel) ⟨Nat.le_of_ble_eq_true rfl, Nat.le_of_ble_eq_true rfl⟩, hts _ kw_104⟩) (zPreS hPc hK hN hDc) rfl rfl hl.1 rfl (lv_room (Nat.le_of_ble_eq_true rfl)) d_Names_add_91 ⟨hkc, hks⟩) hS (fun q _ h => hFc q h) hFc (fun r u t H1 locs ht hvm hw hB hz1 hk1 hS => ?_)
  obtain ⟨hP1, hD1⟩ := hB
  rw [ht] at hP1
  obtain ⟨hP, hD⟩ := va_join (wr := [(h0, .inr (2, [.ref lt, .int 1, .ref rw, .ref bu, .int 1, .int 0])), (lt, .inl (cB, 256, .inl (upd (upd (fun _ => 0) 0 120) 1 77))), (rw, .inl (cI, 224, .inl (upd (upd (upd (upd (upd (upd (upd (fun _ => 0) 0 0) 1 1) 2 (-1)) 3 120) 4 (-1)) 5 (-1)) 6 0))), (bu, .inl (cI, 128, .inl (upd (zfill (fun _ => 0) 128 (-1)) 120 0)))]) (w1 := [(a, .inl (cB, 2, .inl (upd (upd (fun _ => 0) 0 120) 1 77)))]) hP hD [4] [0, 1, 2, 3] rfl rfl (by decide +kernel) (by decide +kernel) hk1 hFc hP1 hD1
  generalize H1 = H at hP hS ⊢
  have hP : va_P D zcl [(h0, .inr (2, [.ref lt, .int 1, .ref rw, .ref bu, .int 1, .int 0])), (lt, .inl (cB, 256, .inl (upd (upd (fun _ => 0) 0 120) 1 77))), (rw, .inl (cI, 224, .inl (upd (upd (upd (upd (upd (upd (upd (fun _ => 0) 0 0) 1 1) 2 (-1)) 3 120) 4 (-1)) 5 (-1)) 6 0))), (bu, .inl (cI, 128, .inl (upd (zfill (fun _ => 0) 128 (-1)) 120 0))), (a, .inl (cB, 2, .inl (upd (upd (fun _ => 0) 0 120) 1 77)))] H := hP
  have hD : va_D A [(h0, .inr (2, [.ref lt, .int 1, .ref rw, .ref bu, .int 1, .int 0])), (lt, .inl (cB, 256, .inl (upd (upd (fun _ => 0) 0 120) 1 77))), (rw, .inl (cI, 224, .inl (upd (upd (upd (upd (upd (upd (upd (fun _ => 0) 0 0) 1 1) 2 (-1)) 3 120) 4 (-1)) 5 (-1)) 6 0))), (bu, .inl (cI, 128, .inl (upd (zfill (fun _ => 0) 128 (-1)) 120 0))), (a, .inl (cB, 2, .inl (upd (upd (fun _ => 0) 0 120) 1 77)))] := hD
  subst hw
  refine W.widen (k := 0) (n := 0) (by omega) (by omega) ?_
  refine lv_istore (lv' := [(5, .int 77), (4, .int 1), (0, .ref h0), (1, .ref a), (2, .int 1), (3, .int 2)]) hx hb d_Names_add_94 hl (by decide) rfl (fun ls hl => ?_)
  refine lv_bipush (v := 7) hx hb d_Names_add_96 (by decide) ?_
  refine lv_aload_n hx hb d_Names_add_98 rfl (lv_at hl 2 rfl) ?_
  refine va_get (D := D) (ci := 2) (v := .int 1) (C := "ProofDesk$Names") (T := F_Names) (N := 6) hx hb hts in_Names hown hK hP 0 rfl rfl 4 (by decide) (hts _ kw_148) (fun _ h9 => h9) rfl d_Names_add_99 ?_
  refine lv_imul hx hb d_Names_add_102 ?_
  refine zz_i (y := 7) (by decide +kernel) ?_
  refine lv_istore (lv' := [(6, .int 7), (5, .int 77), (4, .int 1), (0, .ref h0), (1, .ref a), (2, .int 1), (3, .int 2)]) hx hb d_Names_add_103 hl (by decide) rfl (fun ls hl => ?_)
  refine lv_aload_n hx hb d_Names_add_105 rfl (lv_at hl 3 rfl) ?_
  refine va_get (D := D) (ci := 2) (v := .ref rw) (C := "ProofDesk$Names") (T := F_Names) (N := 6) hx hb hts in_Names hown hK hP 0 rfl rfl 2 (by decide) (hts _ kw_145) (fun _ h9 => h9) rfl d_Names_add_106 ?_
  refine lv_iload hx hb d_Names_add_109 (lv_at hl 0 rfl) ?_
  refine lv_iconst (v := 0) hx hb d_Names_add_111 (by decide) ?_
  refine lv_iadd hx hb d_Names_add_112 ?_
  refine zz_i (y := 7) (by decide +kernel) ?_
  refine lv_aload_n hx hb d_Names_add_113 rfl (lv_at hl 3 rfl) ?_
  refine va_get (D := D) (ci := 2) (v := .int 1) (C := "ProofDesk$Names") (T := F_Names) (N := 6) hx hb hts in_Names hown hK hP 0 rfl rfl 1 (by decide) (hts _ kw_144) (fun _ h9 => h9) rfl d_Names_add_114 ?_
  refine zz_iast hx hb hK hP hD hS 2 0 rfl rfl (i := 7) (x := 1) 7 (⟨by decide +kernel, by decide +kernel, by decide +kernel⟩) d_Names_add_117 (fun H locs hP hD hS => ?_)
  have hP : va_P D zcl [(h0, .inr (2, [.ref lt, .int 1, .ref rw, .ref bu, .int 1, .int 0])), (lt, .inl (cB, 256, .inl (upd (upd (fun _ => 0) 0 120) 1 77))), (rw, .inl (cI, 224, .inl (upd (upd (upd (upd (upd (upd (upd (upd (fun _ => 0) 0 0) 1 1) 2 (-1)) 3 120) 4 (-1)) 5 (-1)) 6 0) 7 1))), (bu, .inl (cI, 128, .inl (upd (zfill (fun _ => 0) 128 (-1)) 120 0))), (a, .inl (cB, 2, .inl (upd (upd (fun _ => 0) 0 120) 1 77)))] H := hP
  have hD : va_D A [(h0, .inr (2, [.ref lt, .int 1, .ref rw, .ref bu, .int 1, .int 0])), (lt, .inl (cB, 256, .inl (upd (upd (fun _ => 0) 0 120) 1 77))), (rw, .inl (cI, 224, .inl (upd (upd (upd (upd (upd (upd (upd (upd (fun _ => 0) 0 0) 1 1) 2 (-1)) 3 120) 4 (-1)) 5 (-1)) 6 0) 7 1))), (bu, .inl (cI, 128, .inl (upd (zfill (fun _ => 0) 128 (-1)) 120 0))), (a, .inl (cB, 2, .inl (upd (upd (fun _ => 0) 0 120) 1 77)))] := hD
  refine lv_aload_n hx hb d_Names_add_118 rfl (lv_at hl 3 rfl) ?_
  refine va_get (D := D) (ci := 2) (v := .ref rw) (C := "ProofDesk$Names") (T := F_Names) (N := 6) hx hb hts in_Names hown hK hP 0 rfl rfl 2 (by decide) (hts _ kw_145) (fun _ h9 => h9) rfl d_Names_add_119 ?_
  refine lv_iload hx hb d_Names_add_122 (lv_at hl 0 rfl) ?_
  refine lv_iconst (v := 1) hx hb d_Names_add_124 (by decide) ?_
  refine lv_iadd hx hb d_Names_add_125 ?_
  refine zz_i (y := 8) (by decide +kernel) ?_
  refine lv_iload hx hb d_Names_add_126 (lv_at hl 2 rfl) ?_
  refine zz_iast hx hb hK hP hD hS 2 0 rfl rfl (i := 8) (x := 1) 8 (⟨by decide +kernel, by decide +kernel, by decide +kernel⟩) d_Names_add_128 (fun H locs hP hD hS => ?_)
  have hP : va_P D zcl [(h0, .inr (2, [.ref lt, .int 1, .ref rw, .ref bu, .int 1, .int 0])), (lt, .inl (cB, 256, .inl (upd (upd (fun _ => 0) 0 120) 1 77))), (rw, .inl (cI, 224, .inl (upd (upd (upd (upd (upd (upd (upd (upd (upd (fun _ => 0) 0 0) 1 1) 2 (-1)) 3 120) 4 (-1)) 5 (-1)) 6 0) 7 1) 8 1))), (bu, .inl (cI, 128, .inl (upd (zfill (fun _ => 0) 128 (-1)) 120 0))), (a, .inl (cB, 2, .inl (upd (upd (fun _ => 0) 0 120) 1 77)))] H := hP
  have hD : va_D A [(h0, .inr (2, [.ref lt, .int 1, .ref rw, .ref bu, .int 1, .int 0])), (lt, .inl (cB, 256, .inl (upd (upd (fun _ => 0) 0 120) 1 77))), (rw, .inl (cI, 224, .inl (upd (upd (upd (upd (upd (upd (upd (upd (upd (fun _ => 0) 0 0) 1 1) 2 (-1)) 3 120) 4 (-1)) 5 (-1)) 6 0) 7 1) 8 1))), (bu, .inl (cI, 128, .inl (upd (zfill (fun _ => 0) 128 (-1)) 120 0))), (a, .inl (cB, 2, .inl (upd (upd (fun _ => 0) 0 120) 1 77)))] := hD
  refine lv_aload_n hx hb d_Names_add_129 rfl (lv_at hl 3 rfl) ?_
  refine va_get (D := D) (ci := 2) (v := .ref rw) (C := "ProofDesk$Names") (T := F_Names) (N := 6) hx hb hts in_Names hown hK hP 0 rfl rfl 2 (by decide) (hts _ kw_145) (fun _ h9 => h9) rfl d_Names_add_130 ?_
  refine lv_iload hx hb d_Names_add_133 (lv_at hl 0 rfl) ?_
  refine lv_iconst (v := 2) hx hb d_Names_add_135 (by decide) ?_
  refine lv_iadd hx hb d_Names_add_136 ?_
  refine zz_i (y := 9) (by decide +kernel) ?_
  refine lv_aload_n hx hb d_Names_add_137 rfl (lv_at hl 3 rfl) ?_
  refine va_get (D := D) (ci := 2) (v := .ref bu) (C := "ProofDesk$Names") (T := F_Names) (N := 6) hx hb hts in_Names hown hK hP 0 rfl rfl 3 (by decide) (hts _ kw_146) (fun _ h9 => h9) rfl d_Names_add_138 ?_
  refine lv_iload hx hb d_Names_add_141 (lv_at hl 1 rfl) ?_
  refine zz_iald (v := (-1)) hx hb hK hP 3 0 rfl rfl (i := 77) 77 (⟨by decide +kernel, by decide +kernel, by decide +kernel⟩) (by first | rfl | decide +kernel | simp [upd]) d_Names_add_143 ?_
  refine zz_iast hx hb hK hP hD hS 2 0 rfl rfl (i := 9) (x := (-1)) 9 (⟨by decide +kernel, by decide +kernel, by decide +kernel⟩) d_Names_add_144 (fun H locs hP hD hS => ?_)
  have hP : va_P D zcl [(h0, .inr (2, [.ref lt, .int 1, .ref rw, .ref bu, .int 1, .int 0])), (lt, .inl (cB, 256, .inl (upd (upd (fun _ => 0) 0 120) 1 77))), (rw, .inl (cI, 224, .inl (upd (upd (upd (upd (upd (upd (upd (upd (upd (upd (fun _ => 0) 0 0) 1 1) 2 (-1)) 3 120) 4 (-1)) 5 (-1)) 6 0) 7 1) 8 1) 9 (-1)))), (bu, .inl (cI, 128, .inl (upd (zfill (fun _ => 0) 128 (-1)) 120 0))), (a, .inl (cB, 2, .inl (upd (upd (fun _ => 0) 0 120) 1 77)))] H := hP
  have hD : va_D A [(h0, .inr (2, [.ref lt, .int 1, .ref rw, .ref bu, .int 1, .int 0])), (lt, .inl (cB, 256, .inl (upd (upd (fun _ => 0) 0 120) 1 77))), (rw, .inl (cI, 224, .inl (upd (upd (upd (upd (upd (upd (upd (upd (upd (upd (fun _ => 0) 0 0) 1 1) 2 (-1)) 3 120) 4 (-1)) 5 (-1)) 6 0) 7 1) 8 1) 9 (-1)))), (bu, .inl (cI, 128, .inl (upd (zfill (fun _ => 0) 128 (-1)) 120 0))), (a, .inl (cB, 2, .inl (upd (upd (fun _ => 0) 0 120) 1 77)))] := hD
  refine lv_aload_n hx hb d_Names_add_145 rfl (lv_at hl 3 rfl) ?_
  refine va_get (D := D) (ci := 2) (v := .ref rw) (C := "ProofDesk$Names") (T := F_Names) (N := 6) hx hb hts in_Names hown hK hP 0 rfl rfl 2 (by decide) (hts _ kw_145) (fun _ h9 => h9) rfl d_Names_add_146 ?_
  refine lv_iload hx hb d_Names_add_149 (lv_at hl 0 rfl) ?_
  refine lv_iconst (v := 3) hx hb d_Names_add_151 (by decide) ?_
  refine lv_iadd hx hb d_Names_add_152 ?_
  refine zz_i (y := 10) (by decide +kernel) ?_
  refine lv_iload hx hb d_Names_add_153 (lv_at hl 1 rfl) ?_
  refine zz_iast hx hb hK hP hD hS 2 0 rfl rfl (i := 10) (x := 77) 10 (⟨by decide +kernel, by decide +kernel, by decide +kernel⟩) d_Names_add_155 (fun H locs hP hD hS => ?_)
  have hP : va_P D zcl [(h0, .inr (2, [.ref lt, .int 1, .ref rw, .ref bu, .int 1, .int 0])), (lt, .inl (cB, 256, .inl (upd (upd (fun _ => 0) 0 120) 1 77))), (rw, .inl (cI, 224, .inl (upd (upd (upd (upd (upd (upd (upd (upd (upd (upd (upd (fun _ => 0) 0 0) 1 1) 2 (-1)) 3 120) 4 (-1)) 5 (-1)) 6 0) 7 1) 8 1) 9 (-1)) 10 77))), (bu, .inl (cI, 128, .inl (upd (zfill (fun _ => 0) 128 (-1)) 120 0))), (a, .inl (cB, 2, .inl (upd (upd (fun _ => 0) 0 120) 1 77)))] H := hP
  have hD : va_D A [(h0, .inr (2, [.ref lt, .int 1, .ref rw, .ref bu, .int 1, .int 0])), (lt, .inl (cB, 256, .inl (upd (upd (fun _ => 0) 0 120) 1 77))), (rw, .inl (cI, 224, .inl (upd (upd (upd (upd (upd (upd (upd (upd (upd (upd (upd (fun _ => 0) 0 0) 1 1) 2 (-1)) 3 120) 4 (-1)) 5 (-1)) 6 0) 7 1) 8 1) 9 (-1)) 10 77))), (bu, .inl (cI, 128, .inl (upd (zfill (fun _ => 0) 128 (-1)) 120 0))), (a, .inl (cB, 2, .inl (upd (upd (fun _ => 0) 0 120) 1 77)))] := hD
  refine lv_aload_n hx hb d_Names_add_156 rfl (lv_at hl 3 rfl) ?_
  refine va_get (D := D) (ci := 2) (v := .ref rw) (C := "ProofDesk$Names") (T := F_Names) (N := 6) hx hb hts in_Names hown hK hP 0 rfl rfl 2 (by decide) (hts _ kw_145) (fun _ h9 => h9) rfl d_Names_add_157 ?_
  refine lv_iload hx hb d_Names_add_160 (lv_at hl 0 rfl) ?_
  refine lv_iconst (v := 4) hx hb d_Names_add_162 (by decide) ?_
  refine lv_iadd hx hb d_Names_add_163 ?_
  refine zz_i (y := 11) (by decide +kernel) ?_
  refine lv_iconst (v := (-1)) hx hb d_Names_add_164 (by decide) ?_
  refine zz_iast hx hb hK hP hD hS 2 0 rfl rfl (i := 11) (x := (-1)) 11 (⟨by decide +kernel, by decide +kernel, by decide +kernel⟩) d_Names_add_165 (fun H locs hP hD hS => ?_)
  have hP : va_P D zcl [(h0, .inr (2, [.ref lt, .int 1, .ref rw, .ref bu, .int 1, .int 0])), (lt, .inl (cB, 256, .inl (upd (upd (fun _ => 0) 0 120) 1 77))), (rw, .inl (cI, 224, .inl (upd (upd (upd (upd (upd (upd (upd (upd (upd (upd (upd (upd (fun _ => 0) 0 0) 1 1) 2 (-1)) 3 120) 4 (-1)) 5 (-1)) 6 0) 7 1) 8 1) 9 (-1)) 10 77) 11 (-1)))), (bu, .inl (cI, 128, .inl (upd (zfill (fun _ => 0) 128 (-1)) 120 0))), (a, .inl (cB, 2, .inl (upd (upd (fun _ => 0) 0 120) 1 77)))] H := hP
  have hD : va_D A [(h0, .inr (2, [.ref lt, .int 1, .ref rw, .ref bu, .int 1, .int 0])), (lt, .inl (cB, 256, .inl (upd (upd (fun _ => 0) 0 120) 1 77))), (rw, .inl (cI, 224, .inl (upd (upd (upd (upd (upd (upd (upd (upd (upd (upd (upd (upd (fun _ => 0) 0 0) 1 1) 2 (-1)) 3 120) 4 (-1)) 5 (-1)) 6 0) 7 1) 8 1) 9 (-1)) 10 77) 11 (-1)))), (bu, .inl (cI, 128, .inl (upd (zfill (fun _ => 0) 128 (-1)) 120 0))), (a, .inl (cB, 2, .inl (upd (upd (fun _ => 0) 0 120) 1 77)))] := hD
  refine lv_aload_n hx hb d_Names_add_166 rfl (lv_at hl 3 rfl) ?_
  refine va_get (D := D) (ci := 2) (v := .ref rw) (C := "ProofDesk$Names") (T := F_Names) (N := 6) hx hb hts in_Names hown hK hP 0 rfl rfl 2 (by decide) (hts _ kw_145) (fun _ h9 => h9) rfl d_Names_add_167 ?_
  refine lv_iload hx hb d_Names_add_170 (lv_at hl 0 rfl) ?_
  refine lv_iconst (v := 5) hx hb d_Names_add_172 (by decide) ?_
  refine lv_iadd hx hb d_Names_add_173 ?_
  refine zz_i (y := 12) (by decide +kernel) ?_
  refine lv_iconst (v := (-1)) hx hb d_Names_add_174 (by decide) ?_
  refine zz_iast hx hb hK hP hD hS 2 0 rfl rfl (i := 12) (x := (-1)) 12 (⟨by decide +kernel, by decide +kernel, by decide +kernel⟩) d_Names_add_175 (fun H locs hP hD hS => ?_)
  have hP : va_P D zcl [(h0, .inr (2, [.ref lt, .int 1, .ref rw, .ref bu, .int 1, .int 0])), (lt, .inl (cB, 256, .inl (upd (upd (fun _ => 0) 0 120) 1 77))), (rw, .inl (cI, 224, .inl (upd (upd (upd (upd (upd (upd (upd (upd (upd (upd (upd (upd (upd (fun _ => 0) 0 0) 1 1) 2 (-1)) 3 120) 4 (-1)) 5 (-1)) 6 0) 7 1) 8 1) 9 (-1)) 10 77) 11 (-1)) 12 (-1)))), (bu, .inl (cI, 128, .inl (upd (zfill (fun _ => 0) 128 (-1)) 120 0))), (a, .inl (cB, 2, .inl (upd (upd (fun _ => 0) 0 120) 1 77)))] H := hP
  have hD : va_D A [(h0, .inr (2, [.ref lt, .int 1, .ref rw, .ref bu, .int 1, .int 0])), (lt, .inl (cB, 256, .inl (upd (upd (fun _ => 0) 0 120) 1 77))), (rw, .inl (cI, 224, .inl (upd (upd (upd (upd (upd (upd (upd (upd (upd (upd (upd (upd (upd (fun _ => 0) 0 0) 1 1) 2 (-1)) 3 120) 4 (-1)) 5 (-1)) 6 0) 7 1) 8 1) 9 (-1)) 10 77) 11 (-1)) 12 (-1)))), (bu, .inl (cI, 128, .inl (upd (zfill (fun _ => 0) 128 (-1)) 120 0))), (a, .inl (cB, 2, .inl (upd (upd (fun _ => 0) 0 120) 1 77)))] := hD
  refine lv_aload_n hx hb d_Names_add_176 rfl (lv_at hl 3 rfl) ?_
  refine va_get (D := D) (ci := 2) (v := .ref rw) (C := "ProofDesk$Names") (T := F_Names) (N := 6) hx hb hts in_Names hown hK hP 0 rfl rfl 2 (by decide) (hts _ kw_145) (fun _ h9 => h9) rfl d_Names_add_177 ?_
  refine lv_iload hx hb d_Names_add_180 (lv_at hl 0 rfl) ?_
  refine lv_bipush (v := 6) hx hb d_Names_add_182 (by decide) ?_
  refine lv_iadd hx hb d_Names_add_184 ?_
  refine zz_i (y := 13) (by decide +kernel) ?_
  refine lv_iconst (v := 0) hx hb d_Names_add_185 (by decide) ?_
  refine zz_iast hx hb hK hP hD hS 2 0 rfl rfl (i := 13) (x := 0) 13 (⟨by decide +kernel, by decide +kernel, by decide +kernel⟩) d_Names_add_186 (fun H locs hP hD hS => ?_)
  have hP : va_P D zcl [(h0, .inr (2, [.ref lt, .int 1, .ref rw, .ref bu, .int 1, .int 0])), (lt, .inl (cB, 256, .inl (upd (upd (fun _ => 0) 0 120) 1 77))), (rw, .inl (cI, 224, .inl (upd (upd (upd (upd (upd (upd (upd (upd (upd (upd (upd (upd (upd (upd (fun _ => 0) 0 0) 1 1) 2 (-1)) 3 120) 4 (-1)) 5 (-1)) 6 0) 7 1) 8 1) 9 (-1)) 10 77) 11 (-1)) 12 (-1)) 13 0))), (bu, .inl (cI, 128, .inl (upd (zfill (fun _ => 0) 128 (-1)) 120 0))), (a, .inl (cB, 2, .inl (upd (upd (fun _ => 0) 0 120) 1 77)))] H := hP
  have hD : va_D A [(h0, .inr (2, [.ref lt, .int 1, .ref rw, .ref bu, .int 1, .int 0])), (lt, .inl (cB, 256, .inl (upd (upd (fun _ => 0) 0 120) 1 77))), (rw, .inl (cI, 224, .inl (upd (upd (upd (upd (upd (upd (upd (upd (upd (upd (upd (upd (upd (upd (fun _ => 0) 0 0) 1 1) 2 (-1)) 3 120) 4 (-1)) 5 (-1)) 6 0) 7 1) 8 1) 9 (-1)) 10 77) 11 (-1)) 12 (-1)) 13 0))), (bu, .inl (cI, 128, .inl (upd (zfill (fun _ => 0) 128 (-1)) 120 0))), (a, .inl (cB, 2, .inl (upd (upd (fun _ => 0) 0 120) 1 77)))] := hD
  refine lv_aload_n hx hb d_Names_add_187 rfl (lv_at hl 3 rfl) ?_
  refine va_get (D := D) (ci := 2) (v := .ref bu) (C := "ProofDesk$Names") (T := F_Names) (N := 6) hx hb hts in_Names hown hK hP 0 rfl rfl 3 (by decide) (hts _ kw_146) (fun _ h9 => h9) rfl d_Names_add_188 ?_
  refine lv_iload hx hb d_Names_add_191 (lv_at hl 1 rfl) ?_
  refine lv_aload_n hx hb d_Names_add_193 rfl (lv_at hl 3 rfl) ?_
  refine va_get (D := D) (ci := 2) (v := .int 1) (C := "ProofDesk$Names") (T := F_Names) (N := 6) hx hb hts in_Names hown hK hP 0 rfl rfl 4 (by decide) (hts _ kw_148) (fun _ h9 => h9) rfl d_Names_add_194 ?_
  refine zz_iast hx hb hK hP hD hS 3 0 rfl rfl (i := 77) (x := 1) 77 (⟨by decide +kernel, by decide +kernel, by decide +kernel⟩) d_Names_add_197 (fun H locs hP hD hS => ?_)
  have hP : va_P D zcl [(h0, .inr (2, [.ref lt, .int 1, .ref rw, .ref bu, .int 1, .int 0])), (lt, .inl (cB, 256, .inl (upd (upd (fun _ => 0) 0 120) 1 77))), (rw, .inl (cI, 224, .inl (upd (upd (upd (upd (upd (upd (upd (upd (upd (upd (upd (upd (upd (upd (fun _ => 0) 0 0) 1 1) 2 (-1)) 3 120) 4 (-1)) 5 (-1)) 6 0) 7 1) 8 1) 9 (-1)) 10 77) 11 (-1)) 12 (-1)) 13 0))), (bu, .inl (cI, 128, .inl (upd (upd (zfill (fun _ => 0) 128 (-1)) 120 0) 77 1))), (a, .inl (cB, 2, .inl (upd (upd (fun _ => 0) 0 120) 1 77)))] H := hP
  have hD : va_D A [(h0, .inr (2, [.ref lt, .int 1, .ref rw, .ref bu, .int 1, .int 0])), (lt, .inl (cB, 256, .inl (upd (upd (fun _ => 0) 0 120) 1 77))), (rw, .inl (cI, 224, .inl (upd (upd (upd (upd (upd (upd (upd (upd (upd (upd (upd (upd (upd (upd (fun _ => 0) 0 0) 1 1) 2 (-1)) 3 120) 4 (-1)) 5 (-1)) 6 0) 7 1) 8 1) 9 (-1)) 10 77) 11 (-1)) 12 (-1)) 13 0))), (bu, .inl (cI, 128, .inl (upd (upd (zfill (fun _ => 0) 128 (-1)) 120 0) 77 1))), (a, .inl (cB, 2, .inl (upd (upd (fun _ => 0) 0 120) 1 77)))] := hD
  refine lv_aload_n hx hb d_Names_add_198 rfl (lv_at hl 3 rfl) ?_
  refine lv_dup hx hb d_Names_add_199 rfl ?_
  refine va_get (D := D) (ci := 2) (v := .int 1) (C := "ProofDesk$Names") (T := F_Names) (N := 6) hx hb hts in_Names hown hK hP 0 rfl rfl 1 (by decide) (hts _ kw_144) (fun _ h9 => h9) rfl d_Names_add_200 ?_
  refine lv_iload hx hb d_Names_add_203 (lv_at hl 2 rfl) ?_
  refine lv_iadd hx hb d_Names_add_205 ?_
  refine zz_i (y := 2) (by decide +kernel) ?_
  refine va_put (D := D) (ci := 2) (v := .int 2) (ty := .int) (C := "ProofDesk$Names") (T := F_Names) (N := 6) hx hb hts in_Names t_Names t_Names_ok n_Names hown hK hP hD hS 0 rfl rfl 1 (by decide) (hts _ kw_144) (fun _ h9 => h9) rfl (by decide +kernel) rfl rfl (Nat.le_of_ble_eq_true rfl) d_Names_add_206 (fun H locs hP hD hS => ?_)
  have hP : va_P D zcl [(h0, .inr (2, [.ref lt, .int 2, .ref rw, .ref bu, .int 1, .int 0])), (lt, .inl (cB, 256, .inl (upd (upd (fun _ => 0) 0 120) 1 77))), (rw, .inl (cI, 224, .inl (upd (upd (upd (upd (upd (upd (upd (upd (upd (upd (upd (upd (upd (upd (fun _ => 0) 0 0) 1 1) 2 (-1)) 3 120) 4 (-1)) 5 (-1)) 6 0) 7 1) 8 1) 9 (-1)) 10 77) 11 (-1)) 12 (-1)) 13 0))), (bu, .inl (cI, 128, .inl (upd (upd (zfill (fun _ => 0) 128 (-1)) 120 0) 77 1))), (a, .inl (cB, 2, .inl (upd (upd (fun _ => 0) 0 120) 1 77)))] H := hP
  have hD : va_D A [(h0, .inr (2, [.ref lt, .int 2, .ref rw, .ref bu, .int 1, .int 0])), (lt, .inl (cB, 256, .inl (upd (upd (fun _ => 0) 0 120) 1 77))), (rw, .inl (cI, 224, .inl (upd (upd (upd (upd (upd (upd (upd (upd (upd (upd (upd (upd (upd (upd (fun _ => 0) 0 0) 1 1) 2 (-1)) 3 120) 4 (-1)) 5 (-1)) 6 0) 7 1) 8 1) 9 (-1)) 10 77) 11 (-1)) 12 (-1)) 13 0))), (bu, .inl (cI, 128, .inl (upd (upd (zfill (fun _ => 0) 128 (-1)) 120 0) 77 1))), (a, .inl (cB, 2, .inl (upd (upd (fun _ => 0) 0 120) 1 77)))] := hD
  refine lv_aload_n hx hb d_Names_add_209 rfl (lv_at hl 3 rfl) ?_
  refine lv_dup hx hb d_Names_add_210 rfl ?_
  refine va_get (D := D) (ci := 2) (v := .int 1) (C := "ProofDesk$Names") (T := F_Names) (N := 6) hx hb hts in_Names hown hK hP 0 rfl rfl 4 (by decide) (hts _ kw_148) (fun _ h9 => h9) rfl d_Names_add_211 ?_
  refine lv_iconst (v := 1) hx hb d_Names_add_214 (by decide) ?_
  refine lv_iadd hx hb d_Names_add_215 ?_
  refine zz_i (y := 2) (by decide +kernel) ?_
  refine va_put (D := D) (ci := 2) (v := .int 2) (ty := .int) (C := "ProofDesk$Names") (T := F_Names) (N := 6) hx hb hts in_Names t_Names t_Names_ok n_Names hown hK hP hD hS 0 rfl rfl 4 (by decide) (hts _ kw_148) (fun _ h9 => h9) rfl (by decide +kernel) rfl rfl (Nat.le_of_ble_eq_true rfl) d_Names_add_216 (fun H locs hP hD hS => ?_)
  have hP : va_P D zcl [(h0, .inr (2, [.ref lt, .int 2, .ref rw, .ref bu, .int 2, .int 0])), (lt, .inl (cB, 256, .inl (upd (upd (fun _ => 0) 0 120) 1 77))), (rw, .inl (cI, 224, .inl (upd (upd (upd (upd (upd (upd (upd (upd (upd (upd (upd (upd (upd (upd (fun _ => 0) 0 0) 1 1) 2 (-1)) 3 120) 4 (-1)) 5 (-1)) 6 0) 7 1) 8 1) 9 (-1)) 10 77) 11 (-1)) 12 (-1)) 13 0))), (bu, .inl (cI, 128, .inl (upd (upd (zfill (fun _ => 0) 128 (-1)) 120 0) 77 1))), (a, .inl (cB, 2, .inl (upd (upd (fun _ => 0) 0 120) 1 77)))] H := hP
  have hD : va_D A [(h0, .inr (2, [.ref lt, .int 2, .ref rw, .ref bu, .int 2, .int 0])), (lt, .inl (cB, 256, .inl (upd (upd (fun _ => 0) 0 120) 1 77))), (rw, .inl (cI, 224, .inl (upd (upd (upd (upd (upd (upd (upd (upd (upd (upd (upd (upd (upd (upd (fun _ => 0) 0 0) 1 1) 2 (-1)) 3 120) 4 (-1)) 5 (-1)) 6 0) 7 1) 8 1) 9 (-1)) 10 77) 11 (-1)) 12 (-1)) 13 0))), (bu, .inl (cI, 128, .inl (upd (upd (zfill (fun _ => 0) 128 (-1)) 120 0) 77 1))), (a, .inl (cB, 2, .inl (upd (upd (fun _ => 0) 0 120) 1 77)))] := hD
  refine lv_aload_n hx hb d_Names_add_219 rfl (lv_at hl 3 rfl) ?_
  refine va_get (D := D) (ci := 2) (v := .int 2) (C := "ProofDesk$Names") (T := F_Names) (N := 6) hx hb hts in_Names hown hK hP 0 rfl rfl 4 (by decide) (hts _ kw_148) (fun _ h9 => h9) rfl d_Names_add_220 ?_
  refine lv_iconst (v := 1) hx hb d_Names_add_223 (by decide) ?_
  refine lv_isub hx hb d_Names_add_224 ?_
  refine zz_i (y := 1) (by decide +kernel) ?_
  have hP9 := hP.sub (ws' := [(h0, .inr (2, [.ref lt, .int 2, .ref rw, .ref bu, .int 2, .int 0])), (lt, .inl (cB, 256, .inl (upd (upd (fun _ => 0) 0 120) 1 77))), (rw, .inl (cI, 224, .inl (upd (upd (upd (upd (upd (upd (upd (upd (upd (upd (upd (upd (upd (upd (fun _ => 0) 0 0) 1 1) 2 (-1)) 3 120) 4 (-1)) 5 (-1)) 6 0) 7 1) 8 1) 9 (-1)) 10 77) 11 (-1)) 12 (-1)) 13 0))), (bu, .inl (cI, 128, .inl (upd (upd (zfill (fun _ => 0) 128 (-1)) 120 0) 77 1))), (a, .inl (cB, 2, .inl (upd (upd (fun _ => 0) 0 120) 1 77)))]) [0, 1, 2, 3, 4] rfl
  have hD9 := hD.sub (ws' := [(h0, .inr (2, [.ref lt, .int 2, .ref rw, .ref bu, .int 2, .int 0])), (lt, .inl (cB, 256, .inl (upd (upd (fun _ => 0) 0 120) 1 77))), (rw, .inl (cI, 224, .inl (upd (upd (upd (upd (upd (upd (upd (upd (upd (upd (upd (upd (upd (upd (fun _ => 0) 0 0) 1 1) 2 (-1)) 3 120) 4 (-1)) 5 (-1)) 6 0) 7 1) 8 1) 9 (-1)) 10 77) 11 (-1)) 12 (-1)) 13 0))), (bu, .inl (cI, 128, .inl (upd (upd (zfill (fun _ => 0) 128 (-1)) 120 0) 77 1))), (a, .inl (cB, 2, .inl (upd (upd (fun _ => 0) 0 120) 1 77)))]) [0, 1, 2, 3, 4] (by decide +kernel) rfl
  refine W.widen (k := 0) (n := 0) (by omega) (by omega) ?_
  exact W.iret (v := 1) hx hb hr (fun t ht hW => ⟨⟨1, (), rfl, rfl, by rw [ht]; exact hP9, hD9⟩, hS.F ht⟩) hS.2.2 d_Names_add_225
set_option maxHeartbeats 4000000 in
set_option maxRecDepth 100000 in
theorem c_Names_intern1 (l : Launch) (D : va_G) (cI cB cZ cS : ClassId) (sz : Nat) (h0 : Nat) (lt : Nat) (rw : Nat) (bu : Nat) (a : Nat) : Met l y_Names_intern (zc y_Names_intern b_Names_intern 5 (some .int)) ({ frames := 2, cells := 0, slots := 0, locals := 66 }) (zPc D (zty cI cB cZ cS) [(h0, .inr (2, [.ref lt, .int 1, .ref rw, .ref bu, .int 1, .int 0])), (lt, .inl (cB, 256, .inl (upd (fun _ => 0) 0 120))), (rw, .inl (cI, 224, .inl (upd (upd (upd (upd (upd (upd (upd (fun _ => 0) 0 0) 1 1) 2 (-1)) 3 120) 4 (-1)) 5 (-1)) 6 0))), (bu, .inl (cI, 128, .inl (upd (zfill (fun _ => 0) 128 (-1)) 120 0))), (a, .inl (cB, 2, .inl (upd (upd (fun _ => 0) 0 120) 1 77)))] sz [.ref h0, .ref a, .int 1, .int 2]) (va_Qi (fun (r : Int32) (_ : Unit) => r = 1) (fun _ t => va_P D zcl [(h0, .inr (2, [.ref lt, .int 2, .ref rw, .ref bu, .int 2, .int 0])), (lt, .inl (cB, 256, .inl (upd (upd (fun _ => 0) 0 120) 1 77))), (rw, .inl (cI, 224, .inl (upd (upd (upd (upd (upd (upd (upd (upd (upd (upd (upd (upd (upd (upd (fun _ => 0) 0 0) 1 1) 2 (-1)) 3 120) 4 (-1)) 5 (-1)) 6 0) 7 1) 8 1) 9 (-1)) 10 77) 11 (-1)) 12 (-1)) 13 0))), (bu, .inl (cI, 128, .inl (upd (upd (zfill (fun _ => 0) 128 (-1)) 120 0) 77 1))), (a, .inl (cB, 2, .inl (upd (upd (fun _ => 0) 0 120) 1 77)))] t.heap ∧ va_D (va_A [(h0, .inr (2, [.ref lt, .int 1, .ref rw, .ref bu, .int 1, .int 0])), (lt, .inl (cB, 256, .inl (upd (fun _ => 0) 0 120))), (rw, .inl (cI, 224, .inl (upd (upd (upd (upd (upd (upd (upd (fun _ => 0) 0 0) 1 1) 2 (-1)) 3 120) 4 (-1)) 5 (-1)) 6 0))), (bu, .inl (cI, 128, .inl (upd (zfill (fun _ => 0) 128 (-1)) 120 0))), (a, .inl (cB, 2, .inl (upd (upd (fun _ => 0) 0 120) 1 77)))] sz) [(h0, .inr (2, [.ref lt, .int 2, .ref rw, .ref bu, .int 2, .int 0])), (lt, .inl (cB, 256, .inl (upd (upd (fun _ => 0) 0 120) 1 77))), (rw, .inl (cI, 224, .inl (upd (upd (upd (upd (upd (upd (upd (upd (upd (upd (upd (upd (upd (upd (fun _ => 0) 0 0) 1 1) 2 (-1)) 3 120) 4 (-1)) 5 (-1)) 6 0) 7 1) 8 1) 9 (-1)) 10 77) 11 (-1)) 12 (-1)) 13 0))), (bu, .inl (cI, 128, .inl (upd (upd (zfill (fun _ => 0) 128 (-1)) 120 0) 77 1))), (a, .inl (cB, 2, .inl (upd (upd (fun _ => 0) 0 120) 1 77)))]) (va_A [(h0, .inr (2, [.ref lt, .int 1, .ref rw, .ref bu, .int 1, .int 0])), (lt, .inl (cB, 256, .inl (upd (fun _ => 0) 0 120))), (rw, .inl (cI, 224, .inl (upd (upd (upd (upd (upd (upd (upd (fun _ => 0) 0 0) 1 1) 2 (-1)) 3 120) 4 (-1)) 5 (-1)) 6 0))), (bu, .inl (cI, 128, .inl (upd (zfill (fun _ => 0) 128 (-1)) 120 0))), (a, .inl (cB, 2, .inl (upd (upd (fun _ => 0) 0 120) 1 77)))] sz)) 0 0 (va_A [(h0, .inr (2, [.ref lt, .int 1, .ref rw, .ref bu, .int 1, .int 0])), (lt, .inl (cB, 256, .inl (upd (fun _ => 0) 0 120))), (rw, .inl (cI, 224, .inl (upd (upd (upd (upd (upd (upd (upd (fun _ => 0) 0 0) 1 1) 2 (-1)) 3 120) 4 (-1)) 5 (-1)) 6 0))), (bu, .inl (cI, 128, .inl (upd (zfill (fun _ => 0) 128 (-1)) 120 0))), (a, .inl (cB, 2, .inl (upd (upd (fun _ => 0) 0 120) 1 77)))] sz) := by
  refine Met.ofW (cc := b_Names_intern) (maxL := 5) (ret := (some .int)) (by decide) rfl ?_
  intro p e s m args below meth c s₁ B hml hv
  obtain ⟨rfl, hsz, hP, ⟨hK, hN⟩, hD0⟩ := hv
  have hx := B.exec
  have hb := B.bytes
  have hr := B.returns
  have hts0 := atoms_spec (ws := zc y_Names_intern b_Names_intern 5 (some .int)) B.pre
  have hts : ∀ w ∈ zw, w.before _ s = true := fun w hw => hts0 w (List.mem_cons_of_mem _ hw)
  have hown : s.vm.findClass "ProofDesk$Names" = some m.cls := findClass_of_methodNamed B.named
  have hlocks := B.notSynchronized
  subst hsz
  have hD := hD0.self (sz := s.heap.size)
  generalize hAe : va_A [(h0, .inr (2, [.ref lt, .int 1, .ref rw, .ref bu, .int 1, .int 0])), (lt, .inl (cB, 256, .inl (upd (fun _ => 0) 0 120))), (rw, .inl (cI, 224, .inl (upd (upd (upd (upd (upd (upd (upd (fun _ => 0) 0 0) 1 1) 2 (-1)) 3 120) 4 (-1)) 5 (-1)) 6 0))), (bu, .inl (cI, 128, .inl (upd (zfill (fun _ => 0) 128 (-1)) 120 0))), (a, .inl (cB, 2, .inl (upd (upd (fun _ => 0) 0 120) 1 77)))] s.heap.size = A at hD ⊢
  have hA : ∀ q : Nat, s.heap.size ≤ q → A q := fun q h => by rw [← hAe]; exact Or.inr h
  have hS : va_S A s.heap s.heap [] := va_S.rf
  have hP : va_P D zcl [(h0, .inr (2, [.ref lt, .int 1, .ref rw, .ref bu, .int 1, .int 0])), (lt, .inl (cB, 256, .inl (upd (fun _ => 0) 0 120))), (rw, .inl (cI, 224, .inl (upd (upd (upd (upd (upd (upd (upd (fun _ => 0) 0 0) 1 1) 2 (-1)) 3 120) 4 (-1)) 5 (-1)) 6 0))), (bu, .inl (cI, 128, .inl (upd (zfill (fun _ => 0) 128 (-1)) 120 0))), (a, .inl (cB, 2, .inl (upd (upd (fun _ => 0) 0 120) 1 77)))] s.heap := hP
  have hl := lv_entry ([.ref h0, .ref a, .int 1, .int 2]) (n := 5) (Nat.le_of_ble_eq_true rfl)
  rw [lg_entry_eq]
  generalize (lg_sl ([.ref h0, .ref a, .int 1, .int 2]) ++ List.replicate (5 - (lg_sl ([.ref h0, .ref a, .int 1, .int 2])).length) Slot.unset).toArray = ls at hl ⊢
  have hl : lv_has ls 5 [(0, .ref h0), (1, .ref a), (2, .int 1), (3, .int 2)] := hl
  refine lv_aload_n hx hb d_Names_intern_0 rfl (lv_at hl 0 rfl) ?_
  refine lv_aload_n hx hb d_Names_intern_1 rfl (lv_at hl 1 rfl) ?_
  refine lv_iload_n hx hb d_Names_intern_2 rfl (lv_at hl 2 rfl) ?_
  refine lv_iload_n hx hb d_Names_intern_3 rfl (lv_at hl 3 rfl) ?_
  have hPc := hP.sub (ws' := [(h0, .inr (2, [.ref lt, .int 1, .ref rw, .ref bu, .int 1, .int 0])), (lt, .inl (cB, 256, .inl (upd (fun _ => 0) 0 120))), (rw, .inl (cI, 224, .inl (upd (upd (upd (upd (upd (upd (upd (fun _ => 0) 0 0) 1 1) 2 (-1)) 3 120) 4 (-1)) 5 (-1)) 6 0))), (bu, .inl (cI, 128, .inl (upd (zfill (fun _ => 0) 128 (-1)) 120 0))), (a, .inl (cB, 2, .inl (upd (upd (fun _ => 0) 0 120) 1 77)))]) [0, 1, 2, 3, 4] rfl
  have hDc := hD.sub (ws' := [(h0, .inr (2, [.ref lt, .int 1, .ref rw, .ref bu, .int 1, .int 0])), (lt, .inl (cB, 256, .inl (upd (fun _ => 0) 0 120))), (rw, .inl (cI, 224, .inl (upd (upd (upd (upd (upd (upd (upd (fun _ => 0) 0 0) 1 1) 2 (-1)) 3 120) 4 (-1)) 5 (-1)) 6 0))), (bu, .inl (cI, 128, .inl (upd (zfill (fun _ => 0) 128 (-1)) 120 0))), (a, .inl (cB, 2, .inl (upd (upd (fun _ => 0) 0 120) 1 77)))]) [0, 1, 2, 3, 4] (by decide +kernel) rfl
  have hFc := va_free (wc := [(h0, .inr (2, [.ref lt, .int 1, .ref rw, .ref bu, .int 1, .int 0])), (lt, .inl (cB, 256, .inl (upd (fun _ => 0) 0 120))), (rw, .inl (cI, 224, .inl (upd (upd (upd (upd (upd (upd (upd (fun _ => 0) 0 0) 1 1) 2 (-1)) 3 120) 4 (-1)) 5 (-1)) 6 0))), (bu, .inl (cI, 128, .inl (upd (zfill (fun _ => 0) 128 (-1)) 120 0))), (a, .inl (cB, 2, .inl (upd (upd (fun _ => 0) 0 120) 1 77)))]) hD hS hA [0, 1, 2, 3, 4] rfl
  have hkc : 0 + 0 ≤ 0 := by omega
  have hks : 0 + 0 ≤ 0 := by omega
  refine va_calli (va_runV (As := [.ref a, .int 1, .int 2]) (rest := []) ⟨hx, hb, hml, hown, hts⟩ (c_Names_lookUp1 l D cI cB cZ cS s.heap.size h0 lt rw bu a) (⟨callB_of 3 hts (zgood kw_102) rfl rfl rfl (hts _ kw_4) (hts _ kw_99) (by decide +kernel) ⟨Nat.le_of_ble_eq_true rfl, Nat.le_of_ble_eq_true rfl⟩, hts _ kw_100, hts _ kw_101⟩) (zPreV hPc hK hN hDc (va_recv (q := ("ProofDesk$Names", F_Names, 6)) hK hP rfl (q0 := 0) rfl)) rfl rfl hl.1 rfl (lv_room (Nat.le_of_ble_eq_true rfl)) d_Names_intern_4 ⟨hkc, hks⟩) hS (fun q _ h => hFc q h) hFc (fun r u t H1 locs ht hvm hw hB hz1 hk1 hS => ?_)
  obtain ⟨hP1, hD1⟩ := hB
  rw [ht] at hP1
  obtain ⟨hP, hD⟩ := va_join (wr := []) (w1 := [(h0, .inr (2, [.ref lt, .int 1, .ref rw, .ref bu, .int 1, .int 0])), (lt, .inl (cB, 256, .inl (upd (fun _ => 0) 0 120))), (rw, .inl (cI, 224, .inl (upd (upd (upd (upd (upd (upd (upd (fun _ => 0) 0 0) 1 1) 2 (-1)) 3 120) 4 (-1)) 5 (-1)) 6 0))), (bu, .inl (cI, 128, .inl (upd (zfill (fun _ => 0) 128 (-1)) 120 0))), (a, .inl (cB, 2, .inl (upd (upd (fun _ => 0) 0 120) 1 77)))]) hP hD [0, 1, 2, 3, 4] [] rfl rfl (by decide +kernel) (by decide +kernel) hk1 hFc hP1 hD1
  generalize H1 = H at hP hS ⊢
  have hP : va_P D zcl [(h0, .inr (2, [.ref lt, .int 1, .ref rw, .ref bu, .int 1, .int 0])), (lt, .inl (cB, 256, .inl (upd (fun _ => 0) 0 120))), (rw, .inl (cI, 224, .inl (upd (upd (upd (upd (upd (upd (upd (fun _ => 0) 0 0) 1 1) 2 (-1)) 3 120) 4 (-1)) 5 (-1)) 6 0))), (bu, .inl (cI, 128, .inl (upd (zfill (fun _ => 0) 128 (-1)) 120 0))), (a, .inl (cB, 2, .inl (upd (upd (fun _ => 0) 0 120) 1 77)))] H := hP
  have hD : va_D A [(h0, .inr (2, [.ref lt, .int 1, .ref rw, .ref bu, .int 1, .int 0])), (lt, .inl (cB, 256, .inl (upd (fun _ => 0) 0 120))), (rw, .inl (cI, 224, .inl (upd (upd (upd (upd (upd (upd (upd (fun _ => 0) 0 0) 1 1) 2 (-1)) 3 120) 4 (-1)) 5 (-1)) 6 0))), (bu, .inl (cI, 128, .inl (upd (zfill (fun _ => 0) 128 (-1)) 120 0))), (a, .inl (cB, 2, .inl (upd (upd (fun _ => 0) 0 120) 1 77)))] := hD
  subst hw
  refine W.widen (k := 0) (n := 0) (by omega) (by omega) ?_
  refine lv_istore (lv' := [(4, .int (-1)), (0, .ref h0), (1, .ref a), (2, .int 1), (3, .int 2)]) hx hb d_Names_intern_7 hl (by decide) rfl (fun ls hl => ?_)
  refine lv_iload hx hb d_Names_intern_9 (lv_at hl 0 rfl) ?_
  refine lv_iconst (v := (-1)) hx hb d_Names_intern_11 (by decide) ?_
  have hc_1 : ((-1) : Int32) = (-1) := by decide +kernel
  refine lv_icmp_eq hx hb d_Names_intern_12 rfl (fun _ => ?_) (fun h => absurd hc_1 h)
  refine lv_aload_n hx hb d_Names_intern_20 rfl (lv_at hl 1 rfl) ?_
  refine lv_aload_n hx hb d_Names_intern_21 rfl (lv_at hl 2 rfl) ?_
  refine lv_iload_n hx hb d_Names_intern_22 rfl (lv_at hl 3 rfl) ?_
  refine lv_iload_n hx hb d_Names_intern_23 rfl (lv_at hl 4 rfl) ?_
  have hPc := hP.sub (ws' := [(h0, .inr (2, [.ref lt, .int 1, .ref rw, .ref bu, .int 1, .int 0])), (lt, .inl (cB, 256, .inl (upd (fun _ => 0) 0 120))), (rw, .inl (cI, 224, .inl (upd (upd (upd (upd (upd (upd (upd (fun _ => 0) 0 0) 1 1) 2 (-1)) 3 120) 4 (-1)) 5 (-1)) 6 0))), (bu, .inl (cI, 128, .inl (upd (zfill (fun _ => 0) 128 (-1)) 120 0))), (a, .inl (cB, 2, .inl (upd (upd (fun _ => 0) 0 120) 1 77)))]) [0, 1, 2, 3, 4] rfl
  have hDc := hD.sub (ws' := [(h0, .inr (2, [.ref lt, .int 1, .ref rw, .ref bu, .int 1, .int 0])), (lt, .inl (cB, 256, .inl (upd (fun _ => 0) 0 120))), (rw, .inl (cI, 224, .inl (upd (upd (upd (upd (upd (upd (upd (fun _ => 0) 0 0) 1 1) 2 (-1)) 3 120) 4 (-1)) 5 (-1)) 6 0))), (bu, .inl (cI, 128, .inl (upd (zfill (fun _ => 0) 128 (-1)) 120 0))), (a, .inl (cB, 2, .inl (upd (upd (fun _ => 0) 0 120) 1 77)))]) [0, 1, 2, 3, 4] (by decide +kernel) rfl
  have hFc := va_free (wc := [(h0, .inr (2, [.ref lt, .int 1, .ref rw, .ref bu, .int 1, .int 0])), (lt, .inl (cB, 256, .inl (upd (fun _ => 0) 0 120))), (rw, .inl (cI, 224, .inl (upd (upd (upd (upd (upd (upd (upd (fun _ => 0) 0 0) 1 1) 2 (-1)) 3 120) 4 (-1)) 5 (-1)) 6 0))), (bu, .inl (cI, 128, .inl (upd (zfill (fun _ => 0) 128 (-1)) 120 0))), (a, .inl (cB, 2, .inl (upd (upd (fun _ => 0) 0 120) 1 77)))]) hD hS hA [0, 1, 2, 3, 4] rfl
  have hkc : 0 + 0 ≤ 0 := by omega
  have hks : 0 + 0 ≤ 0 := by omega
  refine va_calli (va_runV (As := [.ref a, .int 1, .int 2]) (rest := []) ⟨hx, hb, hml, hown, hts⟩ (c_Names_add1 l D cI cB cZ cS H.size h0 lt rw bu a) (⟨callB_of 3 hts (zgood kw_117) rfl rfl rfl (hts _ kw_4) (hts _ kw_114) (by decide +kernel) ⟨Nat.le_of_ble_eq_true rfl, Nat.le_of_ble_eq_true rfl⟩, hts _ kw_116, hts _ kp_1⟩) (zPreV hPc hK hN hDc (va_recv (q := ("ProofDesk$Names", F_Names, 6)) hK hP rfl (q0 := 0) rfl)) rfl rfl hl.1 rfl (lv_room (Nat.le_of_ble_eq_true rfl)) d_Names_intern_24 ⟨hkc, hks⟩) hS (fun q _ h => hFc q h) hFc (fun r u t H1 locs ht hvm hw hB hz1 hk1 hS => ?_)
  obtain ⟨hP1, hD1⟩ := hB
  rw [ht] at hP1
  obtain ⟨hP, hD⟩ := va_join (wr := []) (w1 := [(h0, .inr (2, [.ref lt, .int 2, .ref rw, .ref bu, .int 2, .int 0])), (lt, .inl (cB, 256, .inl (upd (upd (fun _ => 0) 0 120) 1 77))), (rw, .inl (cI, 224, .inl (upd (upd (upd (upd (upd (upd (upd (upd (upd (upd (upd (upd (upd (upd (fun _ => 0) 0 0) 1 1) 2 (-1)) 3 120) 4 (-1)) 5 (-1)) 6 0) 7 1) 8 1) 9 (-1)) 10 77) 11 (-1)) 12 (-1)) 13 0))), (bu, .inl (cI, 128, .inl (upd (upd (zfill (fun _ => 0) 128 (-1)) 120 0) 77 1))), (a, .inl (cB, 2, .inl (upd (upd (fun _ => 0) 0 120) 1 77)))]) hP hD [0, 1, 2, 3, 4] [] rfl rfl (by decide +kernel) (by decide +kernel) hk1 hFc hP1 hD1
  generalize H1 = H at hP hS ⊢
  have hP : va_P D zcl [(h0, .inr (2, [.ref lt, .int 2, .ref rw, .ref bu, .int 2, .int 0])), (lt, .inl (cB, 256, .inl (upd (upd (fun _ => 0) 0 120) 1 77))), (rw, .inl (cI, 224, .inl (upd (upd (upd (upd (upd (upd (upd (upd (upd (upd (upd (upd (upd (upd (fun _ => 0) 0 0) 1 1) 2 (-1)) 3 120) 4 (-1)) 5 (-1)) 6 0) 7 1) 8 1) 9 (-1)) 10 77) 11 (-1)) 12 (-1)) 13 0))), (bu, .inl (cI, 128, .inl (upd (upd (zfill (fun _ => 0) 128 (-1)) 120 0) 77 1))), (a, .inl (cB, 2, .inl (upd (upd (fun _ => 0) 0 120) 1 77)))] H := hP
  have hD : va_D A [(h0, .inr (2, [.ref lt, .int 2, .ref rw, .ref bu, .int 2, .int 0])), (lt, .inl (cB, 256, .inl (upd (upd (fun _ => 0) 0 120) 1 77))), (rw, .inl (cI, 224, .inl (upd (upd (upd (upd (upd (upd (upd (upd (upd (upd (upd (upd (upd (upd (fun _ => 0) 0 0) 1 1) 2 (-1)) 3 120) 4 (-1)) 5 (-1)) 6 0) 7 1) 8 1) 9 (-1)) 10 77) 11 (-1)) 12 (-1)) 13 0))), (bu, .inl (cI, 128, .inl (upd (upd (zfill (fun _ => 0) 128 (-1)) 120 0) 77 1))), (a, .inl (cB, 2, .inl (upd (upd (fun _ => 0) 0 120) 1 77)))] := hD
  subst hw
  refine W.widen (k := 0) (n := 0) (by omega) (by omega) ?_
  have hP9 := hP.sub (ws' := [(h0, .inr (2, [.ref lt, .int 2, .ref rw, .ref bu, .int 2, .int 0])), (lt, .inl (cB, 256, .inl (upd (upd (fun _ => 0) 0 120) 1 77))), (rw, .inl (cI, 224, .inl (upd (upd (upd (upd (upd (upd (upd (upd (upd (upd (upd (upd (upd (upd (fun _ => 0) 0 0) 1 1) 2 (-1)) 3 120) 4 (-1)) 5 (-1)) 6 0) 7 1) 8 1) 9 (-1)) 10 77) 11 (-1)) 12 (-1)) 13 0))), (bu, .inl (cI, 128, .inl (upd (upd (zfill (fun _ => 0) 128 (-1)) 120 0) 77 1))), (a, .inl (cB, 2, .inl (upd (upd (fun _ => 0) 0 120) 1 77)))]) [0, 1, 2, 3, 4] rfl
  have hD9 := hD.sub (ws' := [(h0, .inr (2, [.ref lt, .int 2, .ref rw, .ref bu, .int 2, .int 0])), (lt, .inl (cB, 256, .inl (upd (upd (fun _ => 0) 0 120) 1 77))), (rw, .inl (cI, 224, .inl (upd (upd (upd (upd (upd (upd (upd (upd (upd (upd (upd (upd (upd (upd (fun _ => 0) 0 0) 1 1) 2 (-1)) 3 120) 4 (-1)) 5 (-1)) 6 0) 7 1) 8 1) 9 (-1)) 10 77) 11 (-1)) 12 (-1)) 13 0))), (bu, .inl (cI, 128, .inl (upd (upd (zfill (fun _ => 0) 128 (-1)) 120 0) 77 1))), (a, .inl (cB, 2, .inl (upd (upd (fun _ => 0) 0 120) 1 77)))]) [0, 1, 2, 3, 4] (by decide +kernel) rfl
  refine W.widen (k := 0) (n := 0) (by omega) (by omega) ?_
  exact W.iret (v := 1) hx hb hr (fun t ht hW => ⟨⟨1, (), rfl, rfl, by rw [ht]; exact hP9, hD9⟩, hS.F ht⟩) hS.2.2 d_Names_intern_27
abbrev b_Names_init : ByteArray := prog_5_method_1_code
abbrev y_Names_init : MethodName := ⟨"ProofDesk$Names", "<init>", "()V"⟩
theorem d_Names_init_0 : decode b_Names_init 0 = .ok (.aload_n 0, 1) := by decide +kernel
theorem d_Names_init_1 : decode b_Names_init 1 = .ok (.invokespecial 3, 3) := by decide +kernel
theorem kw_91 : (Jvm.Cond.methodLink "ProofDesk$Names" (3 : Nat) ({ cls := "java/lang/Object", name := "<init>", desc := "()V" } : Jvm.MethodName)) ∈ zw := List.mem_filter.mpr ⟨List.mem_append_right _ (List.mem_of_getElem? (i := 91) (by decide +kernel)), by decide +kernel⟩
theorem d_Names_init_4 : decode b_Names_init 4 = .ok (.aload_n 0, 1) := by decide +kernel
theorem d_Names_init_5 : decode b_Names_init 5 = .ok (.sipush 256, 3) := by decide +kernel
theorem d_Names_init_8 : decode b_Names_init 8 = .ok (.newarray .byte, 2) := by decide +kernel
theorem kw_163 : (Jvm.Cond.arrayClass Jvm.ClassFile.FieldType.byte) ∈ zw := List.mem_filter.mpr ⟨List.mem_append_right _ (List.mem_of_getElem? (i := 163) (by decide +kernel)), by decide +kernel⟩
theorem d_Names_init_10 : decode b_Names_init 10 = .ok (.putfield 9, 3) := by decide +kernel
theorem d_Names_init_13 : decode b_Names_init 13 = .ok (.aload_n 0, 1) := by decide +kernel
theorem d_Names_init_14 : decode b_Names_init 14 = .ok (.sipush 224, 3) := by decide +kernel
theorem d_Names_init_17 : decode b_Names_init 17 = .ok (.newarray .int, 2) := by decide +kernel
theorem d_Names_init_19 : decode b_Names_init 19 = .ok (.putfield 15, 3) := by decide +kernel
theorem d_Names_init_22 : decode b_Names_init 22 = .ok (.aload_n 0, 1) := by decide +kernel
theorem d_Names_init_23 : decode b_Names_init 23 = .ok (.sipush 128, 3) := by decide +kernel
theorem d_Names_init_26 : decode b_Names_init 26 = .ok (.newarray .int, 2) := by decide +kernel
theorem d_Names_init_28 : decode b_Names_init 28 = .ok (.putfield 19, 3) := by decide +kernel
theorem d_Names_init_31 : decode b_Names_init 31 = .ok (.aload_n 0, 1) := by decide +kernel
theorem d_Names_init_32 : decode b_Names_init 32 = .ok (.getfield 19, 3) := by decide +kernel
theorem d_Names_init_35 : decode b_Names_init 35 = .ok (.iconst (-1), 1) := by decide +kernel
theorem d_Names_init_36 : decode b_Names_init 36 = .ok (.invokestatic 22, 3) := by decide +kernel
theorem kw_94 : (Jvm.Cond.code ({ cls := "java/util/Arrays", name := "fill", desc := "([II)V" } : Jvm.MethodName) prog_25_method_103_code (4 : Nat) (Option.none : Option Jvm.ClassFile.FieldType)) ∈ zw := List.mem_filter.mpr ⟨List.mem_append_right _ (List.mem_of_getElem? (i := 94) rfl), by decide +kernel⟩
theorem kw_5 : (Jvm.Cond.initialized "java/util/Arrays") ∈ zw := List.mem_filter.mpr ⟨List.mem_append_right _ (List.mem_of_getElem? (i := 5) (by decide +kernel)), by decide +kernel⟩
theorem kw_92 : (Jvm.Cond.methodLink "ProofDesk$Names" (22 : Nat) ({ cls := "java/util/Arrays", name := "fill", desc := "([II)V" } : Jvm.MethodName)) ∈ zw := List.mem_filter.mpr ⟨List.mem_append_right _ (List.mem_of_getElem? (i := 92) (by decide +kernel)), by decide +kernel⟩
theorem kw_93 : (Jvm.Cond.static ({ cls := "java/util/Arrays", name := "fill", desc := "([II)V" } : Jvm.MethodName)) ∈ zw := List.mem_filter.mpr ⟨List.mem_append_right _ (List.mem_of_getElem? (i := 93) (by decide +kernel)), by decide +kernel⟩
theorem d_Names_init_39 : decode b_Names_init 39 = .ok (.iconst 2, 1) := by decide +kernel
theorem d_Names_init_40 : decode b_Names_init 40 = .ok (.newarray .byte, 2) := by decide +kernel
theorem d_Names_init_42 : decode b_Names_init 42 = .ok (.dup, 1) := by decide +kernel
theorem d_Names_init_43 : decode b_Names_init 43 = .ok (.iconst 0, 1) := by decide +kernel
theorem d_Names_init_44 : decode b_Names_init 44 = .ok (.bipush 120, 2) := by decide +kernel
theorem d_Names_init_46 : decode b_Names_init 46 = .ok (.bastore, 1) := by decide +kernel
theorem d_Names_init_47 : decode b_Names_init 47 = .ok (.dup, 1) := by decide +kernel
theorem d_Names_init_48 : decode b_Names_init 48 = .ok (.iconst 1, 1) := by decide +kernel
theorem d_Names_init_49 : decode b_Names_init 49 = .ok (.bipush 77, 2) := by decide +kernel
theorem d_Names_init_51 : decode b_Names_init 51 = .ok (.bastore, 1) := by decide +kernel
theorem d_Names_init_52 : decode b_Names_init 52 = .ok (.astore_n 1, 1) := by decide +kernel
theorem d_Names_init_53 : decode b_Names_init 53 = .ok (.aload_n 0, 1) := by decide +kernel
theorem d_Names_init_54 : decode b_Names_init 54 = .ok (.aload_n 1, 1) := by decide +kernel
theorem d_Names_init_55 : decode b_Names_init 55 = .ok (.iconst 0, 1) := by decide +kernel
theorem d_Names_init_56 : decode b_Names_init 56 = .ok (.iconst 1, 1) := by decide +kernel
theorem d_Names_init_57 : decode b_Names_init 57 = .ok (.invokevirtual 28, 3) := by decide +kernel
theorem kw_98 : (Jvm.Cond.code ({ cls := "ProofDesk$Names", name := "intern", desc := "([BII)I" } : Jvm.MethodName) prog_5_method_3_code (5 : Nat) (Option.some Jvm.ClassFile.FieldType.int)) ∈ zw := List.mem_filter.mpr ⟨List.mem_append_right _ (List.mem_of_getElem? (i := 98) rfl), by decide +kernel⟩
theorem kw_95 : (Jvm.Cond.methodLink "ProofDesk$Names" (28 : Nat) ({ cls := "ProofDesk$Names", name := "intern", desc := "([BII)I" } : Jvm.MethodName)) ∈ zw := List.mem_filter.mpr ⟨List.mem_append_right _ (List.mem_of_getElem? (i := 95) (by decide +kernel)), by decide +kernel⟩
theorem kw_96 : (Jvm.Cond.instanceMethod ({ cls := "ProofDesk$Names", name := "intern", desc := "([BII)I" } : Jvm.MethodName)) ∈ zw := List.mem_filter.mpr ⟨List.mem_append_right _ (List.mem_of_getElem? (i := 96) (by decide +kernel)), by decide +kernel⟩
theorem kw_97 : (Jvm.Cond.selects "ProofDesk$Names" ({ cls := "ProofDesk$Names", name := "intern", desc := "([BII)I" } : Jvm.MethodName) ({ cls := "ProofDesk$Names", name := "intern", desc := "([BII)I" } : Jvm.MethodName)) ∈ zw := List.mem_filter.mpr ⟨List.mem_append_right _ (List.mem_of_getElem? (i := 97) (by decide +kernel)), by decide +kernel⟩
theorem d_Names_init_60 : decode b_Names_init 60 = .ok (.pop, 1) := by decide +kernel
theorem d_Names_init_61 : decode b_Names_init 61 = .ok (.aload_n 0, 1) := by decide +kernel
theorem d_Names_init_62 : decode b_Names_init 62 = .ok (.aload_n 1, 1) := by decide +kernel
theorem d_Names_init_63 : decode b_Names_init 63 = .ok (.iconst 1, 1) := by decide +kernel
theorem d_Names_init_64 : decode b_Names_init 64 = .ok (.iconst 2, 1) := by decide +kernel
theorem d_Names_init_65 : decode b_Names_init 65 = .ok (.invokevirtual 28, 3) := by decide +kernel
theorem d_Names_init_68 : decode b_Names_init 68 = .ok (.pop, 1) := by decide +kernel
theorem d_Names_init_69 : decode b_Names_init 69 = .ok (.return_, 1) := by decide +kernel
set_option maxHeartbeats 4000000 in
set_option maxRecDepth 100000 in
theorem c_Names_init (l : Launch) (D : va_G) (cI cB cZ cS : ClassId) (sz : Nat) (h0 : Nat) : Met l y_Names_init (zc y_Names_init b_Names_init 2 none) ({ frames := 3, cells := 4, slots := 610, locals := 90 }) (zPc D (zty cI cB cZ cS) [(h0, .inr (2, [.null, .int 0, .null, .null, .int 0, .int 0]))] sz [.ref h0]) (va_Qv (fun _ : Unit => True) (fun _ t => ∃ x1 x2 x3 : Nat, va_P D zcl [(h0, .inr (2, [.ref x1, .int 2, .ref x2, .ref x3, .int 2, .int 0])), (x1, .inl (cB, 256, .inl (upd (upd (fun _ => 0) 0 120) 1 77))), (x2, .inl (cI, 224, .inl (upd (upd (upd (upd (upd (upd (upd (upd (upd (upd (upd (upd (upd (upd (fun _ => 0) 0 0) 1 1) 2 (-1)) 3 120) 4 (-1)) 5 (-1)) 6 0) 7 1) 8 1) 9 (-1)) 10 77) 11 (-1)) 12 (-1)) 13 0))), (x3, .inl (cI, 128, .inl (upd (upd (zfill (fun _ => 0) 128 (-1)) 120 0) 77 1)))] t.heap ∧ va_D (va_A [(h0, .inr (2, [.null, .int 0, .null, .null, .int 0, .int 0]))] sz) [(h0, .inr (2, [.ref x1, .int 2, .ref x2, .ref x3, .int 2, .int 0])), (x1, .inl (cB, 256, .inl (upd (upd (fun _ => 0) 0 120) 1 77))), (x2, .inl (cI, 224, .inl (upd (upd (upd (upd (upd (upd (upd (upd (upd (upd (upd (upd (upd (upd (fun _ => 0) 0 0) 1 1) 2 (-1)) 3 120) 4 (-1)) 5 (-1)) 6 0) 7 1) 8 1) 9 (-1)) 10 77) 11 (-1)) 12 (-1)) 13 0))), (x3, .inl (cI, 128, .inl (upd (upd (zfill (fun _ => 0) 128 (-1)) 120 0) 77 1)))]) (va_A [(h0, .inr (2, [.null, .int 0, .null, .null, .int 0, .int 0]))] sz)) 4 610 (va_A [(h0, .inr (2, [.null, .int 0, .null, .null, .int 0, .int 0]))] sz) := by
  refine Met.ofW (cc := b_Names_init) (maxL := 2) (ret := none) (by decide) rfl ?_
  intro p e s m args below meth c s₁ B hml hv
  obtain ⟨rfl, hsz, hP, ⟨hK, hN⟩, hD0⟩ := hv
  have hx := B.exec
  have hb := B.bytes
  have hr := B.returns
  have hts0 := atoms_spec (ws := zc y_Names_init b_Names_init 2 none) B.pre
  have hts : ∀ w ∈ zw, w.before _ s = true := fun w hw => hts0 w (List.mem_cons_of_mem _ hw)
  have hown : s.vm.findClass "ProofDesk$Names" = some m.cls := findClass_of_methodNamed B.named
  have hlocks := B.notSynchronized
  have hin : meth.name = "<init>" := (name_of_methodNamed B.named B.method).1
  subst hsz
  have hD := hD0.self (sz := s.heap.size)
  generalize hAe : va_A [(h0, .inr (2, [.null, .int 0, .null, .null, .int 0, .int 0]))] s.heap.size = A at hD ⊢
  have hA : ∀ q : Nat, s.heap.size ≤ q → A q := fun q h => by rw [← hAe]; exact Or.inr h
  have hS : va_S A s.heap s.heap [] := va_S.rf
  have hP : va_P D zcl [(h0, .inr (2, [.null, .int 0, .null, .null, .int 0, .int 0]))] s.heap := hP
  have hl := lv_entry ([.ref h0]) (n := 2) (Nat.le_of_ble_eq_true rfl)
  rw [lg_entry_eq]
  generalize (lg_sl ([.ref h0]) ++ List.replicate (2 - (lg_sl ([.ref h0])).length) Slot.unset).toArray = ls at hl ⊢
  have hl : lv_has ls 2 [(0, .ref h0)] := hl
  refine lv_aload_n hx hb d_Names_init_0 rfl (lv_at hl 0 rfl) ?_
  refine W.objInit hx hb hown (hts _ kw_91) (hts _ kw_31) (hts _ kw_32) rfl (by rw [hml]; exact hl.1) rfl d_Names_init_1 (Nat.le_of_ble_eq_true rfl) (Nat.le_of_ble_eq_true rfl) ?_
  refine W.eq (g2 := F0 m 4 ls []) rfl ?_
  refine lv_aload_n hx hb d_Names_init_4 rfl (lv_at hl 0 rfl) ?_
  refine lv_sipush (v := 256) hx hb d_Names_init_5 (by decide) ?_
  have hkc : 0 + 1 ≤ 4 := by omega
  have hks : 0 + 256 ≤ 610 := by omega
  refine zz_newa (atype := .byte) (ty := .byte) (cA := cB) (a0 := (256, .inl (fun _ => 0))) (N' := 256) hx hb (hts _ kw_163) rfl hK hP hD hS hA 1 rfl (fun _ => rfl) (by decide +kernel) (by decide +kernel) (by decide) hkc hks d_Names_init_8 (fun q_1 H hP hD hS => ?_)
  have hP : va_P D zcl [(h0, .inr (2, [.null, .int 0, .null, .null, .int 0, .int 0])), (q_1, .inl (cB, 256, .inl (fun _ => 0)))] H := hP
  have hD : va_D A [(h0, .inr (2, [.null, .int 0, .null, .null, .int 0, .int 0])), (q_1, .inl (cB, 256, .inl (fun _ => 0)))] := hD
  refine W.widen (k := 1) (n := 256) (by omega) (by omega) ?_
  refine va_put (D := D) (ci := 2) (v := .ref q_1) (ty := (.array .byte)) (C := "ProofDesk$Names") (T := F_Names) (N := 6) hx hb hts in_Names t_Names t_Names_ok n_Names hown hK hP hD hS 0 rfl rfl 0 (by decide) (hts _ kw_143) (fun _ h9 => h9) rfl (by decide +kernel) rfl rfl (Nat.le_of_ble_eq_true rfl) d_Names_init_10 (fun H locs hP hD hS => ?_)
  have hP : va_P D zcl [(h0, .inr (2, [.ref q_1, .int 0, .null, .null, .int 0, .int 0])), (q_1, .inl (cB, 256, .inl (fun _ => 0)))] H := hP
  have hD : va_D A [(h0, .inr (2, [.ref q_1, .int 0, .null, .null, .int 0, .int 0])), (q_1, .inl (cB, 256, .inl (fun _ => 0)))] := hD
  refine lv_aload_n hx hb d_Names_init_13 rfl (lv_at hl 0 rfl) ?_
  refine lv_sipush (v := 224) hx hb d_Names_init_14 (by decide) ?_
  have hkc : 1 + 1 ≤ 4 := by omega
  have hks : 256 + 224 ≤ 610 := by omega
  refine zz_newa (atype := .int) (ty := .int) (cA := cI) (a0 := (224, .inl (fun _ => 0))) (N' := 224) hx hb (hts _ kw_64) rfl hK hP hD hS hA 0 rfl (fun _ => rfl) (by decide +kernel) (by decide +kernel) (by decide) hkc hks d_Names_init_17 (fun q_2 H hP hD hS => ?_)
  have hP : va_P D zcl [(h0, .inr (2, [.ref q_1, .int 0, .null, .null, .int 0, .int 0])), (q_1, .inl (cB, 256, .inl (fun _ => 0))), (q_2, .inl (cI, 224, .inl (fun _ => 0)))] H := hP
  have hD : va_D A [(h0, .inr (2, [.ref q_1, .int 0, .null, .null, .int 0, .int 0])), (q_1, .inl (cB, 256, .inl (fun _ => 0))), (q_2, .inl (cI, 224, .inl (fun _ => 0)))] := hD
  refine W.widen (k := 2) (n := 480) (by omega) (by omega) ?_
  refine va_put (D := D) (ci := 2) (v := .ref q_2) (ty := (.array .int)) (C := "ProofDesk$Names") (T := F_Names) (N := 6) hx hb hts in_Names t_Names t_Names_ok n_Names hown hK hP hD hS 0 rfl rfl 2 (by decide) (hts _ kw_145) (fun _ h9 => h9) rfl (by decide +kernel) rfl rfl (Nat.le_of_ble_eq_true rfl) d_Names_init_19 (fun H locs hP hD hS => ?_)
  have hP : va_P D zcl [(h0, .inr (2, [.ref q_1, .int 0, .ref q_2, .null, .int 0, .int 0])), (q_1, .inl (cB, 256, .inl (fun _ => 0))), (q_2, .inl (cI, 224, .inl (fun _ => 0)))] H := hP
  have hD : va_D A [(h0, .inr (2, [.ref q_1, .int 0, .ref q_2, .null, .int 0, .int 0])), (q_1, .inl (cB, 256, .inl (fun _ => 0))), (q_2, .inl (cI, 224, .inl (fun _ => 0)))] := hD
  refine lv_aload_n hx hb d_Names_init_22 rfl (lv_at hl 0 rfl) ?_
  refine lv_sipush (v := 128) hx hb d_Names_init_23 (by decide) ?_
  have hkc : 2 + 1 ≤ 4 := by omega
  have hks : 480 + 128 ≤ 610 := by omega
  refine zz_newa (atype := .int) (ty := .int) (cA := cI) (a0 := (128, .inl (fun _ => 0))) (N' := 128) hx hb (hts _ kw_64) rfl hK hP hD hS hA 0 rfl (fun _ => rfl) (by decide +kernel) (by decide +kernel) (by decide) hkc hks d_Names_init_26 (fun q_3 H hP hD hS => ?_)
  have hP : va_P D zcl [(h0, .inr (2, [.ref q_1, .int 0, .ref q_2, .null, .int 0, .int 0])), (q_1, .inl (cB, 256, .inl (fun _ => 0))), (q_2, .inl (cI, 224, .inl (fun _ => 0))), (q_3, .inl (cI, 128, .inl (fun _ => 0)))] H := hP
  have hD : va_D A [(h0, .inr (2, [.ref q_1, .int 0, .ref q_2, .null, .int 0, .int 0])), (q_1, .inl (cB, 256, .inl (fun _ => 0))), (q_2, .inl (cI, 224, .inl (fun _ => 0))), (q_3, .inl (cI, 128, .inl (fun _ => 0)))] := hD
  refine W.widen (k := 3) (n := 608) (by omega) (by omega) ?_
  refine va_putF (D := D) (ci := 2) (v := .ref q_3) (ty := (.array .int)) (C := "ProofDesk$Names") (T := F_Names) (N := 6) hx hb hts in_Names t_Names t_Names_ok n_Names hown hK hP hD hS 0 rfl rfl 3 (by decide) (hts _ kw_146) (fun _ h9 => h9) rfl hin rfl (by decide +kernel) rfl rfl (Nat.le_of_ble_eq_true rfl) d_Names_init_28 (fun H locs hP hD hS => ?_)
  have hP : va_P D zcl [(h0, .inr (2, [.ref q_1, .int 0, .ref q_2, .ref q_3, .int 0, .int 0])), (q_1, .inl (cB, 256, .inl (fun _ => 0))), (q_2, .inl (cI, 224, .inl (fun _ => 0))), (q_3, .inl (cI, 128, .inl (fun _ => 0)))] H := hP
  have hD : va_D A [(h0, .inr (2, [.ref q_1, .int 0, .ref q_2, .ref q_3, .int 0, .int 0])), (q_1, .inl (cB, 256, .inl (fun _ => 0))), (q_2, .inl (cI, 224, .inl (fun _ => 0))), (q_3, .inl (cI, 128, .inl (fun _ => 0)))] := hD
  refine lv_aload_n hx hb d_Names_init_31 rfl (lv_at hl 0 rfl) ?_
  refine va_get (D := D) (ci := 2) (v := .ref q_3) (C := "ProofDesk$Names") (T := F_Names) (N := 6) hx hb hts in_Names hown hK hP 0 rfl rfl 3 (by decide) (hts _ kw_146) (fun _ h9 => h9) rfl d_Names_init_32 ?_
  refine lv_iconst (v := (-1)) hx hb d_Names_init_35 (by decide) ?_
  have hPc := hP.sub (ws' := [(q_3, .inl (cI, 128, .inl (fun _ => 0)))]) [3] rfl
  have hDc := hD.sub (ws' := [(q_3, .inl (cI, 128, .inl (fun _ => 0)))]) [3] (by decide +kernel) rfl
  have hFc := va_free (wc := [(q_3, .inl (cI, 128, .inl (fun _ => 0)))]) hD hS hA [3] rfl
  have hkc : 3 + 0 ≤ 4 := by omega
  have hks : 608 + 0 ≤ 610 := by omega
  refine va_callv (va_runS (As := [.ref q_3, .int (-1)]) (rest := []) ⟨hx, hb, hml, hown, hts⟩ (c_fill l D cI cB cZ cS H.size q_3 128 (fun _ => 0) (-1) (by decide)) (⟨callB_of 2 hts (zgood kw_94) rfl rfl rfl (hts _ kw_5) (hts _ kw_92) (by decide +kernel) ⟨Nat.le_of_ble_eq_true rfl, Nat.le_of_ble_eq_true rfl⟩, hts _ kw_93⟩) (zPreS hPc hK hN hDc) rfl rfl hl.1 rfl (lv_room (Nat.le_of_ble_eq_true rfl)) d_Names_init_36 ⟨hkc, hks⟩) hS (fun q _ h => hFc q h) hFc (fun u t H1 locs ht hvm hw hB hz1 hk1 hS => ?_)
  obtain ⟨hP1, hD1⟩ := hB
  rw [ht] at hP1
  obtain ⟨hP, hD⟩ := va_join (wr := [(h0, .inr (2, [.ref q_1, .int 0, .ref q_2, .ref q_3, .int 0, .int 0])), (q_1, .inl (cB, 256, .inl (fun _ => 0))), (q_2, .inl (cI, 224, .inl (fun _ => 0)))]) (w1 := [(q_3, .inl (cI, 128, .inl (zfill (fun _ => 0) 128 (-1))))]) hP hD [3] [0, 1, 2] rfl rfl (by decide +kernel) (by decide +kernel) hk1 hFc hP1 hD1
  generalize H1 = H at hP hS ⊢
  have hP : va_P D zcl [(h0, .inr (2, [.ref q_1, .int 0, .ref q_2, .ref q_3, .int 0, .int 0])), (q_1, .inl (cB, 256, .inl (fun _ => 0))), (q_2, .inl (cI, 224, .inl (fun _ => 0))), (q_3, .inl (cI, 128, .inl (zfill (fun _ => 0) 128 (-1))))] H := hP
  have hD : va_D A [(h0, .inr (2, [.ref q_1, .int 0, .ref q_2, .ref q_3, .int 0, .int 0])), (q_1, .inl (cB, 256, .inl (fun _ => 0))), (q_2, .inl (cI, 224, .inl (fun _ => 0))), (q_3, .inl (cI, 128, .inl (zfill (fun _ => 0) 128 (-1))))] := hD
  refine W.widen (k := 3) (n := 608) (by omega) (by omega) ?_
  refine lv_iconst (v := 2) hx hb d_Names_init_39 (by decide) ?_
  have hkc : 3 + 1 ≤ 4 := by omega
  have hks : 608 + 2 ≤ 610 := by omega
  refine zz_newa (atype := .byte) (ty := .byte) (cA := cB) (a0 := (2, .inl (fun _ => 0))) (N' := 2) hx hb (hts _ kw_163) rfl hK hP hD hS hA 1 rfl (fun _ => rfl) (by decide +kernel) (by decide +kernel) (by decide) hkc hks d_Names_init_40 (fun q_4 H hP hD hS => ?_)
  have hP : va_P D zcl [(h0, .inr (2, [.ref q_1, .int 0, .ref q_2, .ref q_3, .int 0, .int 0])), (q_1, .inl (cB, 256, .inl (fun _ => 0))), (q_2, .inl (cI, 224, .inl (fun _ => 0))), (q_3, .inl (cI, 128, .inl (zfill (fun _ => 0) 128 (-1)))), (q_4, .inl (cB, 2, .inl (fun _ => 0)))] H := hP
  have hD : va_D A [(h0, .inr (2, [.ref q_1, .int 0, .ref q_2, .ref q_3, .int 0, .int 0])), (q_1, .inl (cB, 256, .inl (fun _ => 0))), (q_2, .inl (cI, 224, .inl (fun _ => 0))), (q_3, .inl (cI, 128, .inl (zfill (fun _ => 0) 128 (-1)))), (q_4, .inl (cB, 2, .inl (fun _ => 0)))] := hD
  refine W.widen (k := 4) (n := 610) (by omega) (by omega) ?_
  refine lv_dup hx hb d_Names_init_42 rfl ?_
  refine lv_iconst (v := 0) hx hb d_Names_init_43 (by decide) ?_
  refine lv_bipush (v := 120) hx hb d_Names_init_44 (by decide) ?_
  refine zz_bast (y := 120) hx hb hK hP hD hS 4 1 rfl rfl (i := 0) (x := 120) 0 (⟨by decide +kernel, by decide +kernel, by decide +kernel⟩) (by decide +kernel) d_Names_init_46 (fun H locs hP hD hS => ?_)
  have hP : va_P D zcl [(h0, .inr (2, [.ref q_1, .int 0, .ref q_2, .ref q_3, .int 0, .int 0])), (q_1, .inl (cB, 256, .inl (fun _ => 0))), (q_2, .inl (cI, 224, .inl (fun _ => 0))), (q_3, .inl (cI, 128, .inl (zfill (fun _ => 0) 128 (-1)))), (q_4, .inl (cB, 2, .inl (upd (fun _ => 0) 0 120)))] H := hP
  have hD : va_D A [(h0, .inr (2, [.ref q_1, .int 0, .ref q_2, .ref q_3, .int 0, .int 0])), (q_1, .inl (cB, 256, .inl (fun _ => 0))), (q_2, .inl (cI, 224, .inl (fun _ => 0))), (q_3, .inl (cI, 128, .inl (zfill (fun _ => 0) 128 (-1)))), (q_4, .inl (cB, 2, .inl (upd (fun _ => 0) 0 120)))] := hD
  refine lv_dup hx hb d_Names_init_47 rfl ?_
  refine lv_iconst (v := 1) hx hb d_Names_init_48 (by decide) ?_
  refine lv_bipush (v := 77) hx hb d_Names_init_49 (by decide) ?_
  refine zz_bast (y := 77) hx hb hK hP hD hS 4 1 rfl rfl (i := 1) (x := 77) 1 (⟨by decide +kernel, by decide +kernel, by decide +kernel⟩) (by decide +kernel) d_Names_init_51 (fun H locs hP hD hS => ?_)
  have hP : va_P D zcl [(h0, .inr (2, [.ref q_1, .int 0, .ref q_2, .ref q_3, .int 0, .int 0])), (q_1, .inl (cB, 256, .inl (fun _ => 0))), (q_2, .inl (cI, 224, .inl (fun _ => 0))), (q_3, .inl (cI, 128, .inl (zfill (fun _ => 0) 128 (-1)))), (q_4, .inl (cB, 2, .inl (upd (upd (fun _ => 0) 0 120) 1 77)))] H := hP
  have hD : va_D A [(h0, .inr (2, [.ref q_1, .int 0, .ref q_2, .ref q_3, .int 0, .int 0])), (q_1, .inl (cB, 256, .inl (fun _ => 0))), (q_2, .inl (cI, 224, .inl (fun _ => 0))), (q_3, .inl (cI, 128, .inl (zfill (fun _ => 0) 128 (-1)))), (q_4, .inl (cB, 2, .inl (upd (upd (fun _ => 0) 0 120) 1 77)))] := hD
  refine lv_astore_n (lv' := [(1, .ref q_4), (0, .ref h0)]) hx hb d_Names_init_52 rfl hl (by decide) rfl (fun ls hl => ?_)
  refine lv_aload_n hx hb d_Names_init_53 rfl (lv_at hl 1 rfl) ?_
  refine lv_aload_n hx hb d_Names_init_54 rfl (lv_at hl 0 rfl) ?_
  refine lv_iconst (v := 0) hx hb d_Names_init_55 (by decide) ?_
  refine lv_iconst (v := 1) hx hb d_Names_init_56 (by decide) ?_
  have hPc := hP.sub (ws' := [(h0, .inr (2, [.ref q_1, .int 0, .ref q_2, .ref q_3, .int 0, .int 0])), (q_1, .inl (cB, 256, .inl (fun _ => 0))), (q_2, .inl (cI, 224, .inl (fun _ => 0))), (q_3, .inl (cI, 128, .inl (zfill (fun _ => 0) 128 (-1)))), (q_4, .inl (cB, 2, .inl (upd (upd (fun _ => 0) 0 120) 1 77)))]) [0, 1, 2, 3, 4] rfl
  have hDc := hD.sub (ws' := [(h0, .inr (2, [.ref q_1, .int 0, .ref q_2, .ref q_3, .int 0, .int 0])), (q_1, .inl (cB, 256, .inl (fun _ => 0))), (q_2, .inl (cI, 224, .inl (fun _ => 0))), (q_3, .inl (cI, 128, .inl (zfill (fun _ => 0) 128 (-1)))), (q_4, .inl (cB, 2, .inl (upd (upd (fun _ => 0) 0 120) 1 77)))]) [0, 1, 2, 3, 4] (by decide +kernel) rfl
  have hFc := va_free (wc := [(h0, .inr (2, [.ref q_1, .int 0, .ref q_2, .ref q_3, .int 0, .int 0])), (q_1, .inl (cB, 256, .inl (fun _ => 0))), (q_2, .inl (cI, 224, .inl (fun _ => 0))), (q_3, .inl (cI, 128, .inl (zfill (fun _ => 0) 128 (-1)))), (q_4, .inl (cB, 2, .inl (upd (upd (fun _ => 0) 0 120) 1 77)))]) hD hS hA [0, 1, 2, 3, 4] rfl
  have hkc : 4 + 0 ≤ 4 := by omega
  have hks : 610 + 0 ≤ 610 := by omega
  refine va_calli (va_runV (As := [.ref q_4, .int 0, .int 1]) (rest := []) ⟨hx, hb, hml, hown, hts⟩ (c_Names_intern0 l D cI cB cZ cS H.size h0 q_1 q_2 q_3 q_4) (⟨callB_of 3 hts (zgood kw_98) rfl rfl rfl (hts _ kw_4) (hts _ kw_95) (by decide +kernel) ⟨Nat.le_of_ble_eq_true rfl, Nat.le_of_ble_eq_true rfl⟩, hts _ kw_96, hts _ kw_97⟩) (zPreV hPc hK hN hDc (va_recv (q := ("ProofDesk$Names", F_Names, 6)) hK hP rfl (q0 := 0) rfl)) rfl rfl hl.1 rfl (lv_room (Nat.le_of_ble_eq_true rfl)) d_Names_init_57 ⟨hkc, hks⟩) hS (fun q _ h => hFc q h) hFc (fun r u t H1 locs ht hvm hw hB hz1 hk1 hS => ?_)
  obtain ⟨hP1, hD1⟩ := hB
  rw [ht] at hP1
  obtain ⟨hP, hD⟩ := va_join (wr := []) (w1 := [(h0, .inr (2, [.ref q_1, .int 1, .ref q_2, .ref q_3, .int 1, .int 0])), (q_1, .inl (cB, 256, .inl (upd (fun _ => 0) 0 120))), (q_2, .inl (cI, 224, .inl (upd (upd (upd (upd (upd (upd (upd (fun _ => 0) 0 0) 1 1) 2 (-1)) 3 120) 4 (-1)) 5 (-1)) 6 0))), (q_3, .inl (cI, 128, .inl (upd (zfill (fun _ => 0) 128 (-1)) 120 0))), (q_4, .inl (cB, 2, .inl (upd (upd (fun _ => 0) 0 120) 1 77)))]) hP hD [0, 1, 2, 3, 4] [] rfl rfl (by decide +kernel) (by decide +kernel) hk1 hFc hP1 hD1
  generalize H1 = H at hP hS ⊢
  have hP : va_P D zcl [(h0, .inr (2, [.ref q_1, .int 1, .ref q_2, .ref q_3, .int 1, .int 0])), (q_1, .inl (cB, 256, .inl (upd (fun _ => 0) 0 120))), (q_2, .inl (cI, 224, .inl (upd (upd (upd (upd (upd (upd (upd (fun _ => 0) 0 0) 1 1) 2 (-1)) 3 120) 4 (-1)) 5 (-1)) 6 0))), (q_3, .inl (cI, 128, .inl (upd (zfill (fun _ => 0) 128 (-1)) 120 0))), (q_4, .inl (cB, 2, .inl (upd (upd (fun _ => 0) 0 120) 1 77)))] H := hP
  have hD : va_D A [(h0, .inr (2, [.ref q_1, .int 1, .ref q_2, .ref q_3, .int 1, .int 0])), (q_1, .inl (cB, 256, .inl (upd (fun _ => 0) 0 120))), (q_2, .inl (cI, 224, .inl (upd (upd (upd (upd (upd (upd (upd (fun _ => 0) 0 0) 1 1) 2 (-1)) 3 120) 4 (-1)) 5 (-1)) 6 0))), (q_3, .inl (cI, 128, .inl (upd (zfill (fun _ => 0) 128 (-1)) 120 0))), (q_4, .inl (cB, 2, .inl (upd (upd (fun _ => 0) 0 120) 1 77)))] := hD
  subst hw
  refine W.widen (k := 4) (n := 610) (by omega) (by omega) ?_
  refine lv_pop hx hb d_Names_init_60 rfl ?_
  refine lv_aload_n hx hb d_Names_init_61 rfl (lv_at hl 1 rfl) ?_
  refine lv_aload_n hx hb d_Names_init_62 rfl (lv_at hl 0 rfl) ?_
  refine lv_iconst (v := 1) hx hb d_Names_init_63 (by decide) ?_
  refine lv_iconst (v := 2) hx hb d_Names_init_64 (by decide) ?_
  have hPc := hP.sub (ws' := [(h0, .inr (2, [.ref q_1, .int 1, .ref q_2, .ref q_3, .int 1, .int 0])), (q_1, .inl (cB, 256, .inl (upd (fun _ => 0) 0 120))), (q_2, .inl (cI, 224, .inl (upd (upd (upd (upd (upd (upd (upd (fun _ => 0) 0 0) 1 1) 2 (-1)) 3 120) 4 (-1)) 5 (-1)) 6 0))), (q_3, .inl (cI, 128, .inl (upd (zfill (fun _ => 0) 128 (-1)) 120 0))), (q_4, .inl (cB, 2, .inl (upd (upd (fun _ => 0) 0 120) 1 77)))]) [0, 1, 2, 3, 4] rfl
  have hDc := hD.sub (ws' := [(h0, .inr (2, [.ref q_1, .int 1, .ref q_2, .ref q_3, .int 1, .int 0])), (q_1, .inl (cB, 256, .inl (upd (fun _ => 0) 0 120))), (q_2, .inl (cI, 224, .inl (upd (upd (upd (upd (upd (upd (upd (fun _ => 0) 0 0) 1 1) 2 (-1)) 3 120) 4 (-1)) 5 (-1)) 6 0))), (q_3, .inl (cI, 128, .inl (upd (zfill (fun _ => 0) 128 (-1)) 120 0))), (q_4, .inl (cB, 2, .inl (upd (upd (fun _ => 0) 0 120) 1 77)))]) [0, 1, 2, 3, 4] (by decide +kernel) rfl
  have hFc := va_free (wc := [(h0, .inr (2, [.ref q_1, .int 1, .ref q_2, .ref q_3, .int 1, .int 0])), (q_1, .inl (cB, 256, .inl (upd (fun _ => 0) 0 120))), (q_2, .inl (cI, 224, .inl (upd (upd (upd (upd (upd (upd (upd (fun _ => 0) 0 0) 1 1) 2 (-1)) 3 120) 4 (-1)) 5 (-1)) 6 0))), (q_3, .inl (cI, 128, .inl (upd (zfill (fun _ => 0) 128 (-1)) 120 0))), (q_4, .inl (cB, 2, .inl (upd (upd (fun _ => 0) 0 120) 1 77)))]) hD hS hA [0, 1, 2, 3, 4] rfl
  have hkc : 4 + 0 ≤ 4 := by omega
  have hks : 610 + 0 ≤ 610 := by omega
  refine va_calli (va_runV (As := [.ref q_4, .int 1, .int 2]) (rest := []) ⟨hx, hb, hml, hown, hts⟩ (c_Names_intern1 l D cI cB cZ cS H.size h0 q_1 q_2 q_3 q_4) (⟨callB_of 3 hts (zgood kw_98) rfl rfl rfl (hts _ kw_4) (hts _ kw_95) (by decide +kernel) ⟨Nat.le_of_ble_eq_true rfl, Nat.le_of_ble_eq_true rfl⟩, hts _ kw_96, hts _ kw_97⟩) (zPreV hPc hK hN hDc (va_recv (q := ("ProofDesk$Names", F_Names, 6)) hK hP rfl (q0 := 0) rfl)) rfl rfl hl.1 rfl (lv_room (Nat.le_of_ble_eq_true rfl)) d_Names_init_65 ⟨hkc, hks⟩) hS (fun q _ h => hFc q h) hFc (fun r u t H1 locs ht hvm hw hB hz1 hk1 hS => ?_)
  obtain ⟨hP1, hD1⟩ := hB
  rw [ht] at hP1
  obtain ⟨hP, hD⟩ := va_join (wr := []) (w1 := [(h0, .inr (2, [.ref q_1, .int 2, .ref q_2, .ref q_3, .int 2, .int 0])), (q_1, .inl (cB, 256, .inl (upd (upd (fun _ => 0) 0 120) 1 77))), (q_2, .inl (cI, 224, .inl (upd (upd (upd (upd (upd (upd (upd (upd (upd (upd (upd (upd (upd (upd (fun _ => 0) 0 0) 1 1) 2 (-1)) 3 120) 4 (-1)) 5 (-1)) 6 0) 7 1) 8 1) 9 (-1)) 10 77) 11 (-1)) 12 (-1)) 13 0))), (q_3, .inl (cI, 128, .inl (upd (upd (zfill (fun _ => 0) 128 (-1)) 120 0) 77 1))), (q_4, .inl (cB, 2, .inl (upd (upd (fun _ => 0) 0 120) 1 77)))]) hP hD [0, 1, 2, 3, 4] [] rfl rfl (by decide +kernel) (by decide +kernel) hk1 hFc hP1 hD1
  generalize H1 = H at hP hS ⊢
  have hP : va_P D zcl [(h0, .inr (2, [.ref q_1, .int 2, .ref q_2, .ref q_3, .int 2, .int 0])), (q_1, .inl (cB, 256, .inl (upd (upd (fun _ => 0) 0 120) 1 77))), (q_2, .inl (cI, 224, .inl (upd (upd (upd (upd (upd (upd (upd (upd (upd (upd (upd (upd (upd (upd (fun _ => 0) 0 0) 1 1) 2 (-1)) 3 120) 4 (-1)) 5 (-1)) 6 0) 7 1) 8 1) 9 (-1)) 10 77) 11 (-1)) 12 (-1)) 13 0))), (q_3, .inl (cI, 128, .inl (upd (upd (zfill (fun _ => 0) 128 (-1)) 120 0) 77 1))), (q_4, .inl (cB, 2, .inl (upd (upd (fun _ => 0) 0 120) 1 77)))] H := hP
  have hD : va_D A [(h0, .inr (2, [.ref q_1, .int 2, .ref q_2, .ref q_3, .int 2, .int 0])), (q_1, .inl (cB, 256, .inl (upd (upd (fun _ => 0) 0 120) 1 77))), (q_2, .inl (cI, 224, .inl (upd (upd (upd (upd (upd (upd (upd (upd (upd (upd (upd (upd (upd (upd (fun _ => 0) 0 0) 1 1) 2 (-1)) 3 120) 4 (-1)) 5 (-1)) 6 0) 7 1) 8 1) 9 (-1)) 10 77) 11 (-1)) 12 (-1)) 13 0))), (q_3, .inl (cI, 128, .inl (upd (upd (zfill (fun _ => 0) 128 (-1)) 120 0) 77 1))), (q_4, .inl (cB, 2, .inl (upd (upd (fun _ => 0) 0 120) 1 77)))] := hD
  subst hw
  refine W.widen (k := 4) (n := 610) (by omega) (by omega) ?_
  refine lv_pop hx hb d_Names_init_68 rfl ?_
  have hP9 := hP.sub (ws' := [(h0, .inr (2, [.ref q_1, .int 2, .ref q_2, .ref q_3, .int 2, .int 0])), (q_1, .inl (cB, 256, .inl (upd (upd (fun _ => 0) 0 120) 1 77))), (q_2, .inl (cI, 224, .inl (upd (upd (upd (upd (upd (upd (upd (upd (upd (upd (upd (upd (upd (upd (fun _ => 0) 0 0) 1 1) 2 (-1)) 3 120) 4 (-1)) 5 (-1)) 6 0) 7 1) 8 1) 9 (-1)) 10 77) 11 (-1)) 12 (-1)) 13 0))), (q_3, .inl (cI, 128, .inl (upd (upd (zfill (fun _ => 0) 128 (-1)) 120 0) 77 1)))]) [0, 1, 2, 3] rfl
  have hD9 := hD.sub (ws' := [(h0, .inr (2, [.ref q_1, .int 2, .ref q_2, .ref q_3, .int 2, .int 0])), (q_1, .inl (cB, 256, .inl (upd (upd (fun _ => 0) 0 120) 1 77))), (q_2, .inl (cI, 224, .inl (upd (upd (upd (upd (upd (upd (upd (upd (upd (upd (upd (upd (upd (upd (fun _ => 0) 0 0) 1 1) 2 (-1)) 3 120) 4 (-1)) 5 (-1)) 6 0) 7 1) 8 1) 9 (-1)) 10 77) 11 (-1)) 12 (-1)) 13 0))), (q_3, .inl (cI, 128, .inl (upd (upd (zfill (fun _ => 0) 128 (-1)) 120 0) 77 1)))]) [0, 1, 2, 3] (by decide +kernel) rfl
  refine W.widen (k := 4) (n := 610) (by omega) (by omega) ?_
  exact W.vret hx hb hr (fun t ht hW => ⟨⟨(), rfl, trivial, q_1, q_2, q_3, by rw [ht]; exact hP9, hD9⟩, hS.F ht⟩) hS.2.2 d_Names_init_69
