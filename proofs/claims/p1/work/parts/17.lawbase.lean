theorem d_law_18 : decode code 18 = .ok (.iload_n 3, 1) := by decide +kernel
theorem d_law_19 : decode code 19 = .ok (.aload_n 0, 1) := by decide +kernel
theorem d_law_20 : decode code 20 = .ok (.arraylength, 1) := by decide +kernel
theorem d_law_21 : decode code 21 = .ok (.bipush 6, 2) := by decide +kernel
theorem d_law_23 : decode code 23 = .ok (.isub, 1) := by decide +kernel
theorem d_law_24 : decode code 24 = .ok (.if_icmp .gt 421, 3) := by decide +kernel
theorem d_law_445 : decode code 445 = .ok (.iconst 1, 1) := by decide +kernel
theorem d_law_446 : decode code 446 = .ok (.ireturn, 1) := by decide +kernel
/-! the law's walk: what it stands on -/
def zL (p : Program) (s : State) (m : MethodId) (meth : Method) (c : Code) (b L : Nat) (xs : Nat → Int32) (D : va_G) (tys : List (ClassId × FieldType)) : Prop :=
  p.tables.exec = Jvm.exec ∧ c.code = code ∧ meth.sig.returnType = ret ∧ c.maxLocals = 4 ∧ s.vm.findClass "ProofDeskLaw" = some m.cls ∧ (∀ w ∈ zw, w.before #[Value.ref b] s = true) ∧ zN s ∧ va_K D zcl tys s ∧ va_X b L xs s s.heap ∧ b < s.heap.size ∧ meth.locks = false
theorem zArr {args : Array Value} {s : State} {ty : FieldType} (h : (Cond.arrayClass ty).before args s = true) : ∃ cA : ClassId, ArrOfT s cA ty ∧ s.vm.findClass ("[" ++ ty.toString) = some cA := by
  obtain ⟨cA, kA, comp, h1, h2, h3⟩ := Cond.arrayClass_spec h
  exact ⟨cA, fun n z => ⟨fun k h => (by cases h), kA, h2, comp, h3⟩, h1⟩
theorem zArrS {s : State} {C : String} (h : va_AO C s) : ∃ cA : ClassId, ArrOfT s cA (.object C) ∧ va_RA s cA (.object C) := by
  obtain ⟨comp, cA, kA, h1, -, h3, h4, h5⟩ := Cond.arrayOver_spec h
  exact ⟨cA, fun n z => ⟨fun k h => (by cases h), kA, h3, comp, h4⟩, kA, comp, h3, h4, h1, h5⟩
theorem zStr {args : Array Value} {s : State} {own tx : String} {k : Nat} (h1 : (Cond.stringRef own k tx).before args s = true) (h2 : (Cond.exactly (Term.string own k) "java/lang/String").before args s = true) : ∃ a : Nat, vk_R own k tx a s ∧ ∃ cell : Cell, s.heap[a]? = some cell ∧ cell.vm.isStatics = false ∧ s.vm.findClass "java/lang/String" = some cell.cls := by
  obtain ⟨a, cc, cell, kk, q1, q2, q3, q4, q5, q6, -⟩ := Cond.exactly_spec (args := args) (first := s) (o := none) (s := s) (idx := []) (t := Term.string own k) (cls := "java/lang/String") h2
  exact ⟨a, vk_R.of h1 q1, cell, q3, q5, by rw [q6]; exact q2⟩
theorem zE_at {s : State} {H : Heap} {locs : List Loc} {ad : Nat → Nat} {h0 : Nat} (hAO : va_AO "java/lang/String" s) (had : ∀ i : Nat, i < 11 → vk_R "ProofDeskModel" (zsi i) (zst i) (ad i) s ∧ ∃ cell : Cell, s.heap[ad i]? = some cell ∧ cell.vm.isStatics = false ∧ s.vm.findClass "java/lang/String" = some cell.cls) (hS : va_S (fun q => s.heap.size ≤ q) s.heap H locs) (hh : s.heap.size ≤ h0) : ∀ U : State, U.heap = H → s.WarmedH U.vm → zE ad H.size h0 U := by
  intro U hU hW
  refine ⟨va_AO.moved hW.alike hAO, fun i hi => ?_⟩
  obtain ⟨h1, cell, h2, h3, h4⟩ := had i hi
  have hlt : ad i < s.heap.size := (Array.getElem?_eq_some_iff.mp h2).1
  have hle := hS.1
  exact ⟨h1.warm hW, ⟨cell, by rw [hU, hS.2.1 _ hlt (by omega)]; exact h2, h3, by rw [hW.alike.findClass]; exact h4⟩, by omega, by omega⟩
theorem zK_of {D : va_G} {s : State} {cI cB cZ cS : ClassId} (hD : ∀ (c : Nat) (q : vw_C), zcl[c]? = some q → u_Kn s q.1 q.2.1 q.2.2 (D.1 c) (D.2 c)) (hI : ArrOfT s cI .int ∧ va_RA s cI .int) (hB : ArrOfT s cB .byte ∧ va_RA s cB .byte) (hZ : ArrOfT s cZ .boolean ∧ va_RA s cZ .boolean) (hT : ArrOfT s cS (.object "java/lang/String") ∧ va_RA s cS (.object "java/lang/String")) : va_K D zcl (zty cI cB cZ cS) s := by
  refine ⟨hD, fun k q hq => ?_⟩
  match k, hq with
  | 0, hq => cases hq; exact hI
  | 1, hq => cases hq; exact hB
  | 2, hq => cases hq; exact hZ
  | 3, hq => cases hq; exact hT
  | k + 4, hq => simp at hq
theorem zshort : ∀ L : Nat, L < 6 → (Int32.ofNat L - 6 : Int32) < 0 := by decide +kernel
theorem zge {x : Int32} (h : ¬ x < 0) : 0 ≤ x := Int32.not_lt.mp h
theorem zn1 {x : Int32} (h : ¬ x < 1) : ¬ x ≤ 0 := fun h2 => h (Int32.lt_of_le_of_lt h2 (by decide))
theorem zpos {x : Int32} (h : ¬ x < 0) (h2 : ¬ x = 0) : 0 < x := by
  rw [Int32.lt_iff_toInt_lt]
  rw [Int32.lt_iff_toInt_lt] at h
  have h3 : ¬ x.toInt = (0 : Int32).toInt := fun q => h2 (Int32.toInt_inj.mp q)
  have h0 : (0 : Int32).toInt = 0 := by decide
  omega
theorem law_tail {p : Program} {l : Launch} {e : Env} {s : State} {m : MethodId} {below : List Frame} {meth : Method} {c : Code} {b : Nat} {xs : Nat → Int32} (D : va_G) (cI cB cZ cS : ClassId) {H : Heap} {locs : List Loc} {ls : Array Slot} {C0 S0 : Nat} (Z : zL p s m meth c b 6 xs D (zty cI cB cZ cS)) (hS : va_S (fun q => s.heap.size ≤ q) s.heap H locs) (hl : lv_has ls 4 [(3, .int 6), (0, .ref b)]) (hC : C0 ≤ 600000) (hQ : S0 ≤ 7302250) : W p l e room_1 s m #[Value.ref b] below meth c H locs C0 S0 (lw_Z below #[Value.ref b] s) (F0 m 18 ls []) := by
  obtain ⟨hx, hb, hr, hml, hown, hts, hN, hK, hX, hbl, hlocks⟩ := Z
  have hA : ∀ q : Nat, s.heap.size ≤ q → (fun q => s.heap.size ≤ q) q := fun q h => h
  have hbA : ¬ (fun q => s.heap.size ≤ q) b := by show ¬ s.heap.size ≤ b; omega
  have hl : lv_has ls 4 [(3, .int 6), (0, .ref b)] := hl
  refine lv_iload_n hx hb d_law_18 rfl (lv_at hl 0 rfl) ?_
  refine lv_aload_n hx hb d_law_19 rfl (lv_at hl 1 rfl) ?_
  refine va_slen hx hb hX hbl hbA hS d_law_20 ?_
  refine zz_i (y := 6) (by decide +kernel) ?_
  refine lv_bipush (v := 6) hx hb d_law_21 (by decide) ?_
  refine lv_isub hx hb d_law_23 ?_
  refine zz_i (y := 0) (by decide +kernel) ?_
  have hc_1 : (0 : Int32) < 6 := by decide +kernel
  refine lv_icmp_gt hx hb d_law_24 rfl (fun _ => ?_) (fun h => absurd hc_1 h)
  refine lv_iconst (v := 1) hx hb d_law_445 (by decide) ?_
  refine va_forget (fun q hq => hS.2.2 q hq) ?_
  refine W.widen (k := 600000) (n := 7302250) hC hQ ?_
  exact lw_ret hx hb hr hlocks d_law_446
theorem law_short {p : Program} {l : Launch} {e : Env} {s : State} {m : MethodId} {below : List Frame} {meth : Method} {c : Code} {b : Nat} {xs : Nat → Int32} (D : va_G) (cI cB cZ cS : ClassId) {H : Heap} {locs : List Loc} {ls : Array Slot} {C0 S0 : Nat} {L : Nat} (hL : L < 6) (Z : zL p s m meth c b L xs D (zty cI cB cZ cS)) (hS : va_S (fun q => s.heap.size ≤ q) s.heap H locs) (hl : lv_has ls 4 [(3, .int 0), (0, .ref b)]) (hC : C0 ≤ 600000) (hQ : S0 ≤ 7302250) : W p l e room_1 s m #[Value.ref b] below meth c H locs C0 S0 (lw_Z below #[Value.ref b] s) (F0 m 18 ls []) := by
  obtain ⟨hx, hb, hr, hml, hown, hts, hN, hK, hX, hbl, hlocks⟩ := Z
  have hA : ∀ q : Nat, s.heap.size ≤ q → (fun q => s.heap.size ≤ q) q := fun q h => h
  have hbA : ¬ (fun q => s.heap.size ≤ q) b := by show ¬ s.heap.size ≤ b; omega
  have hl : lv_has ls 4 [(3, .int 0), (0, .ref b)] := hl
  refine lv_iload_n hx hb d_law_18 rfl (lv_at hl 0 rfl) ?_
  refine lv_aload_n hx hb d_law_19 rfl (lv_at hl 1 rfl) ?_
  refine va_slen hx hb hX hbl hbA hS d_law_20 ?_
  refine zz_i (y := Int32.ofNat L) (rfl) ?_
  refine lv_bipush (v := 6) hx hb d_law_21 (by decide) ?_
  refine lv_isub hx hb d_law_23 ?_
  have hc_1 : (((Int32.ofNat L) - 6) : Int32) < 0 := zshort L hL
  refine lv_icmp_gt hx hb d_law_24 rfl (fun _ => ?_) (fun h => absurd hc_1 h)
  refine lv_iconst (v := 1) hx hb d_law_445 (by decide) ?_
  refine va_forget (fun q hq => hS.2.2 q hq) ?_
  refine W.widen (k := 600000) (n := 7302250) hC hQ ?_
  exact lw_ret hx hb hr hlocks d_law_446
