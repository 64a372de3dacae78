set_option maxHeartbeats 4000000 in
set_option maxRecDepth 100000 in
theorem g_Names_bucketOf (l : Launch) (D : va_G) (cI cB cZ cS : ClassId) (sz : Nat) (q : Nat) (n : Nat) (f : Nat → Int32) (a : Nat) (N : Nat) (hn : a + N ≤ n) (hM : n ≤ 33554432) : Met l y_Names_bucketOf (zc y_Names_bucketOf b_Names_bucketOf 5 (some .int)) ({ frames := 0, cells := 0, slots := 0, locals := 0 }) (zPc D (zty cI cB cZ cS) [(q, .inl (cB, n, .inl f))] sz [.ref q, .int (nI a), .int (nI (a + N))]) (va_Qi (fun (r : Int32) (_ : Unit) => r = ((zhash f a N) &&& 127)) (fun _ t => va_P D zcl [(q, .inl (cB, n, .inl f))] t.heap ∧ va_D (va_A [(q, .inl (cB, n, .inl f))] sz) [(q, .inl (cB, n, .inl f))]) (va_A [(q, .inl (cB, n, .inl f))] sz)) 0 0 (va_A [(q, .inl (cB, n, .inl f))] sz) := by
  refine Met.ofW (cc := b_Names_bucketOf) (maxL := 5) (ret := (some .int)) (by decide) rfl ?_
  intro p e s m args below meth c s₁ B hml hv
  obtain ⟨rfl, hsz, hP, ⟨hK, hN⟩, hD0⟩ := hv
  have hx := B.exec
  have hb := B.bytes
  have hr := B.returns
  have hts0 := atoms_spec (ws := zc y_Names_bucketOf b_Names_bucketOf 5 (some .int)) B.pre
  have hts : ∀ w ∈ zw, w.before _ s = true := fun w hw => hts0 w (List.mem_cons_of_mem _ hw)
  have hown : s.vm.findClass "ProofDesk$Names" = some m.cls := findClass_of_methodNamed B.named
  have hlocks := B.notSynchronized
  subst hsz
  have hD := hD0.self (sz := s.heap.size)
  generalize hAe : va_A [(q, .inl (cB, n, .inl f))] s.heap.size = A at hD ⊢
  have hA : ∀ q : Nat, s.heap.size ≤ q → A q := fun q h => by rw [← hAe]; exact Or.inr h
  have hS : va_S A s.heap s.heap [] := va_S.rf
  have hP : va_P D zcl [(q, .inl (cB, n, .inl f))] s.heap := hP
  have hl := lv_entry ([.ref q, .int (nI a), .int (nI (a + N))]) (n := 5) (Nat.le_of_ble_eq_true rfl)
  rw [lg_entry_eq]
  generalize (lg_sl ([.ref q, .int (nI a), .int (nI (a + N))]) ++ List.replicate (5 - (lg_sl ([.ref q, .int (nI a), .int (nI (a + N))])).length) Slot.unset).toArray = ls at hl ⊢
  have hl : lv_has ls 5 [(0, .ref q), (1, .int (nI a)), (2, .int (nI (a + N)))] := hl
  refine lv_iconst (v := 0) hx hb d_Names_bucketOf_0 (by decide) ?_
  refine lv_istore_n (lv' := [(3, .int 0), (0, .ref q), (1, .int (nI a)), (2, .int (nI (a + N)))]) hx hb d_Names_bucketOf_1 rfl hl (by decide) rfl (fun ls hl => ?_)
  refine lv_iload_n hx hb d_Names_bucketOf_2 rfl (lv_at hl 2 rfl) ?_
  refine lv_istore (lv' := [(4, .int (nI a)), (3, .int 0), (0, .ref q), (1, .int (nI a)), (2, .int (nI (a + N)))]) hx hb d_Names_bucketOf_3 hl (by decide) rfl (fun ls hl => ?_)
  have hl : lv_has ls 5 [(4, .int (nI (a + 0))), (3, .int (zhash f a 0)), (0, .ref q), (1, .int (nI a)), (2, .int (nI (a + N)))] := lv_sub hl [0, 1, 2, 3, 4] rfl
  have hP : va_P D zcl [(q, .inl (cB, n, .inl f))] s.heap := hP
  have hD : va_D A [(q, .inl (cB, n, .inl f))] := hD
  refine lp_bucketOf hx hb hts hN hown hK q n f a N hn hM (fun H locs ls hP hD hS hl => ?_) N 0 _ _ _ (by omega) hP hD hS hl
  refine lv_iload_n hx hb d_Names_bucketOf_27 rfl (lv_at hl 1 rfl) ?_
  refine lv_bipush (v := 127) hx hb d_Names_bucketOf_28 (by decide) ?_
  refine lv_iand hx hb d_Names_bucketOf_30 ?_
  have hP9 := hP.sub (ws' := [(q, .inl (cB, n, .inl f))]) [0] rfl
  have hD9 := hD.sub (ws' := [(q, .inl (cB, n, .inl f))]) [0] (by decide +kernel) rfl
  refine W.widen (k := 0) (n := 0) (by omega) (by omega) ?_
  exact W.iret (v := ((zhash f a N) &&& 127)) hx hb hr (fun t ht hW => ⟨⟨((zhash f a N) &&& 127), (), rfl, rfl, by rw [ht]; exact hP9, hD9⟩, hS.F ht⟩) hS.2.2 d_Names_bucketOf_31
