/-! String constants of the reference's constructor: where they lie, and that they stay -/
def zsi : Nat → Nat := fun i => [242, 244, 246, 248, 250, 252, 254, 256, 258, 260, 262].getD i 0
def zst : Nat → String := fun i => ["\x61xiom", "def", "lemma", "data", "check", "norm", "fun", "all", "let", "in", "rec"].getD i ""
def zE (ad : Nat → Nat) (sz h0 : Nat) (U : State) : Prop := va_AO "java/lang/String" U ∧ ∀ i : Nat, i < 11 → vk_R "ProofDeskModel" (zsi i) (zst i) (ad i) U ∧ (∃ cell : Cell, U.heap[ad i]? = some cell ∧ cell.vm.isStatics = false ∧ U.vm.findClass "java/lang/String" = some cell.cls) ∧ ad i < sz ∧ ad i ≠ h0
theorem zE.moved {ad : Nat → Nat} {sz h0 : Nat} {s U : State} (hW : s.WarmedH U.vm) (hH : U.heap = s.heap) (h : zE ad sz h0 s) : zE ad sz h0 U := by
  refine ⟨va_AO.moved hW.alike h.1, fun i hi => ?_⟩
  obtain ⟨h1, ⟨cell, h2, h3, h4⟩, h5⟩ := h.2 i hi
  exact ⟨h1.warm hW, ⟨cell, by rw [hH]; exact h2, h3, by rw [hW.alike.findClass]; exact h4⟩, h5⟩
theorem zE.same {ad : Nat → Nat} {sz h0 : Nat} {s U : State} (hv : U.vm = s.vm) (hH : U.heap = s.heap) (h : zE ad sz h0 s) : zE ad sz h0 U := by
  refine ⟨va_AO.moved (by rw [hv]; exact Vm.Alike.refl _) h.1, fun i hi => ?_⟩
  obtain ⟨h1, ⟨cell, h2, h3, h4⟩, h5⟩ := h.2 i hi
  exact ⟨h1.same hv, ⟨cell, by rw [hH]; exact h2, h3, by rw [hv]; exact h4⟩, h5⟩
def zPcE (E : State → Prop) (D : va_G) (tys : List (ClassId × FieldType)) (ws : va_W) (sz : Nat) (av : List Value) : Array Value → State → Prop := va_Pc av (fun U => U.heap.size = sz ∧ va_P D zcl ws U.heap ∧ (va_K D zcl tys U ∧ zN U) ∧ va_D (fun _ => True) ws ∧ E U)
theorem zPreE {s : State} {H : Heap} {D : va_G} {tys : List (ClassId × FieldType)} {wc : va_W} {A : Nat → Prop} {av : List Value} {ad : Nat → Nat} {h0 : Nat} (hP : va_P D zcl wc H) (hK : va_K D zcl tys s) (hN : zN s) (hD : va_D A wc) (hE : ∀ U : State, U.heap = H → s.WarmedH U.vm → zE ad H.size h0 U) : PreS s H (zPcE (zE ad H.size h0) D tys wc H.size av) av :=
  ⟨fun a U g mk q => by
    obtain ⟨q0, q1, qP, ⟨qK, qN⟩, qD, qE⟩ := q
    exact ⟨q0, q1, qP, ⟨va_K.moved (u := U) (U := U.calling g mk a) (Vm.Alike.refl U.vm) qK, zN.same (u := U) (U := U.calling g mk a) rfl qN⟩, qD, zE.same (s := U) (U := U.calling g mk a) rfl rfl qE⟩,
   fun U hU hW => ⟨rfl, by rw [hU], by rw [hU]; exact hP, ⟨va_K.moved hW.alike hK, hN.warm hW⟩, hD.weaken (fun _ _ _ _ => trivial), hE U hU hW⟩⟩
theorem zA1 {h0 sz a : Nat} {e : va_E} (h1 : a < sz) (h2 : a ≠ h0) : ¬ va_A [(h0, e)] sz a := by
  rintro (⟨k, e2, hk⟩ | h)
  · have hz : k < 1 := (List.getElem?_eq_some_iff.mp hk).1
    rw [show k = 0 by omega] at hk
    cases hk
    exact h2 rfl
  · omega
theorem zAny {s : State} {H : Heap} {locs : List Loc} {A : Nat → Prop} {a : Nat} (h : ∃ cell : Cell, s.heap[a]? = some cell ∧ cell.vm.isStatics = false ∧ s.vm.findClass "java/lang/String" = some cell.cls) (hlt : a < s.heap.size) (hA : ¬ A a) (hS : va_S A s.heap H locs) : va_Any "java/lang/String" s H a := by
  obtain ⟨cell, h1, h2, h3⟩ := h
  exact ⟨cell, by rw [hS.2.1 a hlt hA]; exact h1, h2, Vm.classAt_of_findClass h3, fun comp hc => by rw [h3] at hc; cases hc; exact va_asg _ _⟩
section zstr
variable {p : Program} {l : Launch} {e : Env} {R : Room} {s : State} {m : MethodId} {args : Array Value} {below : List Frame} {meth : Method} {c : Code} {H H0 : Heap} {locs : List Loc} {cells slots : Nat} {Q : State → Prop} {cc : ByteArray} {pc : Nat} {ls : Array Slot} {rest : List Value} {A : Nat → Prop} {D : va_G} {cl : List vw_C} {tys : List (ClassId × FieldType)} {ws : va_W} {a : Nat}
theorem zz_ldcSW (hexec : p.tables.exec = Jvm.exec) (hb : c.code = cc) {own tx : String} {index q : Nat} (hown : s.vm.findClass own = some m.cls) (hZ : vk_R own index tx q s) (hdg : decode cc pc = .ok (.ldc_w index, 3))
    (k : W p l e R s m args below meth c H locs cells slots Q (F0 m (pc + 3) ls (.ref q :: rest))) : W p l e R s m args below meth c H locs cells slots Q (F0 m pc ls rest) := by
  intro T hT X
  obtain ⟨t, a1, b1⟩ := k T hT X
  exact ⟨t, X.ldcStringW hexec hown (text := tx) (a := q) hZ.1 hZ.2 (g := F0 m pc ls rest) rfl (by rw [hb]; exact hdg) t a1, b1⟩
theorem zz_newq (hexec : p.tables.exec = Jvm.exec) (hb : c.code = cc) {own C : String} {index : Nat} (hown : s.vm.findClass own = some m.cls) (hclink : (Cond.classLink own index C).before args s = true) (hover : va_AO C s) (hK : va_K D cl tys s) (hP : va_P D cl ws H) (hD : va_D A ws) (hS : va_S A H0 H locs) (hA : ∀ q, H0.size ≤ q → A q) (t0 : Nat) {cA : ClassId} (ht : tys[t0]? = some (cA, .object C)) {n : Int32} {N' : Nat} (hn : ¬ n < 0) (hN : n.toNatClampNeg = N') (hbytes : N' * 4 ≤ 536870912) (hcells : cells + 1 ≤ R.cells) (hslots : slots + N' ≤ R.slots) (hdg : decode cc pc = .ok (.anewarray index, 3))
    (kk : ∀ (q : Nat) (H1 : Heap), va_P D cl (ws ++ [(q, .inl (cA, N', .inr (.inr (.inr (.inr (fun _ => none))))))]) H1 → va_D A (ws ++ [(q, .inl (cA, N', .inr (.inr (.inr (.inr (fun _ => none))))))]) → va_S A H0 H1 locs → W p l e R s m args below meth c H1 locs (cells + 1) (slots + N') Q (F0 m (pc + 3) ls (.ref q :: rest))) : W p l e R s m args below meth c H locs cells slots Q (F0 m pc ls (.int n :: rest)) := by
  refine va_newq hexec hb hown hclink hover hK hP hD hS hA hn hN hbytes hcells hslots hdg (fun q cA' H1 hK' hP' hD' hS' => ?_)
  obtain ⟨_, _, _, _, _, e1⟩ := (hK.2 t0 _ ht).2
  obtain ⟨_, _, _, _, _, e2⟩ := (hK'.2 tys.length (cA', .object C) (by simp)).2
  have e0 : cA' = cA := Option.some.inj (e2.symm.trans e1)
  subst e0
  exact kk q H1 hP' hD' hS'
theorem zz_aast (hexec : p.tables.exec = Jvm.exec) (hb : c.code = cc) (hK : va_K D cl tys s) (hP : va_P D cl ws H) (hD : va_D A ws) (hS : va_S A H0 H locs) (q0 t0 : Nat) {E : String} {cA : ClassId} {n v : Nat} {f : Nat → Option Nat} (ha : ws[q0]? = some (a, .inl (cA, n, .inr (.inr (.inr (.inr f)))))) (ht : tys[t0]? = some (cA, .object E)) (hr : va_Any E s H v) {i : Int32} (k : Nat) (hi : zix i k n) (hdg : decode cc pc = .ok (.aastore, 1)) (kk : ∀ (H1 : Heap) (locs1 : List Loc), va_P D cl (ws.set q0 (a, .inl (cA, n, .inr (.inr (.inr (.inr (va_up f k (some v)))))))) H1 → va_D A (ws.set q0 (a, .inl (cA, n, .inr (.inr (.inr (.inr (va_up f k (some v)))))))) → va_S A H0 H1 locs1 → W p l e R s m args below meth c H1 locs1 cells slots Q (F0 m (pc + 1) ls rest)) : W p l e R s m args below meth c H locs cells slots Q (F0 m pc ls (.ref v :: .int i :: .ref a :: rest)) := by
  have hv := hi.vp
  obtain ⟨-, h2, -⟩ := hi
  subst h2
  exact va_astqM hexec hb hK hP hD hS q0 t0 ha ht hr hv hdg kk
end zstr
abbrev b_MPlain_room : ByteArray := prog_16_method_3_code
abbrev y_MPlain_room : MethodName := ⟨"ProofDeskModel$Plain", "room", "([II)[I"⟩
theorem d_MPlain_room_0 : decode b_MPlain_room 0 = .ok (.iload_n 1, 1) := by decide +kernel
theorem d_MPlain_room_1 : decode b_MPlain_room 1 = .ok (.aload_n 0, 1) := by decide +kernel
theorem d_MPlain_room_2 : decode b_MPlain_room 2 = .ok (.arraylength, 1) := by decide +kernel
theorem d_MPlain_room_3 : decode b_MPlain_room 3 = .ok (.if_icmp .ge 7, 3) := by decide +kernel
theorem d_MPlain_room_6 : decode b_MPlain_room 6 = .ok (.aload_n 0, 1) := by decide +kernel
theorem d_MPlain_room_7 : decode b_MPlain_room 7 = .ok (.goto 7, 3) := by decide +kernel
theorem d_MPlain_room_14 : decode b_MPlain_room 14 = .ok (.areturn, 1) := by decide +kernel
set_option maxHeartbeats 4000000 in
set_option maxRecDepth 100000 in
theorem c_MPlain_room (l : Launch) (D : va_G) (cI cB cZ cS : ClassId) (sz : Nat) (a : Nat) (n : Nat) (f : Nat → Int32) (k : Int32) (hk : k < nI n) : Met l y_MPlain_room (zc y_MPlain_room b_MPlain_room 2 (some (.array .int))) ({ frames := 0, cells := 0, slots := 0, locals := 0 }) (zPc D (zty cI cB cZ cS) [(a, .inl (cI, n, .inl f))] sz [.ref a, .int k]) (va_Qr (fun _ : Unit => True) (fun _ ra t => ra = a ∧ va_P D zcl [(a, .inl (cI, n, .inl f))] t.heap ∧ va_D (va_A [(a, .inl (cI, n, .inl f))] sz) [(a, .inl (cI, n, .inl f))]) (va_A [(a, .inl (cI, n, .inl f))] sz)) 0 0 (va_A [(a, .inl (cI, n, .inl f))] sz) := by
  refine Met.ofW (cc := b_MPlain_room) (maxL := 2) (ret := (some (.array .int))) (by decide) rfl ?_
  intro p e s m args below meth c s₁ B hml hv
  obtain ⟨rfl, hsz, hP, ⟨hK, hN⟩, hD0⟩ := hv
  have hx := B.exec
  have hb := B.bytes
  have hr := B.returns
  have hts0 := atoms_spec (ws := zc y_MPlain_room b_MPlain_room 2 (some (.array .int))) B.pre
  have hts : ∀ w ∈ zw, w.before _ s = true := fun w hw => hts0 w (List.mem_cons_of_mem _ hw)
  have hown : s.vm.findClass "ProofDeskModel$Plain" = some m.cls := findClass_of_methodNamed B.named
  have hlocks := B.notSynchronized
  subst hsz
  have hD := hD0.self (sz := s.heap.size)
  generalize hAe : va_A [(a, .inl (cI, n, .inl f))] s.heap.size = A at hD ⊢
  have hA : ∀ q : Nat, s.heap.size ≤ q → A q := fun q h => by rw [← hAe]; exact Or.inr h
  have hS : va_S A s.heap s.heap [] := va_S.rf
  have hP : va_P D zcl [(a, .inl (cI, n, .inl f))] s.heap := hP
  have hl := lv_entry ([.ref a, .int k]) (n := 2) (Nat.le_of_ble_eq_true rfl)
  rw [lg_entry_eq]
  generalize (lg_sl ([.ref a, .int k]) ++ List.replicate (2 - (lg_sl ([.ref a, .int k])).length) Slot.unset).toArray = ls at hl ⊢
  have hl : lv_has ls 2 [(0, .ref a), (1, .int k)] := hl
  refine lv_iload_n hx hb d_MPlain_room_0 rfl (lv_at hl 1 rfl) ?_
  refine lv_aload_n hx hb d_MPlain_room_1 rfl (lv_at hl 0 rfl) ?_
  refine va_alen (v := (nI n)) hx hb hK hP 0 0 rfl rfl rfl d_MPlain_room_2 ?_
  have hc_1 : ¬ ((nI n) : Int32) ≤ k := fun h => Int32.lt_irrefl (Int32.lt_of_lt_of_le hk h)
  refine lv_icmp_ge hx hb d_MPlain_room_3 rfl (fun h => absurd h hc_1) (fun _ => ?_)
  refine lv_aload_n hx hb d_MPlain_room_6 rfl (lv_at hl 0 rfl) ?_
  refine lv_goto hx hb d_MPlain_room_7 rfl ?_
  have hP9 := hP.sub (ws' := [(a, .inl (cI, n, .inl f))]) [0] rfl
  have hD9 := hD.sub (ws' := [(a, .inl (cI, n, .inl f))]) [0] (by decide +kernel) rfl
  refine W.widen (k := 0) (n := 0) (by omega) (by omega) ?_
  exact W.aret (v := .ref a) hx hb hr (by first | exact Or.inr ⟨_, rfl⟩ | exact Or.inl ⟨_, rfl⟩) (Or.inr ⟨_, rfl⟩) (fun t ht hW => ⟨⟨(), a, rfl, trivial, rfl, by rw [ht]; exact hP9, hD9⟩, hS.F ht⟩) hS.2.2 d_MPlain_room_14
abbrev b_ProofDeskModel_room : ByteArray := prog_14_method_1_code
abbrev y_ProofDeskModel_room : MethodName := ⟨"ProofDeskModel", "room", "([II)[I"⟩
theorem d_ProofDeskModel_room_0 : decode b_ProofDeskModel_room 0 = .ok (.aload_n 0, 1) := by decide +kernel
theorem d_ProofDeskModel_room_1 : decode b_ProofDeskModel_room 1 = .ok (.iload_n 1, 1) := by decide +kernel
theorem d_ProofDeskModel_room_2 : decode b_ProofDeskModel_room 2 = .ok (.invokestatic 1, 3) := by decide +kernel
set_option maxRecDepth 100000 in
theorem kw_2010 : (Jvm.Cond.code ({ cls := "ProofDeskModel$Plain", name := "room", desc := "([II)[I" } : Jvm.MethodName) prog_16_method_3_code (2 : Nat) (Option.some (Jvm.ClassFile.FieldType.array Jvm.ClassFile.FieldType.int))) ∈ zw := List.mem_filter.mpr ⟨List.mem_append_right _ (List.mem_of_getElem? (i := 2010) rfl), by decide +kernel⟩
theorem kw_19 : (Jvm.Cond.initialized "ProofDeskModel$Plain") ∈ zw := List.mem_filter.mpr ⟨List.mem_append_right _ (List.mem_of_getElem? (i := 19) (by decide +kernel)), by decide +kernel⟩
theorem kw_2008 : (Jvm.Cond.methodLink "ProofDeskModel" (1 : Nat) ({ cls := "ProofDeskModel$Plain", name := "room", desc := "([II)[I" } : Jvm.MethodName)) ∈ zw := List.mem_filter.mpr ⟨List.mem_append_right _ (List.mem_of_getElem? (i := 2008) (by decide +kernel)), by decide +kernel⟩
theorem kw_2009 : (Jvm.Cond.static ({ cls := "ProofDeskModel$Plain", name := "room", desc := "([II)[I" } : Jvm.MethodName)) ∈ zw := List.mem_filter.mpr ⟨List.mem_append_right _ (List.mem_of_getElem? (i := 2009) (by decide +kernel)), by decide +kernel⟩
theorem d_ProofDeskModel_room_5 : decode b_ProofDeskModel_room 5 = .ok (.areturn, 1) := by decide +kernel
set_option maxHeartbeats 4000000 in
set_option maxRecDepth 100000 in
theorem c_M_room (l : Launch) (D : va_G) (cI cB cZ cS : ClassId) (sz : Nat) (a : Nat) (n : Nat) (f : Nat → Int32) (k : Int32) (hk : k < nI n) : Met l y_ProofDeskModel_room (zc y_ProofDeskModel_room b_ProofDeskModel_room 2 (some (.array .int))) ({ frames := 1, cells := 0, slots := 0, locals := 21 }) (zPc D (zty cI cB cZ cS) [(a, .inl (cI, n, .inl f))] sz [.ref a, .int k]) (va_Qr (fun _ : Unit => True) (fun _ ra t => ra = a ∧ va_P D zcl [(a, .inl (cI, n, .inl f))] t.heap ∧ va_D (va_A [(a, .inl (cI, n, .inl f))] sz) [(a, .inl (cI, n, .inl f))]) (va_A [(a, .inl (cI, n, .inl f))] sz)) 0 0 (va_A [(a, .inl (cI, n, .inl f))] sz) := by
  refine Met.ofW (cc := b_ProofDeskModel_room) (maxL := 2) (ret := (some (.array .int))) (by decide) rfl ?_
  intro p e s m args below meth c s₁ B hml hv
  obtain ⟨rfl, hsz, hP, ⟨hK, hN⟩, hD0⟩ := hv
  have hx := B.exec
  have hb := B.bytes
  have hr := B.returns
  have hts0 := atoms_spec (ws := zc y_ProofDeskModel_room b_ProofDeskModel_room 2 (some (.array .int))) B.pre
  have hts : ∀ w ∈ zw, w.before _ s = true := fun w hw => hts0 w (List.mem_cons_of_mem _ hw)
  have hown : s.vm.findClass "ProofDeskModel" = some m.cls := findClass_of_methodNamed B.named
  have hlocks := B.notSynchronized
  subst hsz
  have hD := hD0.self (sz := s.heap.size)
  generalize hAe : va_A [(a, .inl (cI, n, .inl f))] s.heap.size = A at hD ⊢
  have hA : ∀ q : Nat, s.heap.size ≤ q → A q := fun q h => by rw [← hAe]; exact Or.inr h
  have hS : va_S A s.heap s.heap [] := va_S.rf
  have hP : va_P D zcl [(a, .inl (cI, n, .inl f))] s.heap := hP
  have hl := lv_entry ([.ref a, .int k]) (n := 2) (Nat.le_of_ble_eq_true rfl)
  rw [lg_entry_eq]
  generalize (lg_sl ([.ref a, .int k]) ++ List.replicate (2 - (lg_sl ([.ref a, .int k])).length) Slot.unset).toArray = ls at hl ⊢
  have hl : lv_has ls 2 [(0, .ref a), (1, .int k)] := hl
  refine lv_aload_n hx hb d_ProofDeskModel_room_0 rfl (lv_at hl 0 rfl) ?_
  refine lv_iload_n hx hb d_ProofDeskModel_room_1 rfl (lv_at hl 1 rfl) ?_
  have hPc := hP.sub (ws' := [(a, .inl (cI, n, .inl f))]) [0] rfl
  have hDc := hD.sub (ws' := [(a, .inl (cI, n, .inl f))]) [0] (by decide +kernel) rfl
  have hFc := va_free (wc := [(a, .inl (cI, n, .inl f))]) hD hS hA [0] rfl
  have hkc : 0 + 0 ≤ 0 := by omega
  have hks : 0 + 0 ≤ 0 := by omega
  refine va_callr (va_runS (As := [.ref a, .int k]) (rest := []) ⟨hx, hb, hml, hown, hts⟩ (c_MPlain_room l D cI cB cZ cS s.heap.size a n f k (by first | exact hk | decide +kernel)) (⟨callB_of 2 hts (zgood kw_2010) rfl rfl rfl (hts _ kw_19) (hts _ kw_2008) (by decide +kernel) ⟨Nat.le_of_ble_eq_true rfl, Nat.le_of_ble_eq_true rfl⟩, hts _ kw_2009⟩) (zPreS hPc hK hN hDc) rfl rfl hl.1 rfl (lv_room (Nat.le_of_ble_eq_true rfl)) d_ProofDeskModel_room_2 ⟨hkc, hks⟩) hS (fun q _ h => hFc q h) hFc (fun u ra t H1 locs ht hvm hw hB hz1 hk1 hS => ?_)
  obtain ⟨hra, hP1, hD1⟩ := hB
  rw [hra]
  rw [ht] at hP1
  obtain ⟨hP, hD⟩ := va_join (wr := []) (w1 := [(a, .inl (cI, n, .inl f))]) hP hD [0] [] rfl rfl (by decide +kernel) (by decide +kernel) hk1 hFc hP1 hD1
  generalize H1 = H at hP hS ⊢
  have hP : va_P D zcl [(a, .inl (cI, n, .inl f))] H := hP
  have hD : va_D A [(a, .inl (cI, n, .inl f))] := hD
  refine W.widen (k := 0) (n := 0) (by omega) (by omega) ?_
  have hP9 := hP.sub (ws' := [(a, .inl (cI, n, .inl f))]) [0] rfl
  have hD9 := hD.sub (ws' := [(a, .inl (cI, n, .inl f))]) [0] (by decide +kernel) rfl
  refine W.widen (k := 0) (n := 0) (by omega) (by omega) ?_
  exact W.aret (v := .ref a) hx hb hr (by first | exact Or.inr ⟨_, rfl⟩ | exact Or.inl ⟨_, rfl⟩) (Or.inr ⟨_, rfl⟩) (fun t ht hW => ⟨⟨(), a, rfl, trivial, rfl, by rw [ht]; exact hP9, hD9⟩, hS.F ht⟩) hS.2.2 d_ProofDeskModel_room_5
abbrev b_ProofDeskModel_seek : ByteArray := prog_14_method_27_code
abbrev y_ProofDeskModel_seek : MethodName := ⟨"ProofDeskModel", "seek", "([III)I"⟩
theorem d_ProofDeskModel_seek_0 : decode b_ProofDeskModel_seek 0 = .ok (.iconst 0, 1) := by decide +kernel
theorem d_ProofDeskModel_seek_1 : decode b_ProofDeskModel_seek 1 = .ok (.istore 4, 2) := by decide +kernel
theorem d_ProofDeskModel_seek_3 : decode b_ProofDeskModel_seek 3 = .ok (.iload 4, 2) := by decide +kernel
theorem d_ProofDeskModel_seek_5 : decode b_ProofDeskModel_seek 5 = .ok (.aload_n 0, 1) := by decide +kernel
theorem d_ProofDeskModel_seek_6 : decode b_ProofDeskModel_seek 6 = .ok (.getfield 186, 3) := by decide +kernel
theorem kw_2153 : (Jvm.Cond.fieldLink "ProofDeskModel" (186 : Nat) "ProofDeskModel" "names" "I") ∈ zw := List.mem_filter.mpr ⟨List.mem_append_right _ (List.mem_of_getElem? (i := 2153) (by decide +kernel)), by decide +kernel⟩
theorem d_ProofDeskModel_seek_9 : decode b_ProofDeskModel_seek 9 = .ok (.if_icmp .ge 96, 3) := by decide +kernel
theorem d_ProofDeskModel_seek_105 : decode b_ProofDeskModel_seek 105 = .ok (.iconst (-1), 1) := by decide +kernel
theorem d_ProofDeskModel_seek_106 : decode b_ProofDeskModel_seek 106 = .ok (.ireturn, 1) := by decide +kernel
set_option maxHeartbeats 4000000 in
set_option maxRecDepth 100000 in
theorem c_M_seek0 (l : Launch) (D : va_G) (cI cB cZ cS : ClassId) (sz : Nat) (h0 : Nat) (lt : Nat) (st : Nat) (a : Nat) (g_0 : Value) (g_1 : Value) (g_2 : Value) (g_3 : Value) (g_4 : Value) (g_5 : Value) (g_6 : Value) (g_7 : Value) (g_8 : Value) (g_9 : Value) (g_10 : Value) (g_11 : Value) (g_12 : Value) (g_13 : Value) (g_14 : Value) (g_15 : Value) (g_16 : Value) (g_17 : Value) (g_18 : Value) (g_19 : Value) (g_20 : Value) (g_21 : Value) (g_22 : Value) (g_23 : Value) (g_24 : Value) (g_25 : Value) (g_26 : Value) (g_30 : Value) (g_31 : Value) (g_32 : Value) (g_33 : Value) (g_34 : Value) (g_35 : Value) (g_36 : Value) (g_37 : Value) (g_38 : Value) (g_39 : Value) (g_40 : Value) (g_41 : Value) (g_42 : Value) (g_43 : Value) (g_44 : Value) (g_45 : Value) (g_46 : Value) (g_47 : Value) (g_48 : Value) (g_49 : Value) (g_50 : Value) (g_51 : Value) (g_52 : Value) (g_53 : Value) (g_54 : Value) (g_55 : Value) : Met l y_ProofDeskModel_seek (zc y_ProofDeskModel_seek b_ProofDeskModel_seek 7 (some .int)) ({ frames := 0, cells := 0, slots := 0, locals := 0 }) (zPc D (zty cI cB cZ cS) [(h0, .inr (16, [g_0, g_1, g_2, g_3, g_4, g_5, g_6, g_7, g_8, g_9, g_10, g_11, g_12, g_13, g_14, g_15, g_16, g_17, g_18, g_19, g_20, g_21, g_22, g_23, g_24, g_25, g_26, .ref lt, .ref st, .int 0, g_30, g_31, g_32, g_33, g_34, g_35, g_36, g_37, g_38, g_39, g_40, g_41, g_42, g_43, g_44, g_45, g_46, g_47, g_48, g_49, g_50, g_51, g_52, g_53, g_54, g_55])), (lt, .inl (cI, 256, .inl (fun _ => 0))), (st, .inl (cI, 64, .inl (fun _ => 0))), (a, .inl (cI, 16400, .inl (upd (upd (fun _ => 0) 0 77) 1 120)))] sz [.ref h0, .ref a, .int 0, .int 1]) (va_Qi (fun (r : Int32) (_ : Unit) => r = (-1)) (fun _ t => va_P D zcl [(h0, .inr (16, [g_0, g_1, g_2, g_3, g_4, g_5, g_6, g_7, g_8, g_9, g_10, g_11, g_12, g_13, g_14, g_15, g_16, g_17, g_18, g_19, g_20, g_21, g_22, g_23, g_24, g_25, g_26, .ref lt, .ref st, .int 0, g_30, g_31, g_32, g_33, g_34, g_35, g_36, g_37, g_38, g_39, g_40, g_41, g_42, g_43, g_44, g_45, g_46, g_47, g_48, g_49, g_50, g_51, g_52, g_53, g_54, g_55])), (lt, .inl (cI, 256, .inl (fun _ => 0))), (st, .inl (cI, 64, .inl (fun _ => 0))), (a, .inl (cI, 16400, .inl (upd (upd (fun _ => 0) 0 77) 1 120)))] t.heap ∧ va_D (va_A [(h0, .inr (16, [g_0, g_1, g_2, g_3, g_4, g_5, g_6, g_7, g_8, g_9, g_10, g_11, g_12, g_13, g_14, g_15, g_16, g_17, g_18, g_19, g_20, g_21, g_22, g_23, g_24, g_25, g_26, .ref lt, .ref st, .int 0, g_30, g_31, g_32, g_33, g_34, g_35, g_36, g_37, g_38, g_39, g_40, g_41, g_42, g_43, g_44, g_45, g_46, g_47, g_48, g_49, g_50, g_51, g_52, g_53, g_54, g_55])), (lt, .inl (cI, 256, .inl (fun _ => 0))), (st, .inl (cI, 64, .inl (fun _ => 0))), (a, .inl (cI, 16400, .inl (upd (upd (fun _ => 0) 0 77) 1 120)))] sz) [(h0, .inr (16, [g_0, g_1, g_2, g_3, g_4, g_5, g_6, g_7, g_8, g_9, g_10, g_11, g_12, g_13, g_14, g_15, g_16, g_17, g_18, g_19, g_20, g_21, g_22, g_23, g_24, g_25, g_26, .ref lt, .ref st, .int 0, g_30, g_31, g_32, g_33, g_34, g_35, g_36, g_37, g_38, g_39, g_40, g_41, g_42, g_43, g_44, g_45, g_46, g_47, g_48, g_49, g_50, g_51, g_52, g_53, g_54, g_55])), (lt, .inl (cI, 256, .inl (fun _ => 0))), (st, .inl (cI, 64, .inl (fun _ => 0))), (a, .inl (cI, 16400, .inl (upd (upd (fun _ => 0) 0 77) 1 120)))]) (va_A [(h0, .inr (16, [g_0, g_1, g_2, g_3, g_4, g_5, g_6, g_7, g_8, g_9, g_10, g_11, g_12, g_13, g_14, g_15, g_16, g_17, g_18, g_19, g_20, g_21, g_22, g_23, g_24, g_25, g_26, .ref lt, .ref st, .int 0, g_30, g_31, g_32, g_33, g_34, g_35, g_36, g_37, g_38, g_39, g_40, g_41, g_42, g_43, g_44, g_45, g_46, g_47, g_48, g_49, g_50, g_51, g_52, g_53, g_54, g_55])), (lt, .inl (cI, 256, .inl (fun _ => 0))), (st, .inl (cI, 64, .inl (fun _ => 0))), (a, .inl (cI, 16400, .inl (upd (upd (fun _ => 0) 0 77) 1 120)))] sz)) 0 0 (va_A [(h0, .inr (16, [g_0, g_1, g_2, g_3, g_4, g_5, g_6, g_7, g_8, g_9, g_10, g_11, g_12, g_13, g_14, g_15, g_16, g_17, g_18, g_19, g_20, g_21, g_22, g_23, g_24, g_25, g_26, .ref lt, .ref st, .int 0, g_30, g_31, g_32, g_33, g_34, g_35, g_36, g_37, g_38, g_39, g_40, g_41, g_42, g_43, g_44, g_45, g_46, g_47, g_48, g_49, g_50, g_51, g_52, g_53, g_54, g_55])), (lt, .inl (cI, 256, .inl (fun _ => 0))), (st, .inl (cI, 64, .inl (fun _ => 0))), (a, .inl (cI, 16400, .inl (upd (upd (fun _ => 0) 0 77) 1 120)))] sz) := by
  refine Met.ofW (cc := b_ProofDeskModel_seek) (maxL := 7) (ret := (some .int)) (by decide) rfl ?_
  intro p e s m args below meth c s₁ B hml hv
  obtain ⟨rfl, hsz, hP, ⟨hK, hN⟩, hD0⟩ := hv
  have hx := B.exec
  have hb := B.bytes
  have hr := B.returns
  have hts0 := atoms_spec (ws := zc y_ProofDeskModel_seek b_ProofDeskModel_seek 7 (some .int)) B.pre
  have hts : ∀ w ∈ zw, w.before _ s = true := fun w hw => hts0 w (List.mem_cons_of_mem _ hw)
  have hown : s.vm.findClass "ProofDeskModel" = some m.cls := findClass_of_methodNamed B.named
  have hlocks := B.notSynchronized
  subst hsz
  have hD := hD0.self (sz := s.heap.size)
  generalize hAe : va_A [(h0, .inr (16, [g_0, g_1, g_2, g_3, g_4, g_5, g_6, g_7, g_8, g_9, g_10, g_11, g_12, g_13, g_14, g_15, g_16, g_17, g_18, g_19, g_20, g_21, g_22, g_23, g_24, g_25, g_26, .ref lt, .ref st, .int 0, g_30, g_31, g_32, g_33, g_34, g_35, g_36, g_37, g_38, g_39, g_40, g_41, g_42, g_43, g_44, g_45, g_46, g_47, g_48, g_49, g_50, g_51, g_52, g_53, g_54, g_55])), (lt, .inl (cI, 256, .inl (fun _ => 0))), (st, .inl (cI, 64, .inl (fun _ => 0))), (a, .inl (cI, 16400, .inl (upd (upd (fun _ => 0) 0 77) 1 120)))] s.heap.size = A at hD ⊢
  have hA : ∀ q : Nat, s.heap.size ≤ q → A q := fun q h => by rw [← hAe]; exact Or.inr h
  have hS : va_S A s.heap s.heap [] := va_S.rf
  have hP : va_P D zcl [(h0, .inr (16, [g_0, g_1, g_2, g_3, g_4, g_5, g_6, g_7, g_8, g_9, g_10, g_11, g_12, g_13, g_14, g_15, g_16, g_17, g_18, g_19, g_20, g_21, g_22, g_23, g_24, g_25, g_26, .ref lt, .ref st, .int 0, g_30, g_31, g_32, g_33, g_34, g_35, g_36, g_37, g_38, g_39, g_40, g_41, g_42, g_43, g_44, g_45, g_46, g_47, g_48, g_49, g_50, g_51, g_52, g_53, g_54, g_55])), (lt, .inl (cI, 256, .inl (fun _ => 0))), (st, .inl (cI, 64, .inl (fun _ => 0))), (a, .inl (cI, 16400, .inl (upd (upd (fun _ => 0) 0 77) 1 120)))] s.heap := hP
  have hl := lv_entry ([.ref h0, .ref a, .int 0, .int 1]) (n := 7) (Nat.le_of_ble_eq_true rfl)
  rw [lg_entry_eq]
  generalize (lg_sl ([.ref h0, .ref a, .int 0, .int 1]) ++ List.replicate (7 - (lg_sl ([.ref h0, .ref a, .int 0, .int 1])).length) Slot.unset).toArray = ls at hl ⊢
  have hl : lv_has ls 7 [(0, .ref h0), (1, .ref a), (2, .int 0), (3, .int 1)] := hl
  refine lv_iconst (v := 0) hx hb d_ProofDeskModel_seek_0 (by decide) ?_
  refine lv_istore (lv' := [(4, .int 0), (0, .ref h0), (1, .ref a), (2, .int 0), (3, .int 1)]) hx hb d_ProofDeskModel_seek_1 hl (by decide) rfl (fun ls hl => ?_)
  refine lv_iload hx hb d_ProofDeskModel_seek_3 (lv_at hl 0 rfl) ?_
  refine lv_aload_n hx hb d_ProofDeskModel_seek_5 rfl (lv_at hl 1 rfl) ?_
  refine va_get (D := D) (ci := 16) (v := .int 0) (C := "ProofDeskModel") (T := F_ProofDeskModel) (N := 56) hx hb hts in_ProofDeskModel hown hK hP 0 rfl rfl 29 (by decide) (hts _ kw_2153) (fun _ h9 => h9) rfl d_ProofDeskModel_seek_6 ?_
  have hc_1 : (0 : Int32) ≤ 0 := by decide +kernel
  refine lv_icmp_ge hx hb d_ProofDeskModel_seek_9 rfl (fun _ => ?_) (fun h => absurd hc_1 h)
  refine lv_iconst (v := (-1)) hx hb d_ProofDeskModel_seek_105 (by decide) ?_
  have hP9 := hP.sub (ws' := [(h0, .inr (16, [g_0, g_1, g_2, g_3, g_4, g_5, g_6, g_7, g_8, g_9, g_10, g_11, g_12, g_13, g_14, g_15, g_16, g_17, g_18, g_19, g_20, g_21, g_22, g_23, g_24, g_25, g_26, .ref lt, .ref st, .int 0, g_30, g_31, g_32, g_33, g_34, g_35, g_36, g_37, g_38, g_39, g_40, g_41, g_42, g_43, g_44, g_45, g_46, g_47, g_48, g_49, g_50, g_51, g_52, g_53, g_54, g_55])), (lt, .inl (cI, 256, .inl (fun _ => 0))), (st, .inl (cI, 64, .inl (fun _ => 0))), (a, .inl (cI, 16400, .inl (upd (upd (fun _ => 0) 0 77) 1 120)))]) [0, 1, 2, 3] rfl
  have hD9 := hD.sub (ws' := [(h0, .inr (16, [g_0, g_1, g_2, g_3, g_4, g_5, g_6, g_7, g_8, g_9, g_10, g_11, g_12, g_13, g_14, g_15, g_16, g_17, g_18, g_19, g_20, g_21, g_22, g_23, g_24, g_25, g_26, .ref lt, .ref st, .int 0, g_30, g_31, g_32, g_33, g_34, g_35, g_36, g_37, g_38, g_39, g_40, g_41, g_42, g_43, g_44, g_45, g_46, g_47, g_48, g_49, g_50, g_51, g_52, g_53, g_54, g_55])), (lt, .inl (cI, 256, .inl (fun _ => 0))), (st, .inl (cI, 64, .inl (fun _ => 0))), (a, .inl (cI, 16400, .inl (upd (upd (fun _ => 0) 0 77) 1 120)))]) [0, 1, 2, 3] (by decide +kernel) rfl
  refine W.widen (k := 0) (n := 0) (by omega) (by omega) ?_
  exact W.iret (v := (-1)) hx hb hr (fun t ht hW => ⟨⟨(-1), (), rfl, rfl, by rw [ht]; exact hP9, hD9⟩, hS.F ht⟩) hS.2.2 d_ProofDeskModel_seek_106
abbrev b_ProofDeskModel_number : ByteArray := prog_14_method_26_code
abbrev y_ProofDeskModel_number : MethodName := ⟨"ProofDeskModel", "number", "([III)I"⟩
theorem d_ProofDeskModel_number_0 : decode b_ProofDeskModel_number 0 = .ok (.aload_n 0, 1) := by decide +kernel
theorem d_ProofDeskModel_number_1 : decode b_ProofDeskModel_number 1 = .ok (.aload_n 1, 1) := by decide +kernel
theorem d_ProofDeskModel_number_2 : decode b_ProofDeskModel_number 2 = .ok (.iload_n 2, 1) := by decide +kernel
theorem d_ProofDeskModel_number_3 : decode b_ProofDeskModel_number 3 = .ok (.iload_n 3, 1) := by decide +kernel
theorem d_ProofDeskModel_number_4 : decode b_ProofDeskModel_number 4 = .ok (.invokevirtual 179, 3) := by decide +kernel
set_option maxRecDepth 100000 in
theorem kw_2004 : (Jvm.Cond.code ({ cls := "ProofDeskModel", name := "seek", desc := "([III)I" } : Jvm.MethodName) prog_14_method_27_code (7 : Nat) (Option.some Jvm.ClassFile.FieldType.int)) ∈ zw := List.mem_filter.mpr ⟨List.mem_append_right _ (List.mem_of_getElem? (i := 2004) rfl), by decide +kernel⟩
theorem kw_16 : (Jvm.Cond.initialized "ProofDeskModel") ∈ zw := List.mem_filter.mpr ⟨List.mem_append_right _ (List.mem_of_getElem? (i := 16) (by decide +kernel)), by decide +kernel⟩
theorem kw_2001 : (Jvm.Cond.methodLink "ProofDeskModel" (179 : Nat) ({ cls := "ProofDeskModel", name := "seek", desc := "([III)I" } : Jvm.MethodName)) ∈ zw := List.mem_filter.mpr ⟨List.mem_append_right _ (List.mem_of_getElem? (i := 2001) (by decide +kernel)), by decide +kernel⟩
theorem kw_2003 : (Jvm.Cond.instanceMethod ({ cls := "ProofDeskModel", name := "seek", desc := "([III)I" } : Jvm.MethodName)) ∈ zw := List.mem_filter.mpr ⟨List.mem_append_right _ (List.mem_of_getElem? (i := 2003) (by decide +kernel)), by decide +kernel⟩
theorem kp_127 : (Jvm.Cond.selects "ProofDeskModel" ({ cls := "ProofDeskModel", name := "seek", desc := "([III)I" } : Jvm.MethodName) ({ cls := "ProofDeskModel", name := "seek", desc := "([III)I" } : Jvm.MethodName)) ∈ zw := List.mem_filter.mpr ⟨List.mem_append_left _ (List.mem_of_getElem? (i := 127) (by decide +kernel)), by decide +kernel⟩
theorem d_ProofDeskModel_number_7 : decode b_ProofDeskModel_number 7 = .ok (.istore 4, 2) := by decide +kernel
theorem d_ProofDeskModel_number_9 : decode b_ProofDeskModel_number 9 = .ok (.iload 4, 2) := by decide +kernel
theorem d_ProofDeskModel_number_11 : decode b_ProofDeskModel_number 11 = .ok (.iconst (-1), 1) := by decide +kernel
theorem d_ProofDeskModel_number_12 : decode b_ProofDeskModel_number 12 = .ok (.if_icmp .eq 6, 3) := by decide +kernel
theorem d_ProofDeskModel_number_18 : decode b_ProofDeskModel_number 18 = .ok (.aload_n 0, 1) := by decide +kernel
theorem d_ProofDeskModel_number_19 : decode b_ProofDeskModel_number 19 = .ok (.aload_n 0, 1) := by decide +kernel
theorem d_ProofDeskModel_number_20 : decode b_ProofDeskModel_number 20 = .ok (.getfield 183, 3) := by decide +kernel
theorem kw_2152 : (Jvm.Cond.fieldLink "ProofDeskModel" (183 : Nat) "ProofDeskModel" "starts" "[I") ∈ zw := List.mem_filter.mpr ⟨List.mem_append_right _ (List.mem_of_getElem? (i := 2152) (by decide +kernel)), by decide +kernel⟩
theorem d_ProofDeskModel_number_23 : decode b_ProofDeskModel_number 23 = .ok (.aload_n 0, 1) := by decide +kernel
theorem d_ProofDeskModel_number_24 : decode b_ProofDeskModel_number 24 = .ok (.getfield 186, 3) := by decide +kernel
theorem d_ProofDeskModel_number_27 : decode b_ProofDeskModel_number 27 = .ok (.iconst 2, 1) := by decide +kernel
theorem d_ProofDeskModel_number_28 : decode b_ProofDeskModel_number 28 = .ok (.iadd, 1) := by decide +kernel
theorem d_ProofDeskModel_number_29 : decode b_ProofDeskModel_number 29 = .ok (.invokestatic 17, 3) := by decide +kernel
set_option maxRecDepth 100000 in
theorem kw_2007 : (Jvm.Cond.code ({ cls := "ProofDeskModel", name := "room", desc := "([II)[I" } : Jvm.MethodName) prog_14_method_1_code (2 : Nat) (Option.some (Jvm.ClassFile.FieldType.array Jvm.ClassFile.FieldType.int))) ∈ zw := List.mem_filter.mpr ⟨List.mem_append_right _ (List.mem_of_getElem? (i := 2007) rfl), by decide +kernel⟩
theorem kw_2005 : (Jvm.Cond.methodLink "ProofDeskModel" (17 : Nat) ({ cls := "ProofDeskModel", name := "room", desc := "([II)[I" } : Jvm.MethodName)) ∈ zw := List.mem_filter.mpr ⟨List.mem_append_right _ (List.mem_of_getElem? (i := 2005) (by decide +kernel)), by decide +kernel⟩
theorem kw_2006 : (Jvm.Cond.static ({ cls := "ProofDeskModel", name := "room", desc := "([II)[I" } : Jvm.MethodName)) ∈ zw := List.mem_filter.mpr ⟨List.mem_append_right _ (List.mem_of_getElem? (i := 2006) (by decide +kernel)), by decide +kernel⟩
theorem d_ProofDeskModel_number_32 : decode b_ProofDeskModel_number 32 = .ok (.putfield 183, 3) := by decide +kernel
theorem d_ProofDeskModel_number_35 : decode b_ProofDeskModel_number 35 = .ok (.iconst 0, 1) := by decide +kernel
theorem d_ProofDeskModel_number_36 : decode b_ProofDeskModel_number 36 = .ok (.istore 5, 2) := by decide +kernel
theorem d_ProofDeskModel_number_38 : decode b_ProofDeskModel_number 38 = .ok (.iload 5, 2) := by decide +kernel
theorem d_ProofDeskModel_number_40 : decode b_ProofDeskModel_number 40 = .ok (.iload_n 3, 1) := by decide +kernel
theorem d_ProofDeskModel_number_41 : decode b_ProofDeskModel_number 41 = .ok (.if_icmp .ge 55, 3) := by decide +kernel
theorem d_ProofDeskModel_number_44 : decode b_ProofDeskModel_number 44 = .ok (.aload_n 0, 1) := by decide +kernel
theorem d_ProofDeskModel_number_45 : decode b_ProofDeskModel_number 45 = .ok (.aload_n 0, 1) := by decide +kernel
theorem d_ProofDeskModel_number_46 : decode b_ProofDeskModel_number 46 = .ok (.getfield 189, 3) := by decide +kernel
theorem kw_2151 : (Jvm.Cond.fieldLink "ProofDeskModel" (189 : Nat) "ProofDeskModel" "letters" "[I") ∈ zw := List.mem_filter.mpr ⟨List.mem_append_right _ (List.mem_of_getElem? (i := 2151) (by decide +kernel)), by decide +kernel⟩
theorem d_ProofDeskModel_number_49 : decode b_ProofDeskModel_number 49 = .ok (.aload_n 0, 1) := by decide +kernel
theorem d_ProofDeskModel_number_50 : decode b_ProofDeskModel_number 50 = .ok (.getfield 183, 3) := by decide +kernel
theorem d_ProofDeskModel_number_53 : decode b_ProofDeskModel_number 53 = .ok (.aload_n 0, 1) := by decide +kernel
theorem d_ProofDeskModel_number_54 : decode b_ProofDeskModel_number 54 = .ok (.getfield 186, 3) := by decide +kernel
theorem d_ProofDeskModel_number_57 : decode b_ProofDeskModel_number 57 = .ok (.iaload, 1) := by decide +kernel
theorem d_ProofDeskModel_number_58 : decode b_ProofDeskModel_number 58 = .ok (.iload 5, 2) := by decide +kernel
theorem d_ProofDeskModel_number_60 : decode b_ProofDeskModel_number 60 = .ok (.iadd, 1) := by decide +kernel
theorem d_ProofDeskModel_number_61 : decode b_ProofDeskModel_number 61 = .ok (.invokestatic 17, 3) := by decide +kernel
theorem d_ProofDeskModel_number_64 : decode b_ProofDeskModel_number 64 = .ok (.putfield 189, 3) := by decide +kernel
theorem d_ProofDeskModel_number_67 : decode b_ProofDeskModel_number 67 = .ok (.aload_n 0, 1) := by decide +kernel
theorem d_ProofDeskModel_number_68 : decode b_ProofDeskModel_number 68 = .ok (.getfield 189, 3) := by decide +kernel
theorem d_ProofDeskModel_number_71 : decode b_ProofDeskModel_number 71 = .ok (.aload_n 0, 1) := by decide +kernel
theorem d_ProofDeskModel_number_72 : decode b_ProofDeskModel_number 72 = .ok (.getfield 183, 3) := by decide +kernel
theorem d_ProofDeskModel_number_75 : decode b_ProofDeskModel_number 75 = .ok (.aload_n 0, 1) := by decide +kernel
theorem d_ProofDeskModel_number_76 : decode b_ProofDeskModel_number 76 = .ok (.getfield 186, 3) := by decide +kernel
theorem d_ProofDeskModel_number_79 : decode b_ProofDeskModel_number 79 = .ok (.iaload, 1) := by decide +kernel
theorem d_ProofDeskModel_number_80 : decode b_ProofDeskModel_number 80 = .ok (.iload 5, 2) := by decide +kernel
theorem d_ProofDeskModel_number_82 : decode b_ProofDeskModel_number 82 = .ok (.iadd, 1) := by decide +kernel
theorem d_ProofDeskModel_number_83 : decode b_ProofDeskModel_number 83 = .ok (.aload_n 1, 1) := by decide +kernel
theorem d_ProofDeskModel_number_84 : decode b_ProofDeskModel_number 84 = .ok (.iload_n 2, 1) := by decide +kernel
theorem d_ProofDeskModel_number_85 : decode b_ProofDeskModel_number 85 = .ok (.iload 5, 2) := by decide +kernel
theorem d_ProofDeskModel_number_87 : decode b_ProofDeskModel_number 87 = .ok (.iadd, 1) := by decide +kernel
theorem d_ProofDeskModel_number_88 : decode b_ProofDeskModel_number 88 = .ok (.iaload, 1) := by decide +kernel
theorem d_ProofDeskModel_number_89 : decode b_ProofDeskModel_number 89 = .ok (.iastore, 1) := by decide +kernel
theorem d_ProofDeskModel_number_90 : decode b_ProofDeskModel_number 90 = .ok (.iinc 5 1, 3) := by decide +kernel
theorem d_ProofDeskModel_number_93 : decode b_ProofDeskModel_number 93 = .ok (.goto (-55), 3) := by decide +kernel
theorem d_ProofDeskModel_number_96 : decode b_ProofDeskModel_number 96 = .ok (.aload_n 0, 1) := by decide +kernel
theorem d_ProofDeskModel_number_97 : decode b_ProofDeskModel_number 97 = .ok (.dup, 1) := by decide +kernel
theorem d_ProofDeskModel_number_98 : decode b_ProofDeskModel_number 98 = .ok (.getfield 186, 3) := by decide +kernel
theorem d_ProofDeskModel_number_101 : decode b_ProofDeskModel_number 101 = .ok (.iconst 1, 1) := by decide +kernel
theorem d_ProofDeskModel_number_102 : decode b_ProofDeskModel_number 102 = .ok (.iadd, 1) := by decide +kernel
theorem d_ProofDeskModel_number_103 : decode b_ProofDeskModel_number 103 = .ok (.putfield 186, 3) := by decide +kernel
theorem d_ProofDeskModel_number_106 : decode b_ProofDeskModel_number 106 = .ok (.aload_n 0, 1) := by decide +kernel
theorem d_ProofDeskModel_number_107 : decode b_ProofDeskModel_number 107 = .ok (.getfield 183, 3) := by decide +kernel
theorem d_ProofDeskModel_number_110 : decode b_ProofDeskModel_number 110 = .ok (.aload_n 0, 1) := by decide +kernel
theorem d_ProofDeskModel_number_111 : decode b_ProofDeskModel_number 111 = .ok (.getfield 186, 3) := by decide +kernel
theorem d_ProofDeskModel_number_114 : decode b_ProofDeskModel_number 114 = .ok (.aload_n 0, 1) := by decide +kernel
theorem d_ProofDeskModel_number_115 : decode b_ProofDeskModel_number 115 = .ok (.getfield 183, 3) := by decide +kernel
theorem d_ProofDeskModel_number_118 : decode b_ProofDeskModel_number 118 = .ok (.aload_n 0, 1) := by decide +kernel
theorem d_ProofDeskModel_number_119 : decode b_ProofDeskModel_number 119 = .ok (.getfield 186, 3) := by decide +kernel
theorem d_ProofDeskModel_number_122 : decode b_ProofDeskModel_number 122 = .ok (.iconst 1, 1) := by decide +kernel
theorem d_ProofDeskModel_number_123 : decode b_ProofDeskModel_number 123 = .ok (.isub, 1) := by decide +kernel
theorem d_ProofDeskModel_number_124 : decode b_ProofDeskModel_number 124 = .ok (.iaload, 1) := by decide +kernel
theorem d_ProofDeskModel_number_125 : decode b_ProofDeskModel_number 125 = .ok (.iload_n 3, 1) := by decide +kernel
theorem d_ProofDeskModel_number_126 : decode b_ProofDeskModel_number 126 = .ok (.iadd, 1) := by decide +kernel
theorem d_ProofDeskModel_number_127 : decode b_ProofDeskModel_number 127 = .ok (.iastore, 1) := by decide +kernel
theorem d_ProofDeskModel_number_128 : decode b_ProofDeskModel_number 128 = .ok (.aload_n 0, 1) := by decide +kernel
theorem d_ProofDeskModel_number_129 : decode b_ProofDeskModel_number 129 = .ok (.getfield 186, 3) := by decide +kernel
theorem d_ProofDeskModel_number_132 : decode b_ProofDeskModel_number 132 = .ok (.iconst 1, 1) := by decide +kernel
theorem d_ProofDeskModel_number_133 : decode b_ProofDeskModel_number 133 = .ok (.isub, 1) := by decide +kernel
theorem d_ProofDeskModel_number_134 : decode b_ProofDeskModel_number 134 = .ok (.ireturn, 1) := by decide +kernel
set_option maxHeartbeats 4000000 in
set_option maxRecDepth 100000 in
theorem c_M_number0 (l : Launch) (D : va_G) (cI cB cZ cS : ClassId) (sz : Nat) (h0 : Nat) (lt : Nat) (st : Nat) (a : Nat) (g_0 : Value) (g_1 : Value) (g_2 : Value) (g_3 : Value) (g_4 : Value) (g_5 : Value) (g_6 : Value) (g_7 : Value) (g_8 : Value) (g_9 : Value) (g_10 : Value) (g_11 : Value) (g_12 : Value) (g_13 : Value) (g_14 : Value) (g_15 : Value) (g_16 : Value) (g_17 : Value) (g_18 : Value) (g_19 : Value) (g_20 : Value) (g_21 : Value) (g_22 : Value) (g_23 : Value) (g_24 : Value) (g_25 : Value) (g_26 : Value) (g_30 : Value) (g_31 : Value) (g_32 : Value) (g_33 : Value) (g_34 : Value) (g_35 : Value) (g_36 : Value) (g_37 : Value) (g_38 : Value) (g_39 : Value) (g_40 : Value) (g_41 : Value) (g_42 : Value) (g_43 : Value) (g_44 : Value) (g_45 : Value) (g_46 : Value) (g_47 : Value) (g_48 : Value) (g_49 : Value) (g_50 : Value) (g_51 : Value) (g_52 : Value) (g_53 : Value) (g_54 : Value) (g_55 : Value) : Met l y_ProofDeskModel_number (zc y_ProofDeskModel_number b_ProofDeskModel_number 6 (some .int)) ({ frames := 2, cells := 0, slots := 0, locals := 42 }) (zPc D (zty cI cB cZ cS) [(h0, .inr (16, [g_0, g_1, g_2, g_3, g_4, g_5, g_6, g_7, g_8, g_9, g_10, g_11, g_12, g_13, g_14, g_15, g_16, g_17, g_18, g_19, g_20, g_21, g_22, g_23, g_24, g_25, g_26, .ref lt, .ref st, .int 0, g_30, g_31, g_32, g_33, g_34, g_35, g_36, g_37, g_38, g_39, g_40, g_41, g_42, g_43, g_44, g_45, g_46, g_47, g_48, g_49, g_50, g_51, g_52, g_53, g_54, g_55])), (lt, .inl (cI, 256, .inl (fun _ => 0))), (st, .inl (cI, 64, .inl (fun _ => 0))), (a, .inl (cI, 16400, .inl (upd (upd (fun _ => 0) 0 77) 1 120)))] sz [.ref h0, .ref a, .int 0, .int 1]) (va_Qi (fun (r : Int32) (_ : Unit) => r = 0) (fun _ t => va_P D zcl [(h0, .inr (16, [g_0, g_1, g_2, g_3, g_4, g_5, g_6, g_7, g_8, g_9, g_10, g_11, g_12, g_13, g_14, g_15, g_16, g_17, g_18, g_19, g_20, g_21, g_22, g_23, g_24, g_25, g_26, .ref lt, .ref st, .int 1, g_30, g_31, g_32, g_33, g_34, g_35, g_36, g_37, g_38, g_39, g_40, g_41, g_42, g_43, g_44, g_45, g_46, g_47, g_48, g_49, g_50, g_51, g_52, g_53, g_54, g_55])), (lt, .inl (cI, 256, .inl (upd (fun _ => 0) 0 77))), (st, .inl (cI, 64, .inl (upd (fun _ => 0) 1 1))), (a, .inl (cI, 16400, .inl (upd (upd (fun _ => 0) 0 77) 1 120)))] t.heap ∧ va_D (va_A [(h0, .inr (16, [g_0, g_1, g_2, g_3, g_4, g_5, g_6, g_7, g_8, g_9, g_10, g_11, g_12, g_13, g_14, g_15, g_16, g_17, g_18, g_19, g_20, g_21, g_22, g_23, g_24, g_25, g_26, .ref lt, .ref st, .int 0, g_30, g_31, g_32, g_33, g_34, g_35, g_36, g_37, g_38, g_39, g_40, g_41, g_42, g_43, g_44, g_45, g_46, g_47, g_48, g_49, g_50, g_51, g_52, g_53, g_54, g_55])), (lt, .inl (cI, 256, .inl (fun _ => 0))), (st, .inl (cI, 64, .inl (fun _ => 0))), (a, .inl (cI, 16400, .inl (upd (upd (fun _ => 0) 0 77) 1 120)))] sz) [(h0, .inr (16, [g_0, g_1, g_2, g_3, g_4, g_5, g_6, g_7, g_8, g_9, g_10, g_11, g_12, g_13, g_14, g_15, g_16, g_17, g_18, g_19, g_20, g_21, g_22, g_23, g_24, g_25, g_26, .ref lt, .ref st, .int 1, g_30, g_31, g_32, g_33, g_34, g_35, g_36, g_37, g_38, g_39, g_40, g_41, g_42, g_43, g_44, g_45, g_46, g_47, g_48, g_49, g_50, g_51, g_52, g_53, g_54, g_55])), (lt, .inl (cI, 256, .inl (upd (fun _ => 0) 0 77))), (st, .inl (cI, 64, .inl (upd (fun _ => 0) 1 1))), (a, .inl (cI, 16400, .inl (upd (upd (fun _ => 0) 0 77) 1 120)))]) (va_A [(h0, .inr (16, [g_0, g_1, g_2, g_3, g_4, g_5, g_6, g_7, g_8, g_9, g_10, g_11, g_12, g_13, g_14, g_15, g_16, g_17, g_18, g_19, g_20, g_21, g_22, g_23, g_24, g_25, g_26, .ref lt, .ref st, .int 0, g_30, g_31, g_32, g_33, g_34, g_35, g_36, g_37, g_38, g_39, g_40, g_41, g_42, g_43, g_44, g_45, g_46, g_47, g_48, g_49, g_50, g_51, g_52, g_53, g_54, g_55])), (lt, .inl (cI, 256, .inl (fun _ => 0))), (st, .inl (cI, 64, .inl (fun _ => 0))), (a, .inl (cI, 16400, .inl (upd (upd (fun _ => 0) 0 77) 1 120)))] sz)) 0 0 (va_A [(h0, .inr (16, [g_0, g_1, g_2, g_3, g_4, g_5, g_6, g_7, g_8, g_9, g_10, g_11, g_12, g_13, g_14, g_15, g_16, g_17, g_18, g_19, g_20, g_21, g_22, g_23, g_24, g_25, g_26, .ref lt, .ref st, .int 0, g_30, g_31, g_32, g_33, g_34, g_35, g_36, g_37, g_38, g_39, g_40, g_41, g_42, g_43, g_44, g_45, g_46, g_47, g_48, g_49, g_50, g_51, g_52, g_53, g_54, g_55])), (lt, .inl (cI, 256, .inl (fun _ => 0))), (st, .inl (cI, 64, .inl (fun _ => 0))), (a, .inl (cI, 16400, .inl (upd (upd (fun _ => 0) 0 77) 1 120)))] sz) := by
  refine Met.ofW (cc := b_ProofDeskModel_number) (maxL := 6) (ret := (some .int)) (by decide) rfl ?_
  intro p e s m args below meth c s₁ B hml hv
  obtain ⟨rfl, hsz, hP, ⟨hK, hN⟩, hD0⟩ := hv
  have hx := B.exec
  have hb := B.bytes
  have hr := B.returns
  have hts0 := atoms_spec (ws := zc y_ProofDeskModel_number b_ProofDeskModel_number 6 (some .int)) B.pre
  have hts : ∀ w ∈ zw, w.before _ s = true := fun w hw => hts0 w (List.mem_cons_of_mem _ hw)
  have hown : s.vm.findClass "ProofDeskModel" = some m.cls := findClass_of_methodNamed B.named
  have hlocks := B.notSynchronized
  subst hsz
  have hD := hD0.self (sz := s.heap.size)
  generalize hAe : va_A [(h0, .inr (16, [g_0, g_1, g_2, g_3, g_4, g_5, g_6, g_7, g_8, g_9, g_10, g_11, g_12, g_13, g_14, g_15, g_16, g_17, g_18, g_19, g_20, g_21, g_22, g_23, g_24, g_25, g_26, .ref lt, .ref st, .int 0, g_30, g_31, g_32, g_33, g_34, g_35, g_36, g_37, g_38, g_39, g_40, g_41, g_42, g_43, g_44, g_45, g_46, g_47, g_48, g_49, g_50, g_51, g_52, g_53, g_54, g_55])), (lt, .inl (cI, 256, .inl (fun _ => 0))), (st, .inl (cI, 64, .inl (fun _ => 0))), (a, .inl (cI, 16400, .inl (upd (upd (fun _ => 0) 0 77) 1 120)))] s.heap.size = A at hD ⊢
  have hA : ∀ q : Nat, s.heap.size ≤ q → A q := fun q h => by rw [← hAe]; exact Or.inr h
  have hS : va_S A s.heap s.heap [] := va_S.rf
  have hP : va_P D zcl [(h0, .inr (16, [g_0, g_1, g_2, g_3, g_4, g_5, g_6, g_7, g_8, g_9, g_10, g_11, g_12, g_13, g_14, g_15, g_16, g_17, g_18, g_19, g_20, g_21, g_22, g_23, g_24, g_25, g_26, .ref lt, .ref st, .int 0, g_30, g_31, g_32, g_33, g_34, g_35, g_36, g_37, g_38, g_39, g_40, g_41, g_42, g_43, g_44, g_45, g_46, g_47, g_48, g_49, g_50, g_51, g_52, g_53, g_54, g_55])), (lt, .inl (cI, 256, .inl (fun _ => 0))), (st, .inl (cI, 64, .inl (fun _ => 0))), (a, .inl (cI, 16400, .inl (upd (upd (fun _ => 0) 0 77) 1 120)))] s.heap := hP
  have hl := lv_entry ([.ref h0, .ref a, .int 0, .int 1]) (n := 6) (Nat.le_of_ble_eq_true rfl)
  rw [lg_entry_eq]
  generalize (lg_sl ([.ref h0, .ref a, .int 0, .int 1]) ++ List.replicate (6 - (lg_sl ([.ref h0, .ref a, .int 0, .int 1])).length) Slot.unset).toArray = ls at hl ⊢
  have hl : lv_has ls 6 [(0, .ref h0), (1, .ref a), (2, .int 0), (3, .int 1)] := hl
  refine lv_aload_n hx hb d_ProofDeskModel_number_0 rfl (lv_at hl 0 rfl) ?_
  refine lv_aload_n hx hb d_ProofDeskModel_number_1 rfl (lv_at hl 1 rfl) ?_
  refine lv_iload_n hx hb d_ProofDeskModel_number_2 rfl (lv_at hl 2 rfl) ?_
  refine lv_iload_n hx hb d_ProofDeskModel_number_3 rfl (lv_at hl 3 rfl) ?_
  have hPc := hP.sub (ws' := [(h0, .inr (16, [g_0, g_1, g_2, g_3, g_4, g_5, g_6, g_7, g_8, g_9, g_10, g_11, g_12, g_13, g_14, g_15, g_16, g_17, g_18, g_19, g_20, g_21, g_22, g_23, g_24, g_25, g_26, .ref lt, .ref st, .int 0, g_30, g_31, g_32, g_33, g_34, g_35, g_36, g_37, g_38, g_39, g_40, g_41, g_42, g_43, g_44, g_45, g_46, g_47, g_48, g_49, g_50, g_51, g_52, g_53, g_54, g_55])), (lt, .inl (cI, 256, .inl (fun _ => 0))), (st, .inl (cI, 64, .inl (fun _ => 0))), (a, .inl (cI, 16400, .inl (upd (upd (fun _ => 0) 0 77) 1 120)))]) [0, 1, 2, 3] rfl
  have hDc := hD.sub (ws' := [(h0, .inr (16, [g_0, g_1, g_2, g_3, g_4, g_5, g_6, g_7, g_8, g_9, g_10, g_11, g_12, g_13, g_14, g_15, g_16, g_17, g_18, g_19, g_20, g_21, g_22, g_23, g_24, g_25, g_26, .ref lt, .ref st, .int 0, g_30, g_31, g_32, g_33, g_34, g_35, g_36, g_37, g_38, g_39, g_40, g_41, g_42, g_43, g_44, g_45, g_46, g_47, g_48, g_49, g_50, g_51, g_52, g_53, g_54, g_55])), (lt, .inl (cI, 256, .inl (fun _ => 0))), (st, .inl (cI, 64, .inl (fun _ => 0))), (a, .inl (cI, 16400, .inl (upd (upd (fun _ => 0) 0 77) 1 120)))]) [0, 1, 2, 3] (by decide +kernel) rfl
  have hFc := va_free (wc := [(h0, .inr (16, [g_0, g_1, g_2, g_3, g_4, g_5, g_6, g_7, g_8, g_9, g_10, g_11, g_12, g_13, g_14, g_15, g_16, g_17, g_18, g_19, g_20, g_21, g_22, g_23, g_24, g_25, g_26, .ref lt, .ref st, .int 0, g_30, g_31, g_32, g_33, g_34, g_35, g_36, g_37, g_38, g_39, g_40, g_41, g_42, g_43, g_44, g_45, g_46, g_47, g_48, g_49, g_50, g_51, g_52, g_53, g_54, g_55])), (lt, .inl (cI, 256, .inl (fun _ => 0))), (st, .inl (cI, 64, .inl (fun _ => 0))), (a, .inl (cI, 16400, .inl (upd (upd (fun _ => 0) 0 77) 1 120)))]) hD hS hA [0, 1, 2, 3] rfl
  have hkc : 0 + 0 ≤ 0 := by omega
  have hks : 0 + 0 ≤ 0 := by omega
  refine va_calli (va_runV (As := [.ref a, .int 0, .int 1]) (rest := []) ⟨hx, hb, hml, hown, hts⟩ (c_M_seek0 l D cI cB cZ cS s.heap.size h0 lt st a g_0 g_1 g_2 g_3 g_4 g_5 g_6 g_7 g_8 g_9 g_10 g_11 g_12 g_13 g_14 g_15 g_16 g_17 g_18 g_19 g_20 g_21 g_22 g_23 g_24 g_25 g_26 g_30 g_31 g_32 g_33 g_34 g_35 g_36 g_37 g_38 g_39 g_40 g_41 g_42 g_43 g_44 g_45 g_46 g_47 g_48 g_49 g_50 g_51 g_52 g_53 g_54 g_55) (⟨callB_of 3 hts (zgood kw_2004) rfl rfl rfl (hts _ kw_16) (hts _ kw_2001) (by decide +kernel) ⟨Nat.le_of_ble_eq_true rfl, Nat.le_of_ble_eq_true rfl⟩, hts _ kw_2003, hts _ kp_127⟩) (zPreV hPc hK hN hDc (va_recv (q := ("ProofDeskModel", F_ProofDeskModel, 56)) hK hP rfl (q0 := 0) rfl)) rfl rfl hl.1 rfl (lv_room (Nat.le_of_ble_eq_true rfl)) d_ProofDeskModel_number_4 ⟨hkc, hks⟩) hS (fun q _ h => hFc q h) hFc (fun r u t H1 locs ht hvm hw hB hz1 hk1 hS => ?_)
  obtain ⟨hP1, hD1⟩ := hB
  rw [ht] at hP1
  obtain ⟨hP, hD⟩ := va_join (wr := []) (w1 := [(h0, .inr (16, [g_0, g_1, g_2, g_3, g_4, g_5, g_6, g_7, g_8, g_9, g_10, g_11, g_12, g_13, g_14, g_15, g_16, g_17, g_18, g_19, g_20, g_21, g_22, g_23, g_24, g_25, g_26, .ref lt, .ref st, .int 0, g_30, g_31, g_32, g_33, g_34, g_35, g_36, g_37, g_38, g_39, g_40, g_41, g_42, g_43, g_44, g_45, g_46, g_47, g_48, g_49, g_50, g_51, g_52, g_53, g_54, g_55])), (lt, .inl (cI, 256, .inl (fun _ => 0))), (st, .inl (cI, 64, .inl (fun _ => 0))), (a, .inl (cI, 16400, .inl (upd (upd (fun _ => 0) 0 77) 1 120)))]) hP hD [0, 1, 2, 3] [] rfl rfl (by decide +kernel) (by decide +kernel) hk1 hFc hP1 hD1
  generalize H1 = H at hP hS ⊢
  have hP : va_P D zcl [(h0, .inr (16, [g_0, g_1, g_2, g_3, g_4, g_5, g_6, g_7, g_8, g_9, g_10, g_11, g_12, g_13, g_14, g_15, g_16, g_17, g_18, g_19, g_20, g_21, g_22, g_23, g_24, g_25, g_26, .ref lt, .ref st, .int 0, g_30, g_31, g_32, g_33, g_34, g_35, g_36, g_37, g_38, g_39, g_40, g_41, g_42, g_43, g_44, g_45, g_46, g_47, g_48, g_49, g_50, g_51, g_52, g_53, g_54, g_55])), (lt, .inl (cI, 256, .inl (fun _ => 0))), (st, .inl (cI, 64, .inl (fun _ => 0))), (a, .inl (cI, 16400, .inl (upd (upd (fun _ => 0) 0 77) 1 120)))] H := hP
  have hD : va_D A [(h0, .inr (16, [g_0, g_1, g_2, g_3, g_4, g_5, g_6, g_7, g_8, g_9, g_10, g_11, g_12, g_13, g_14, g_15, g_16, g_17, g_18, g_19, g_20, g_21, g_22, g_23, g_24, g_25, g_26, .ref lt, .ref st, .int 0, g_30, g_31, g_32, g_33, g_34, g_35, g_36, g_37, g_38, g_39, g_40, g_41, g_42, g_43, g_44, g_45, g_46, g_47, g_48, g_49, g_50, g_51, g_52, g_53, g_54, g_55])), (lt, .inl (cI, 256, .inl (fun _ => 0))), (st, .inl (cI, 64, .inl (fun _ => 0))), (a, .inl (cI, 16400, .inl (upd (upd (fun _ => 0) 0 77) 1 120)))] := hD
  subst hw
  refine W.widen (k := 0) (n := 0) (by omega) (by omega) ?_
  refine lv_istore (lv' := [(4, .int (-1)), (0, .ref h0), (1, .ref a), (2, .int 0), (3, .int 1)]) hx hb d_ProofDeskModel_number_7 hl (by decide) rfl (fun ls hl => ?_)
  refine lv_iload hx hb d_ProofDeskModel_number_9 (lv_at hl 0 rfl) ?_
  refine lv_iconst (v := (-1)) hx hb d_ProofDeskModel_number_11 (by decide) ?_
  have hc_1 : ((-1) : Int32) = (-1) := by decide +kernel
  refine lv_icmp_eq hx hb d_ProofDeskModel_number_12 rfl (fun _ => ?_) (fun h => absurd hc_1 h)
  refine lv_aload_n hx hb d_ProofDeskModel_number_18 rfl (lv_at hl 1 rfl) ?_
  refine lv_aload_n hx hb d_ProofDeskModel_number_19 rfl (lv_at hl 1 rfl) ?_
  refine va_get (D := D) (ci := 16) (v := .ref st) (C := "ProofDeskModel") (T := F_ProofDeskModel) (N := 56) hx hb hts in_ProofDeskModel hown hK hP 0 rfl rfl 28 (by decide) (hts _ kw_2152) (fun _ h9 => h9) rfl d_ProofDeskModel_number_20 ?_
  refine lv_aload_n hx hb d_ProofDeskModel_number_23 rfl (lv_at hl 1 rfl) ?_
  refine va_get (D := D) (ci := 16) (v := .int 0) (C := "ProofDeskModel") (T := F_ProofDeskModel) (N := 56) hx hb hts in_ProofDeskModel hown hK hP 0 rfl rfl 29 (by decide) (hts _ kw_2153) (fun _ h9 => h9) rfl d_ProofDeskModel_number_24 ?_
  refine lv_iconst (v := 2) hx hb d_ProofDeskModel_number_27 (by decide) ?_
  refine lv_iadd hx hb d_ProofDeskModel_number_28 ?_
  refine zz_i (y := 2) (by decide +kernel) ?_
  have hPc := hP.sub (ws' := [(st, .inl (cI, 64, .inl (fun _ => 0)))]) [2] rfl
  have hDc := hD.sub (ws' := [(st, .inl (cI, 64, .inl (fun _ => 0)))]) [2] (by decide +kernel) rfl
  have hFc := va_free (wc := [(st, .inl (cI, 64, .inl (fun _ => 0)))]) hD hS hA [2] rfl
  have hkc : 0 + 0 ≤ 0 := by omega
  have hks : 0 + 0 ≤ 0 := by omega
  refine va_callr (va_runS (As := [.ref st, .int 2]) (rest := [.ref h0]) ⟨hx, hb, hml, hown, hts⟩ (c_M_room l D cI cB cZ cS H.size st 64 (fun _ => 0) 2 (by decide +kernel)) (⟨callB_of 2 hts (zgood kw_2007) rfl rfl rfl (hts _ kw_16) (hts _ kw_2005) (by decide +kernel) ⟨Nat.le_of_ble_eq_true rfl, Nat.le_of_ble_eq_true rfl⟩, hts _ kw_2006⟩) (zPreS hPc hK hN hDc) rfl rfl hl.1 rfl (lv_room (Nat.le_of_ble_eq_true rfl)) d_ProofDeskModel_number_29 ⟨hkc, hks⟩) hS (fun q _ h => hFc q h) hFc (fun u ra t H1 locs ht hvm hw hB hz1 hk1 hS => ?_)
  obtain ⟨hra, hP1, hD1⟩ := hB
  rw [hra]
  rw [ht] at hP1
  obtain ⟨hP, hD⟩ := va_join (wr := [(h0, .inr (16, [g_0, g_1, g_2, g_3, g_4, g_5, g_6, g_7, g_8, g_9, g_10, g_11, g_12, g_13, g_14, g_15, g_16, g_17, g_18, g_19, g_20, g_21, g_22, g_23, g_24, g_25, g_26, .ref lt, .ref st, .int 0, g_30, g_31, g_32, g_33, g_34, g_35, g_36, g_37, g_38, g_39, g_40, g_41, g_42, g_43, g_44, g_45, g_46, g_47, g_48, g_49, g_50, g_51, g_52, g_53, g_54, g_55])), (lt, .inl (cI, 256, .inl (fun _ => 0))), (a, .inl (cI, 16400, .inl (upd (upd (fun _ => 0) 0 77) 1 120)))]) (w1 := [(st, .inl (cI, 64, .inl (fun _ => 0)))]) hP hD [2] [0, 1, 3] rfl rfl (by decide +kernel) (by decide +kernel) hk1 hFc hP1 hD1
  generalize H1 = H at hP hS ⊢
  have hP : va_P D zcl [(h0, .inr (16, [g_0, g_1, g_2, g_3, g_4, g_5, g_6, g_7, g_8, g_9, g_10, g_11, g_12, g_13, g_14, g_15, g_16, g_17, g_18, g_19, g_20, g_21, g_22, g_23, g_24, g_25, g_26, .ref lt, .ref st, .int 0, g_30, g_31, g_32, g_33, g_34, g_35, g_36, g_37, g_38, g_39, g_40, g_41, g_42, g_43, g_44, g_45, g_46, g_47, g_48, g_49, g_50, g_51, g_52, g_53, g_54, g_55])), (lt, .inl (cI, 256, .inl (fun _ => 0))), (a, .inl (cI, 16400, .inl (upd (upd (fun _ => 0) 0 77) 1 120))), (st, .inl (cI, 64, .inl (fun _ => 0)))] H := hP
  have hD : va_D A [(h0, .inr (16, [g_0, g_1, g_2, g_3, g_4, g_5, g_6, g_7, g_8, g_9, g_10, g_11, g_12, g_13, g_14, g_15, g_16, g_17, g_18, g_19, g_20, g_21, g_22, g_23, g_24, g_25, g_26, .ref lt, .ref st, .int 0, g_30, g_31, g_32, g_33, g_34, g_35, g_36, g_37, g_38, g_39, g_40, g_41, g_42, g_43, g_44, g_45, g_46, g_47, g_48, g_49, g_50, g_51, g_52, g_53, g_54, g_55])), (lt, .inl (cI, 256, .inl (fun _ => 0))), (a, .inl (cI, 16400, .inl (upd (upd (fun _ => 0) 0 77) 1 120))), (st, .inl (cI, 64, .inl (fun _ => 0)))] := hD
  refine W.widen (k := 0) (n := 0) (by omega) (by omega) ?_
  refine va_put (D := D) (ci := 16) (v := .ref st) (ty := (.array .int)) (C := "ProofDeskModel") (T := F_ProofDeskModel) (N := 56) hx hb hts in_ProofDeskModel t_ProofDeskModel t_ProofDeskModel_ok n_ProofDeskModel hown hK hP hD hS 0 rfl rfl 28 (by decide) (hts _ kw_2152) (fun _ h9 => h9) rfl (by decide +kernel) rfl rfl (Nat.le_of_ble_eq_true rfl) d_ProofDeskModel_number_32 (fun H locs hP hD hS => ?_)
  have hP : va_P D zcl [(h0, .inr (16, [g_0, g_1, g_2, g_3, g_4, g_5, g_6, g_7, g_8, g_9, g_10, g_11, g_12, g_13, g_14, g_15, g_16, g_17, g_18, g_19, g_20, g_21, g_22, g_23, g_24, g_25, g_26, .ref lt, .ref st, .int 0, g_30, g_31, g_32, g_33, g_34, g_35, g_36, g_37, g_38, g_39, g_40, g_41, g_42, g_43, g_44, g_45, g_46, g_47, g_48, g_49, g_50, g_51, g_52, g_53, g_54, g_55])), (lt, .inl (cI, 256, .inl (fun _ => 0))), (a, .inl (cI, 16400, .inl (upd (upd (fun _ => 0) 0 77) 1 120))), (st, .inl (cI, 64, .inl (fun _ => 0)))] H := hP
  have hD : va_D A [(h0, .inr (16, [g_0, g_1, g_2, g_3, g_4, g_5, g_6, g_7, g_8, g_9, g_10, g_11, g_12, g_13, g_14, g_15, g_16, g_17, g_18, g_19, g_20, g_21, g_22, g_23, g_24, g_25, g_26, .ref lt, .ref st, .int 0, g_30, g_31, g_32, g_33, g_34, g_35, g_36, g_37, g_38, g_39, g_40, g_41, g_42, g_43, g_44, g_45, g_46, g_47, g_48, g_49, g_50, g_51, g_52, g_53, g_54, g_55])), (lt, .inl (cI, 256, .inl (fun _ => 0))), (a, .inl (cI, 16400, .inl (upd (upd (fun _ => 0) 0 77) 1 120))), (st, .inl (cI, 64, .inl (fun _ => 0)))] := hD
  refine lv_iconst (v := 0) hx hb d_ProofDeskModel_number_35 (by decide) ?_
  refine lv_istore (lv' := [(5, .int 0), (4, .int (-1)), (0, .ref h0), (1, .ref a), (2, .int 0), (3, .int 1)]) hx hb d_ProofDeskModel_number_36 hl (by decide) rfl (fun ls hl => ?_)
  refine lv_iload hx hb d_ProofDeskModel_number_38 (lv_at hl 0 rfl) ?_
  refine lv_iload_n hx hb d_ProofDeskModel_number_40 rfl (lv_at hl 5 rfl) ?_
  have hc_2 : ¬ (1 : Int32) ≤ 0 := by decide +kernel
  refine lv_icmp_ge hx hb d_ProofDeskModel_number_41 rfl (fun h => absurd h hc_2) (fun _ => ?_)
  refine lv_aload_n hx hb d_ProofDeskModel_number_44 rfl (lv_at hl 2 rfl) ?_
  refine lv_aload_n hx hb d_ProofDeskModel_number_45 rfl (lv_at hl 2 rfl) ?_
  refine va_get (D := D) (ci := 16) (v := .ref lt) (C := "ProofDeskModel") (T := F_ProofDeskModel) (N := 56) hx hb hts in_ProofDeskModel hown hK hP 0 rfl rfl 27 (by decide) (hts _ kw_2151) (fun _ h9 => h9) rfl d_ProofDeskModel_number_46 ?_
  refine lv_aload_n hx hb d_ProofDeskModel_number_49 rfl (lv_at hl 2 rfl) ?_
  refine va_get (D := D) (ci := 16) (v := .ref st) (C := "ProofDeskModel") (T := F_ProofDeskModel) (N := 56) hx hb hts in_ProofDeskModel hown hK hP 0 rfl rfl 28 (by decide) (hts _ kw_2152) (fun _ h9 => h9) rfl d_ProofDeskModel_number_50 ?_
  refine lv_aload_n hx hb d_ProofDeskModel_number_53 rfl (lv_at hl 2 rfl) ?_
  refine va_get (D := D) (ci := 16) (v := .int 0) (C := "ProofDeskModel") (T := F_ProofDeskModel) (N := 56) hx hb hts in_ProofDeskModel hown hK hP 0 rfl rfl 29 (by decide) (hts _ kw_2153) (fun _ h9 => h9) rfl d_ProofDeskModel_number_54 ?_
  refine zz_iald (v := 0) hx hb hK hP 3 0 rfl rfl (i := 0) 0 (⟨by decide +kernel, by decide +kernel, by decide +kernel⟩) (by first | rfl | decide +kernel | simp [upd]) d_ProofDeskModel_number_57 ?_
  refine lv_iload hx hb d_ProofDeskModel_number_58 (lv_at hl 0 rfl) ?_
  refine lv_iadd hx hb d_ProofDeskModel_number_60 ?_
  refine zz_i (y := 0) (by decide +kernel) ?_
  have hPc := hP.sub (ws' := [(lt, .inl (cI, 256, .inl (fun _ => 0)))]) [1] rfl
  have hDc := hD.sub (ws' := [(lt, .inl (cI, 256, .inl (fun _ => 0)))]) [1] (by decide +kernel) rfl
  have hFc := va_free (wc := [(lt, .inl (cI, 256, .inl (fun _ => 0)))]) hD hS hA [1] rfl
  have hkc : 0 + 0 ≤ 0 := by omega
  have hks : 0 + 0 ≤ 0 := by omega
  refine va_callr (va_runS (As := [.ref lt, .int 0]) (rest := [.ref h0]) ⟨hx, hb, hml, hown, hts⟩ (c_M_room l D cI cB cZ cS H.size lt 256 (fun _ => 0) 0 (by decide +kernel)) (⟨callB_of 2 hts (zgood kw_2007) rfl rfl rfl (hts _ kw_16) (hts _ kw_2005) (by decide +kernel) ⟨Nat.le_of_ble_eq_true rfl, Nat.le_of_ble_eq_true rfl⟩, hts _ kw_2006⟩) (zPreS hPc hK hN hDc) rfl rfl hl.1 rfl (lv_room (Nat.le_of_ble_eq_true rfl)) d_ProofDeskModel_number_61 ⟨hkc, hks⟩) hS (fun q _ h => hFc q h) hFc (fun u ra t H1 locs ht hvm hw hB hz1 hk1 hS => ?_)
  obtain ⟨hra, hP1, hD1⟩ := hB
  rw [hra]
  rw [ht] at hP1
  obtain ⟨hP, hD⟩ := va_join (wr := [(h0, .inr (16, [g_0, g_1, g_2, g_3, g_4, g_5, g_6, g_7, g_8, g_9, g_10, g_11, g_12, g_13, g_14, g_15, g_16, g_17, g_18, g_19, g_20, g_21, g_22, g_23, g_24, g_25, g_26, .ref lt, .ref st, .int 0, g_30, g_31, g_32, g_33, g_34, g_35, g_36, g_37, g_38, g_39, g_40, g_41, g_42, g_43, g_44, g_45, g_46, g_47, g_48, g_49, g_50, g_51, g_52, g_53, g_54, g_55])), (a, .inl (cI, 16400, .inl (upd (upd (fun _ => 0) 0 77) 1 120))), (st, .inl (cI, 64, .inl (fun _ => 0)))]) (w1 := [(lt, .inl (cI, 256, .inl (fun _ => 0)))]) hP hD [1] [0, 2, 3] rfl rfl (by decide +kernel) (by decide +kernel) hk1 hFc hP1 hD1
  generalize H1 = H at hP hS ⊢
  have hP : va_P D zcl [(h0, .inr (16, [g_0, g_1, g_2, g_3, g_4, g_5, g_6, g_7, g_8, g_9, g_10, g_11, g_12, g_13, g_14, g_15, g_16, g_17, g_18, g_19, g_20, g_21, g_22, g_23, g_24, g_25, g_26, .ref lt, .ref st, .int 0, g_30, g_31, g_32, g_33, g_34, g_35, g_36, g_37, g_38, g_39, g_40, g_41, g_42, g_43, g_44, g_45, g_46, g_47, g_48, g_49, g_50, g_51, g_52, g_53, g_54, g_55])), (a, .inl (cI, 16400, .inl (upd (upd (fun _ => 0) 0 77) 1 120))), (st, .inl (cI, 64, .inl (fun _ => 0))), (lt, .inl (cI, 256, .inl (fun _ => 0)))] H := hP
  have hD : va_D A [(h0, .inr (16, [g_0, g_1, g_2, g_3, g_4, g_5, g_6, g_7, g_8, g_9, g_10, g_11, g_12, g_13, g_14, g_15, g_16, g_17, g_18, g_19, g_20, g_21, g_22, g_23, g_24, g_25, g_26, .ref lt, .ref st, .int 0, g_30, g_31, g_32, g_33, g_34, g_35, g_36, g_37, g_38, g_39, g_40, g_41, g_42, g_43, g_44, g_45, g_46, g_47, g_48, g_49, g_50, g_51, g_52, g_53, g_54, g_55])), (a, .inl (cI, 16400, .inl (upd (upd (fun _ => 0) 0 77) 1 120))), (st, .inl (cI, 64, .inl (fun _ => 0))), (lt, .inl (cI, 256, .inl (fun _ => 0)))] := hD
  refine W.widen (k := 0) (n := 0) (by omega) (by omega) ?_
  refine va_put (D := D) (ci := 16) (v := .ref lt) (ty := (.array .int)) (C := "ProofDeskModel") (T := F_ProofDeskModel) (N := 56) hx hb hts in_ProofDeskModel t_ProofDeskModel t_ProofDeskModel_ok n_ProofDeskModel hown hK hP hD hS 0 rfl rfl 27 (by decide) (hts _ kw_2151) (fun _ h9 => h9) rfl (by decide +kernel) rfl rfl (Nat.le_of_ble_eq_true rfl) d_ProofDeskModel_number_64 (fun H locs hP hD hS => ?_)
  have hP : va_P D zcl [(h0, .inr (16, [g_0, g_1, g_2, g_3, g_4, g_5, g_6, g_7, g_8, g_9, g_10, g_11, g_12, g_13, g_14, g_15, g_16, g_17, g_18, g_19, g_20, g_21, g_22, g_23, g_24, g_25, g_26, .ref lt, .ref st, .int 0, g_30, g_31, g_32, g_33, g_34, g_35, g_36, g_37, g_38, g_39, g_40, g_41, g_42, g_43, g_44, g_45, g_46, g_47, g_48, g_49, g_50, g_51, g_52, g_53, g_54, g_55])), (a, .inl (cI, 16400, .inl (upd (upd (fun _ => 0) 0 77) 1 120))), (st, .inl (cI, 64, .inl (fun _ => 0))), (lt, .inl (cI, 256, .inl (fun _ => 0)))] H := hP
  have hD : va_D A [(h0, .inr (16, [g_0, g_1, g_2, g_3, g_4, g_5, g_6, g_7, g_8, g_9, g_10, g_11, g_12, g_13, g_14, g_15, g_16, g_17, g_18, g_19, g_20, g_21, g_22, g_23, g_24, g_25, g_26, .ref lt, .ref st, .int 0, g_30, g_31, g_32, g_33, g_34, g_35, g_36, g_37, g_38, g_39, g_40, g_41, g_42, g_43, g_44, g_45, g_46, g_47, g_48, g_49, g_50, g_51, g_52, g_53, g_54, g_55])), (a, .inl (cI, 16400, .inl (upd (upd (fun _ => 0) 0 77) 1 120))), (st, .inl (cI, 64, .inl (fun _ => 0))), (lt, .inl (cI, 256, .inl (fun _ => 0)))] := hD
  refine lv_aload_n hx hb d_ProofDeskModel_number_67 rfl (lv_at hl 2 rfl) ?_
  refine va_get (D := D) (ci := 16) (v := .ref lt) (C := "ProofDeskModel") (T := F_ProofDeskModel) (N := 56) hx hb hts in_ProofDeskModel hown hK hP 0 rfl rfl 27 (by decide) (hts _ kw_2151) (fun _ h9 => h9) rfl d_ProofDeskModel_number_68 ?_
  refine lv_aload_n hx hb d_ProofDeskModel_number_71 rfl (lv_at hl 2 rfl) ?_
  refine va_get (D := D) (ci := 16) (v := .ref st) (C := "ProofDeskModel") (T := F_ProofDeskModel) (N := 56) hx hb hts in_ProofDeskModel hown hK hP 0 rfl rfl 28 (by decide) (hts _ kw_2152) (fun _ h9 => h9) rfl d_ProofDeskModel_number_72 ?_
  refine lv_aload_n hx hb d_ProofDeskModel_number_75 rfl (lv_at hl 2 rfl) ?_
  refine va_get (D := D) (ci := 16) (v := .int 0) (C := "ProofDeskModel") (T := F_ProofDeskModel) (N := 56) hx hb hts in_ProofDeskModel hown hK hP 0 rfl rfl 29 (by decide) (hts _ kw_2153) (fun _ h9 => h9) rfl d_ProofDeskModel_number_76 ?_
  refine zz_iald (v := 0) hx hb hK hP 2 0 rfl rfl (i := 0) 0 (⟨by decide +kernel, by decide +kernel, by decide +kernel⟩) (by first | rfl | decide +kernel | simp [upd]) d_ProofDeskModel_number_79 ?_
  refine lv_iload hx hb d_ProofDeskModel_number_80 (lv_at hl 0 rfl) ?_
  refine lv_iadd hx hb d_ProofDeskModel_number_82 ?_
  refine zz_i (y := 0) (by decide +kernel) ?_
  refine lv_aload_n hx hb d_ProofDeskModel_number_83 rfl (lv_at hl 3 rfl) ?_
  refine lv_iload_n hx hb d_ProofDeskModel_number_84 rfl (lv_at hl 4 rfl) ?_
  refine lv_iload hx hb d_ProofDeskModel_number_85 (lv_at hl 0 rfl) ?_
  refine lv_iadd hx hb d_ProofDeskModel_number_87 ?_
  refine zz_i (y := 0) (by decide +kernel) ?_
  refine zz_iald (v := 77) hx hb hK hP 1 0 rfl rfl (i := 0) 0 (⟨by decide +kernel, by decide +kernel, by decide +kernel⟩) (by first | rfl | decide +kernel | simp [upd]) d_ProofDeskModel_number_88 ?_
  refine zz_iast hx hb hK hP hD hS 3 0 rfl rfl (i := 0) (x := 77) 0 (⟨by decide +kernel, by decide +kernel, by decide +kernel⟩) d_ProofDeskModel_number_89 (fun H locs hP hD hS => ?_)
  have hP : va_P D zcl [(h0, .inr (16, [g_0, g_1, g_2, g_3, g_4, g_5, g_6, g_7, g_8, g_9, g_10, g_11, g_12, g_13, g_14, g_15, g_16, g_17, g_18, g_19, g_20, g_21, g_22, g_23, g_24, g_25, g_26, .ref lt, .ref st, .int 0, g_30, g_31, g_32, g_33, g_34, g_35, g_36, g_37, g_38, g_39, g_40, g_41, g_42, g_43, g_44, g_45, g_46, g_47, g_48, g_49, g_50, g_51, g_52, g_53, g_54, g_55])), (a, .inl (cI, 16400, .inl (upd (upd (fun _ => 0) 0 77) 1 120))), (st, .inl (cI, 64, .inl (fun _ => 0))), (lt, .inl (cI, 256, .inl (upd (fun _ => 0) 0 77)))] H := hP
  have hD : va_D A [(h0, .inr (16, [g_0, g_1, g_2, g_3, g_4, g_5, g_6, g_7, g_8, g_9, g_10, g_11, g_12, g_13, g_14, g_15, g_16, g_17, g_18, g_19, g_20, g_21, g_22, g_23, g_24, g_25, g_26, .ref lt, .ref st, .int 0, g_30, g_31, g_32, g_33, g_34, g_35, g_36, g_37, g_38, g_39, g_40, g_41, g_42, g_43, g_44, g_45, g_46, g_47, g_48, g_49, g_50, g_51, g_52, g_53, g_54, g_55])), (a, .inl (cI, 16400, .inl (upd (upd (fun _ => 0) 0 77) 1 120))), (st, .inl (cI, 64, .inl (fun _ => 0))), (lt, .inl (cI, 256, .inl (upd (fun _ => 0) 0 77)))] := hD
  refine lv_iinc (k := 0) (v := 1) (lv' := [(5, .int 1), (4, .int (-1)), (0, .ref h0), (1, .ref a), (2, .int 0), (3, .int 1)]) hx hb d_ProofDeskModel_number_90 hl rfl (by decide +kernel) (by decide) rfl (fun ls hl => ?_)
  refine lv_goto hx hb d_ProofDeskModel_number_93 rfl ?_
  refine lv_iload hx hb d_ProofDeskModel_number_38 (lv_at hl 0 rfl) ?_
  refine lv_iload_n hx hb d_ProofDeskModel_number_40 rfl (lv_at hl 5 rfl) ?_
  have hc_3 : (1 : Int32) ≤ 1 := by decide +kernel
  refine lv_icmp_ge hx hb d_ProofDeskModel_number_41 rfl (fun _ => ?_) (fun h => absurd hc_3 h)
  refine lv_aload_n hx hb d_ProofDeskModel_number_96 rfl (lv_at hl 2 rfl) ?_
  refine lv_dup hx hb d_ProofDeskModel_number_97 rfl ?_
  refine va_get (D := D) (ci := 16) (v := .int 0) (C := "ProofDeskModel") (T := F_ProofDeskModel) (N := 56) hx hb hts in_ProofDeskModel hown hK hP 0 rfl rfl 29 (by decide) (hts _ kw_2153) (fun _ h9 => h9) rfl d_ProofDeskModel_number_98 ?_
  refine lv_iconst (v := 1) hx hb d_ProofDeskModel_number_101 (by decide) ?_
  refine lv_iadd hx hb d_ProofDeskModel_number_102 ?_
  refine zz_i (y := 1) (by decide +kernel) ?_
  refine va_put (D := D) (ci := 16) (v := .int 1) (ty := .int) (C := "ProofDeskModel") (T := F_ProofDeskModel) (N := 56) hx hb hts in_ProofDeskModel t_ProofDeskModel t_ProofDeskModel_ok n_ProofDeskModel hown hK hP hD hS 0 rfl rfl 29 (by decide) (hts _ kw_2153) (fun _ h9 => h9) rfl (by decide +kernel) rfl rfl (Nat.le_of_ble_eq_true rfl) d_ProofDeskModel_number_103 (fun H locs hP hD hS => ?_)
  have hP : va_P D zcl [(h0, .inr (16, [g_0, g_1, g_2, g_3, g_4, g_5, g_6, g_7, g_8, g_9, g_10, g_11, g_12, g_13, g_14, g_15, g_16, g_17, g_18, g_19, g_20, g_21, g_22, g_23, g_24, g_25, g_26, .ref lt, .ref st, .int 1, g_30, g_31, g_32, g_33, g_34, g_35, g_36, g_37, g_38, g_39, g_40, g_41, g_42, g_43, g_44, g_45, g_46, g_47, g_48, g_49, g_50, g_51, g_52, g_53, g_54, g_55])), (a, .inl (cI, 16400, .inl (upd (upd (fun _ => 0) 0 77) 1 120))), (st, .inl (cI, 64, .inl (fun _ => 0))), (lt, .inl (cI, 256, .inl (upd (fun _ => 0) 0 77)))] H := hP
  have hD : va_D A [(h0, .inr (16, [g_0, g_1, g_2, g_3, g_4, g_5, g_6, g_7, g_8, g_9, g_10, g_11, g_12, g_13, g_14, g_15, g_16, g_17, g_18, g_19, g_20, g_21, g_22, g_23, g_24, g_25, g_26, .ref lt, .ref st, .int 1, g_30, g_31, g_32, g_33, g_34, g_35, g_36, g_37, g_38, g_39, g_40, g_41, g_42, g_43, g_44, g_45, g_46, g_47, g_48, g_49, g_50, g_51, g_52, g_53, g_54, g_55])), (a, .inl (cI, 16400, .inl (upd (upd (fun _ => 0) 0 77) 1 120))), (st, .inl (cI, 64, .inl (fun _ => 0))), (lt, .inl (cI, 256, .inl (upd (fun _ => 0) 0 77)))] := hD
  refine lv_aload_n hx hb d_ProofDeskModel_number_106 rfl (lv_at hl 2 rfl) ?_
  refine va_get (D := D) (ci := 16) (v := .ref st) (C := "ProofDeskModel") (T := F_ProofDeskModel) (N := 56) hx hb hts in_ProofDeskModel hown hK hP 0 rfl rfl 28 (by decide) (hts _ kw_2152) (fun _ h9 => h9) rfl d_ProofDeskModel_number_107 ?_
  refine lv_aload_n hx hb d_ProofDeskModel_number_110 rfl (lv_at hl 2 rfl) ?_
  refine va_get (D := D) (ci := 16) (v := .int 1) (C := "ProofDeskModel") (T := F_ProofDeskModel) (N := 56) hx hb hts in_ProofDeskModel hown hK hP 0 rfl rfl 29 (by decide) (hts _ kw_2153) (fun _ h9 => h9) rfl d_ProofDeskModel_number_111 ?_
  refine lv_aload_n hx hb d_ProofDeskModel_number_114 rfl (lv_at hl 2 rfl) ?_
  refine va_get (D := D) (ci := 16) (v := .ref st) (C := "ProofDeskModel") (T := F_ProofDeskModel) (N := 56) hx hb hts in_ProofDeskModel hown hK hP 0 rfl rfl 28 (by decide) (hts _ kw_2152) (fun _ h9 => h9) rfl d_ProofDeskModel_number_115 ?_
  refine lv_aload_n hx hb d_ProofDeskModel_number_118 rfl (lv_at hl 2 rfl) ?_
  refine va_get (D := D) (ci := 16) (v := .int 1) (C := "ProofDeskModel") (T := F_ProofDeskModel) (N := 56) hx hb hts in_ProofDeskModel hown hK hP 0 rfl rfl 29 (by decide) (hts _ kw_2153) (fun _ h9 => h9) rfl d_ProofDeskModel_number_119 ?_
  refine lv_iconst (v := 1) hx hb d_ProofDeskModel_number_122 (by decide) ?_
  refine lv_isub hx hb d_ProofDeskModel_number_123 ?_
  refine zz_i (y := 0) (by decide +kernel) ?_
  refine zz_iald (v := 0) hx hb hK hP 2 0 rfl rfl (i := 0) 0 (⟨by decide +kernel, by decide +kernel, by decide +kernel⟩) (by first | rfl | decide +kernel | simp [upd]) d_ProofDeskModel_number_124 ?_
  refine lv_iload_n hx hb d_ProofDeskModel_number_125 rfl (lv_at hl 5 rfl) ?_
  refine lv_iadd hx hb d_ProofDeskModel_number_126 ?_
  refine zz_i (y := 1) (by decide +kernel) ?_
  refine zz_iast hx hb hK hP hD hS 2 0 rfl rfl (i := 1) (x := 1) 1 (⟨by decide +kernel, by decide +kernel, by decide +kernel⟩) d_ProofDeskModel_number_127 (fun H locs hP hD hS => ?_)
  have hP : va_P D zcl [(h0, .inr (16, [g_0, g_1, g_2, g_3, g_4, g_5, g_6, g_7, g_8, g_9, g_10, g_11, g_12, g_13, g_14, g_15, g_16, g_17, g_18, g_19, g_20, g_21, g_22, g_23, g_24, g_25, g_26, .ref lt, .ref st, .int 1, g_30, g_31, g_32, g_33, g_34, g_35, g_36, g_37, g_38, g_39, g_40, g_41, g_42, g_43, g_44, g_45, g_46, g_47, g_48, g_49, g_50, g_51, g_52, g_53, g_54, g_55])), (a, .inl (cI, 16400, .inl (upd (upd (fun _ => 0) 0 77) 1 120))), (st, .inl (cI, 64, .inl (upd (fun _ => 0) 1 1))), (lt, .inl (cI, 256, .inl (upd (fun _ => 0) 0 77)))] H := hP
  have hD : va_D A [(h0, .inr (16, [g_0, g_1, g_2, g_3, g_4, g_5, g_6, g_7, g_8, g_9, g_10, g_11, g_12, g_13, g_14, g_15, g_16, g_17, g_18, g_19, g_20, g_21, g_22, g_23, g_24, g_25, g_26, .ref lt, .ref st, .int 1, g_30, g_31, g_32, g_33, g_34, g_35, g_36, g_37, g_38, g_39, g_40, g_41, g_42, g_43, g_44, g_45, g_46, g_47, g_48, g_49, g_50, g_51, g_52, g_53, g_54, g_55])), (a, .inl (cI, 16400, .inl (upd (upd (fun _ => 0) 0 77) 1 120))), (st, .inl (cI, 64, .inl (upd (fun _ => 0) 1 1))), (lt, .inl (cI, 256, .inl (upd (fun _ => 0) 0 77)))] := hD
  refine lv_aload_n hx hb d_ProofDeskModel_number_128 rfl (lv_at hl 2 rfl) ?_
  refine va_get (D := D) (ci := 16) (v := .int 1) (C := "ProofDeskModel") (T := F_ProofDeskModel) (N := 56) hx hb hts in_ProofDeskModel hown hK hP 0 rfl rfl 29 (by decide) (hts _ kw_2153) (fun _ h9 => h9) rfl d_ProofDeskModel_number_129 ?_
  refine lv_iconst (v := 1) hx hb d_ProofDeskModel_number_132 (by decide) ?_
  refine lv_isub hx hb d_ProofDeskModel_number_133 ?_
  refine zz_i (y := 0) (by decide +kernel) ?_
  have hP9 := hP.sub (ws' := [(h0, .inr (16, [g_0, g_1, g_2, g_3, g_4, g_5, g_6, g_7, g_8, g_9, g_10, g_11, g_12, g_13, g_14, g_15, g_16, g_17, g_18, g_19, g_20, g_21, g_22, g_23, g_24, g_25, g_26, .ref lt, .ref st, .int 1, g_30, g_31, g_32, g_33, g_34, g_35, g_36, g_37, g_38, g_39, g_40, g_41, g_42, g_43, g_44, g_45, g_46, g_47, g_48, g_49, g_50, g_51, g_52, g_53, g_54, g_55])), (lt, .inl (cI, 256, .inl (upd (fun _ => 0) 0 77))), (st, .inl (cI, 64, .inl (upd (fun _ => 0) 1 1))), (a, .inl (cI, 16400, .inl (upd (upd (fun _ => 0) 0 77) 1 120)))]) [0, 3, 2, 1] rfl
  have hD9 := hD.sub (ws' := [(h0, .inr (16, [g_0, g_1, g_2, g_3, g_4, g_5, g_6, g_7, g_8, g_9, g_10, g_11, g_12, g_13, g_14, g_15, g_16, g_17, g_18, g_19, g_20, g_21, g_22, g_23, g_24, g_25, g_26, .ref lt, .ref st, .int 1, g_30, g_31, g_32, g_33, g_34, g_35, g_36, g_37, g_38, g_39, g_40, g_41, g_42, g_43, g_44, g_45, g_46, g_47, g_48, g_49, g_50, g_51, g_52, g_53, g_54, g_55])), (lt, .inl (cI, 256, .inl (upd (fun _ => 0) 0 77))), (st, .inl (cI, 64, .inl (upd (fun _ => 0) 1 1))), (a, .inl (cI, 16400, .inl (upd (upd (fun _ => 0) 0 77) 1 120)))]) [0, 3, 2, 1] (by decide +kernel) rfl
  refine W.widen (k := 0) (n := 0) (by omega) (by omega) ?_
  exact W.iret (v := 0) hx hb hr (fun t ht hW => ⟨⟨0, (), rfl, rfl, by rw [ht]; exact hP9, hD9⟩, hS.F ht⟩) hS.2.2 d_ProofDeskModel_number_134
theorem d_ProofDeskModel_seek_12 : decode b_ProofDeskModel_seek 12 = .ok (.aload_n 0, 1) := by decide +kernel
theorem d_ProofDeskModel_seek_13 : decode b_ProofDeskModel_seek 13 = .ok (.getfield 183, 3) := by decide +kernel
theorem d_ProofDeskModel_seek_16 : decode b_ProofDeskModel_seek 16 = .ok (.iload 4, 2) := by decide +kernel
theorem d_ProofDeskModel_seek_18 : decode b_ProofDeskModel_seek 18 = .ok (.iconst 1, 1) := by decide +kernel
theorem d_ProofDeskModel_seek_19 : decode b_ProofDeskModel_seek 19 = .ok (.iadd, 1) := by decide +kernel
theorem d_ProofDeskModel_seek_20 : decode b_ProofDeskModel_seek 20 = .ok (.iaload, 1) := by decide +kernel
theorem d_ProofDeskModel_seek_21 : decode b_ProofDeskModel_seek 21 = .ok (.aload_n 0, 1) := by decide +kernel
theorem d_ProofDeskModel_seek_22 : decode b_ProofDeskModel_seek 22 = .ok (.getfield 183, 3) := by decide +kernel
theorem d_ProofDeskModel_seek_25 : decode b_ProofDeskModel_seek 25 = .ok (.iload 4, 2) := by decide +kernel
theorem d_ProofDeskModel_seek_27 : decode b_ProofDeskModel_seek 27 = .ok (.iaload, 1) := by decide +kernel
theorem d_ProofDeskModel_seek_28 : decode b_ProofDeskModel_seek 28 = .ok (.isub, 1) := by decide +kernel
theorem d_ProofDeskModel_seek_29 : decode b_ProofDeskModel_seek 29 = .ok (.iload_n 3, 1) := by decide +kernel
theorem d_ProofDeskModel_seek_30 : decode b_ProofDeskModel_seek 30 = .ok (.if_icmp .ne 7, 3) := by decide +kernel
theorem d_ProofDeskModel_seek_33 : decode b_ProofDeskModel_seek 33 = .ok (.iconst 1, 1) := by decide +kernel
theorem d_ProofDeskModel_seek_34 : decode b_ProofDeskModel_seek 34 = .ok (.goto 4, 3) := by decide +kernel
theorem d_ProofDeskModel_seek_38 : decode b_ProofDeskModel_seek 38 = .ok (.istore 5, 2) := by decide +kernel
theorem d_ProofDeskModel_seek_40 : decode b_ProofDeskModel_seek 40 = .ok (.iconst 0, 1) := by decide +kernel
theorem d_ProofDeskModel_seek_41 : decode b_ProofDeskModel_seek 41 = .ok (.istore 6, 2) := by decide +kernel
theorem d_ProofDeskModel_seek_43 : decode b_ProofDeskModel_seek 43 = .ok (.iload 6, 2) := by decide +kernel
theorem d_ProofDeskModel_seek_45 : decode b_ProofDeskModel_seek 45 = .ok (.iload_n 3, 1) := by decide +kernel
theorem d_ProofDeskModel_seek_46 : decode b_ProofDeskModel_seek 46 = .ok (.if_icmp .ge 45, 3) := by decide +kernel
theorem d_ProofDeskModel_seek_49 : decode b_ProofDeskModel_seek 49 = .ok (.iload 5, 2) := by decide +kernel
theorem d_ProofDeskModel_seek_51 : decode b_ProofDeskModel_seek 51 = .ok (.ifCond .eq 40, 3) := by decide +kernel
theorem d_ProofDeskModel_seek_54 : decode b_ProofDeskModel_seek 54 = .ok (.aload_n 0, 1) := by decide +kernel
theorem d_ProofDeskModel_seek_55 : decode b_ProofDeskModel_seek 55 = .ok (.getfield 189, 3) := by decide +kernel
theorem d_ProofDeskModel_seek_58 : decode b_ProofDeskModel_seek 58 = .ok (.aload_n 0, 1) := by decide +kernel
theorem d_ProofDeskModel_seek_59 : decode b_ProofDeskModel_seek 59 = .ok (.getfield 183, 3) := by decide +kernel
theorem d_ProofDeskModel_seek_62 : decode b_ProofDeskModel_seek 62 = .ok (.iload 4, 2) := by decide +kernel
theorem d_ProofDeskModel_seek_64 : decode b_ProofDeskModel_seek 64 = .ok (.iaload, 1) := by decide +kernel
theorem d_ProofDeskModel_seek_65 : decode b_ProofDeskModel_seek 65 = .ok (.iload 6, 2) := by decide +kernel
theorem d_ProofDeskModel_seek_67 : decode b_ProofDeskModel_seek 67 = .ok (.iadd, 1) := by decide +kernel
theorem d_ProofDeskModel_seek_68 : decode b_ProofDeskModel_seek 68 = .ok (.iaload, 1) := by decide +kernel
theorem d_ProofDeskModel_seek_69 : decode b_ProofDeskModel_seek 69 = .ok (.aload_n 1, 1) := by decide +kernel
theorem d_ProofDeskModel_seek_70 : decode b_ProofDeskModel_seek 70 = .ok (.iload_n 2, 1) := by decide +kernel
theorem d_ProofDeskModel_seek_71 : decode b_ProofDeskModel_seek 71 = .ok (.iload 6, 2) := by decide +kernel
theorem d_ProofDeskModel_seek_73 : decode b_ProofDeskModel_seek 73 = .ok (.iadd, 1) := by decide +kernel
theorem d_ProofDeskModel_seek_74 : decode b_ProofDeskModel_seek 74 = .ok (.iaload, 1) := by decide +kernel
theorem d_ProofDeskModel_seek_75 : decode b_ProofDeskModel_seek 75 = .ok (.if_icmp .ne 7, 3) := by decide +kernel
theorem d_ProofDeskModel_seek_82 : decode b_ProofDeskModel_seek 82 = .ok (.iconst 0, 1) := by decide +kernel
theorem d_ProofDeskModel_seek_83 : decode b_ProofDeskModel_seek 83 = .ok (.istore 5, 2) := by decide +kernel
theorem d_ProofDeskModel_seek_85 : decode b_ProofDeskModel_seek 85 = .ok (.iinc 6 1, 3) := by decide +kernel
theorem d_ProofDeskModel_seek_88 : decode b_ProofDeskModel_seek 88 = .ok (.goto (-45), 3) := by decide +kernel
theorem d_ProofDeskModel_seek_91 : decode b_ProofDeskModel_seek 91 = .ok (.iload 5, 2) := by decide +kernel
theorem d_ProofDeskModel_seek_93 : decode b_ProofDeskModel_seek 93 = .ok (.ifCond .eq 6, 3) := by decide +kernel
theorem d_ProofDeskModel_seek_99 : decode b_ProofDeskModel_seek 99 = .ok (.iinc 4 1, 3) := by decide +kernel
theorem d_ProofDeskModel_seek_102 : decode b_ProofDeskModel_seek 102 = .ok (.goto (-99), 3) := by decide +kernel
set_option maxHeartbeats 4000000 in
set_option maxRecDepth 100000 in
theorem c_M_seek1 (l : Launch) (D : va_G) (cI cB cZ cS : ClassId) (sz : Nat) (h0 : Nat) (lt : Nat) (st : Nat) (a : Nat) (g_0 : Value) (g_1 : Value) (g_2 : Value) (g_3 : Value) (g_4 : Value) (g_5 : Value) (g_6 : Value) (g_7 : Value) (g_8 : Value) (g_9 : Value) (g_10 : Value) (g_11 : Value) (g_12 : Value) (g_13 : Value) (g_14 : Value) (g_15 : Value) (g_16 : Value) (g_17 : Value) (g_18 : Value) (g_19 : Value) (g_20 : Value) (g_21 : Value) (g_22 : Value) (g_23 : Value) (g_24 : Value) (g_25 : Value) (g_26 : Value) (g_30 : Value) (g_31 : Value) (g_32 : Value) (g_33 : Value) (g_34 : Value) (g_35 : Value) (g_36 : Value) (g_37 : Value) (g_38 : Value) (g_39 : Value) (g_40 : Value) (g_41 : Value) (g_42 : Value) (g_43 : Value) (g_44 : Value) (g_45 : Value) (g_46 : Value) (g_47 : Value) (g_48 : Value) (g_49 : Value) (g_50 : Value) (g_51 : Value) (g_52 : Value) (g_53 : Value) (g_54 : Value) (g_55 : Value) : Met l y_ProofDeskModel_seek (zc y_ProofDeskModel_seek b_ProofDeskModel_seek 7 (some .int)) ({ frames := 0, cells := 0, slots := 0, locals := 0 }) (zPc D (zty cI cB cZ cS) [(h0, .inr (16, [g_0, g_1, g_2, g_3, g_4, g_5, g_6, g_7, g_8, g_9, g_10, g_11, g_12, g_13, g_14, g_15, g_16, g_17, g_18, g_19, g_20, g_21, g_22, g_23, g_24, g_25, g_26, .ref lt, .ref st, .int 1, g_30, g_31, g_32, g_33, g_34, g_35, g_36, g_37, g_38, g_39, g_40, g_41, g_42, g_43, g_44, g_45, g_46, g_47, g_48, g_49, g_50, g_51, g_52, g_53, g_54, g_55])), (lt, .inl (cI, 256, .inl (upd (fun _ => 0) 0 77))), (st, .inl (cI, 64, .inl (upd (fun _ => 0) 1 1))), (a, .inl (cI, 16400, .inl (upd (upd (fun _ => 0) 0 77) 1 120)))] sz [.ref h0, .ref a, .int 1, .int 1]) (va_Qi (fun (r : Int32) (_ : Unit) => r = (-1)) (fun _ t => va_P D zcl [(h0, .inr (16, [g_0, g_1, g_2, g_3, g_4, g_5, g_6, g_7, g_8, g_9, g_10, g_11, g_12, g_13, g_14, g_15, g_16, g_17, g_18, g_19, g_20, g_21, g_22, g_23, g_24, g_25, g_26, .ref lt, .ref st, .int 1, g_30, g_31, g_32, g_33, g_34, g_35, g_36, g_37, g_38, g_39, g_40, g_41, g_42, g_43, g_44, g_45, g_46, g_47, g_48, g_49, g_50, g_51, g_52, g_53, g_54, g_55])), (lt, .inl (cI, 256, .inl (upd (fun _ => 0) 0 77))), (st, .inl (cI, 64, .inl (upd (fun _ => 0) 1 1))), (a, .inl (cI, 16400, .inl (upd (upd (fun _ => 0) 0 77) 1 120)))] t.heap ∧ va_D (va_A [(h0, .inr (16, [g_0, g_1, g_2, g_3, g_4, g_5, g_6, g_7, g_8, g_9, g_10, g_11, g_12, g_13, g_14, g_15, g_16, g_17, g_18, g_19, g_20, g_21, g_22, g_23, g_24, g_25, g_26, .ref lt, .ref st, .int 1, g_30, g_31, g_32, g_33, g_34, g_35, g_36, g_37, g_38, g_39, g_40, g_41, g_42, g_43, g_44, g_45, g_46, g_47, g_48, g_49, g_50, g_51, g_52, g_53, g_54, g_55])), (lt, .inl (cI, 256, .inl (upd (fun _ => 0) 0 77))), (st, .inl (cI, 64, .inl (upd (fun _ => 0) 1 1))), (a, .inl (cI, 16400, .inl (upd (upd (fun _ => 0) 0 77) 1 120)))] sz) [(h0, .inr (16, [g_0, g_1, g_2, g_3, g_4, g_5, g_6, g_7, g_8, g_9, g_10, g_11, g_12, g_13, g_14, g_15, g_16, g_17, g_18, g_19, g_20, g_21, g_22, g_23, g_24, g_25, g_26, .ref lt, .ref st, .int 1, g_30, g_31, g_32, g_33, g_34, g_35, g_36, g_37, g_38, g_39, g_40, g_41, g_42, g_43, g_44, g_45, g_46, g_47, g_48, g_49, g_50, g_51, g_52, g_53, g_54, g_55])), (lt, .inl (cI, 256, .inl (upd (fun _ => 0) 0 77))), (st, .inl (cI, 64, .inl (upd (fun _ => 0) 1 1))), (a, .inl (cI, 16400, .inl (upd (upd (fun _ => 0) 0 77) 1 120)))]) (va_A [(h0, .inr (16, [g_0, g_1, g_2, g_3, g_4, g_5, g_6, g_7, g_8, g_9, g_10, g_11, g_12, g_13, g_14, g_15, g_16, g_17, g_18, g_19, g_20, g_21, g_22, g_23, g_24, g_25, g_26, .ref lt, .ref st, .int 1, g_30, g_31, g_32, g_33, g_34, g_35, g_36, g_37, g_38, g_39, g_40, g_41, g_42, g_43, g_44, g_45, g_46, g_47, g_48, g_49, g_50, g_51, g_52, g_53, g_54, g_55])), (lt, .inl (cI, 256, .inl (upd (fun _ => 0) 0 77))), (st, .inl (cI, 64, .inl (upd (fun _ => 0) 1 1))), (a, .inl (cI, 16400, .inl (upd (upd (fun _ => 0) 0 77) 1 120)))] sz)) 0 0 (va_A [(h0, .inr (16, [g_0, g_1, g_2, g_3, g_4, g_5, g_6, g_7, g_8, g_9, g_10, g_11, g_12, g_13, g_14, g_15, g_16, g_17, g_18, g_19, g_20, g_21, g_22, g_23, g_24, g_25, g_26, .ref lt, .ref st, .int 1, g_30, g_31, g_32, g_33, g_34, g_35, g_36, g_37, g_38, g_39, g_40, g_41, g_42, g_43, g_44, g_45, g_46, g_47, g_48, g_49, g_50, g_51, g_52, g_53, g_54, g_55])), (lt, .inl (cI, 256, .inl (upd (fun _ => 0) 0 77))), (st, .inl (cI, 64, .inl (upd (fun _ => 0) 1 1))), (a, .inl (cI, 16400, .inl (upd (upd (fun _ => 0) 0 77) 1 120)))] sz) := by
  refine Met.ofW (cc := b_ProofDeskModel_seek) (maxL := 7) (ret := (some .int)) (by decide) rfl ?_
  intro p e s m args below meth c s₁ B hml hv
  obtain ⟨rfl, hsz, hP, ⟨hK, hN⟩, hD0⟩ := hv
  have hx := B.exec
  have hb := B.bytes
  have hr := B.returns
  have hts0 := atoms_spec (ws := zc y_ProofDeskModel_seek b_ProofDeskModel_seek 7 (some .int)) B.pre
  have hts : ∀ w ∈ zw, w.before _ s = true := fun w hw => hts0 w (List.mem_cons_of_mem _ hw)
  have hown : s.vm.findClass "ProofDeskModel" = some m.cls := findClass_of_methodNamed B.named
  have hlocks := B.notSynchronized
  subst hsz
  have hD := hD0.self (sz := s.heap.size)
  generalize hAe : va_A [(h0, .inr (16, [g_0, g_1, g_2, g_3, g_4, g_5, g_6, g_7, g_8, g_9, g_10, g_11, g_12, g_13, g_14, g_15, g_16, g_17, g_18, g_19, g_20, g_21, g_22, g_23, g_24, g_25, g_26, .ref lt, .ref st, .int 1, g_30, g_31, g_32, g_33, g_34, g_35, g_36, g_37, g_38, g_39, g_40, g_41, g_42, g_43, g_44, g_45, g_46, g_47, g_48, g_49, g_50, g_51, g_52, g_53, g_54, g_55])), (lt, .inl (cI, 256, .inl (upd (fun _ => 0) 0 77))), (st, .inl (cI, 64, .inl (upd (fun _ => 0) 1 1))), (a, .inl (cI, 16400, .inl (upd (upd (fun _ => 0) 0 77) 1 120)))] s.heap.size = A at hD ⊢
  have hA : ∀ q : Nat, s.heap.size ≤ q → A q := fun q h => by rw [← hAe]; exact Or.inr h
  have hS : va_S A s.heap s.heap [] := va_S.rf
  have hP : va_P D zcl [(h0, .inr (16, [g_0, g_1, g_2, g_3, g_4, g_5, g_6, g_7, g_8, g_9, g_10, g_11, g_12, g_13, g_14, g_15, g_16, g_17, g_18, g_19, g_20, g_21, g_22, g_23, g_24, g_25, g_26, .ref lt, .ref st, .int 1, g_30, g_31, g_32, g_33, g_34, g_35, g_36, g_37, g_38, g_39, g_40, g_41, g_42, g_43, g_44, g_45, g_46, g_47, g_48, g_49, g_50, g_51, g_52, g_53, g_54, g_55])), (lt, .inl (cI, 256, .inl (upd (fun _ => 0) 0 77))), (st, .inl (cI, 64, .inl (upd (fun _ => 0) 1 1))), (a, .inl (cI, 16400, .inl (upd (upd (fun _ => 0) 0 77) 1 120)))] s.heap := hP
  have hl := lv_entry ([.ref h0, .ref a, .int 1, .int 1]) (n := 7) (Nat.le_of_ble_eq_true rfl)
  rw [lg_entry_eq]
  generalize (lg_sl ([.ref h0, .ref a, .int 1, .int 1]) ++ List.replicate (7 - (lg_sl ([.ref h0, .ref a, .int 1, .int 1])).length) Slot.unset).toArray = ls at hl ⊢
  have hl : lv_has ls 7 [(0, .ref h0), (1, .ref a), (2, .int 1), (3, .int 1)] := hl
  refine lv_iconst (v := 0) hx hb d_ProofDeskModel_seek_0 (by decide) ?_
  refine lv_istore (lv' := [(4, .int 0), (0, .ref h0), (1, .ref a), (2, .int 1), (3, .int 1)]) hx hb d_ProofDeskModel_seek_1 hl (by decide) rfl (fun ls hl => ?_)
  refine lv_iload hx hb d_ProofDeskModel_seek_3 (lv_at hl 0 rfl) ?_
  refine lv_aload_n hx hb d_ProofDeskModel_seek_5 rfl (lv_at hl 1 rfl) ?_
  refine va_get (D := D) (ci := 16) (v := .int 1) (C := "ProofDeskModel") (T := F_ProofDeskModel) (N := 56) hx hb hts in_ProofDeskModel hown hK hP 0 rfl rfl 29 (by decide) (hts _ kw_2153) (fun _ h9 => h9) rfl d_ProofDeskModel_seek_6 ?_
  have hc_1 : ¬ (1 : Int32) ≤ 0 := by decide +kernel
  refine lv_icmp_ge hx hb d_ProofDeskModel_seek_9 rfl (fun h => absurd h hc_1) (fun _ => ?_)
  refine lv_aload_n hx hb d_ProofDeskModel_seek_12 rfl (lv_at hl 1 rfl) ?_
  refine va_get (D := D) (ci := 16) (v := .ref st) (C := "ProofDeskModel") (T := F_ProofDeskModel) (N := 56) hx hb hts in_ProofDeskModel hown hK hP 0 rfl rfl 28 (by decide) (hts _ kw_2152) (fun _ h9 => h9) rfl d_ProofDeskModel_seek_13 ?_
  refine lv_iload hx hb d_ProofDeskModel_seek_16 (lv_at hl 0 rfl) ?_
  refine lv_iconst (v := 1) hx hb d_ProofDeskModel_seek_18 (by decide) ?_
  refine lv_iadd hx hb d_ProofDeskModel_seek_19 ?_
  refine zz_i (y := 1) (by decide +kernel) ?_
  refine zz_iald (v := 1) hx hb hK hP 2 0 rfl rfl (i := 1) 1 (⟨by decide +kernel, by decide +kernel, by decide +kernel⟩) (by first | rfl | decide +kernel | simp [upd]) d_ProofDeskModel_seek_20 ?_
  refine lv_aload_n hx hb d_ProofDeskModel_seek_21 rfl (lv_at hl 1 rfl) ?_
  refine va_get (D := D) (ci := 16) (v := .ref st) (C := "ProofDeskModel") (T := F_ProofDeskModel) (N := 56) hx hb hts in_ProofDeskModel hown hK hP 0 rfl rfl 28 (by decide) (hts _ kw_2152) (fun _ h9 => h9) rfl d_ProofDeskModel_seek_22 ?_
  refine lv_iload hx hb d_ProofDeskModel_seek_25 (lv_at hl 0 rfl) ?_
  refine zz_iald (v := 0) hx hb hK hP 2 0 rfl rfl (i := 0) 0 (⟨by decide +kernel, by decide +kernel, by decide +kernel⟩) (by first | rfl | decide +kernel | simp [upd]) d_ProofDeskModel_seek_27 ?_
  refine lv_isub hx hb d_ProofDeskModel_seek_28 ?_
  refine zz_i (y := 1) (by decide +kernel) ?_
  refine lv_iload_n hx hb d_ProofDeskModel_seek_29 rfl (lv_at hl 4 rfl) ?_
  have hc_2 : (1 : Int32) = 1 := by decide +kernel
  refine lv_icmp_ne hx hb d_ProofDeskModel_seek_30 rfl (fun h => absurd hc_2 h) (fun _ => ?_)
  refine lv_iconst (v := 1) hx hb d_ProofDeskModel_seek_33 (by decide) ?_
  refine lv_goto hx hb d_ProofDeskModel_seek_34 rfl ?_
  refine lv_istore (lv' := [(5, .int 1), (4, .int 0), (0, .ref h0), (1, .ref a), (2, .int 1), (3, .int 1)]) hx hb d_ProofDeskModel_seek_38 hl (by decide) rfl (fun ls hl => ?_)
  refine lv_iconst (v := 0) hx hb d_ProofDeskModel_seek_40 (by decide) ?_
  refine lv_istore (lv' := [(6, .int 0), (5, .int 1), (4, .int 0), (0, .ref h0), (1, .ref a), (2, .int 1), (3, .int 1)]) hx hb d_ProofDeskModel_seek_41 hl (by decide) rfl (fun ls hl => ?_)
  refine lv_iload hx hb d_ProofDeskModel_seek_43 (lv_at hl 0 rfl) ?_
  refine lv_iload_n hx hb d_ProofDeskModel_seek_45 rfl (lv_at hl 6 rfl) ?_
  have hc_3 : ¬ (1 : Int32) ≤ 0 := by decide +kernel
  refine lv_icmp_ge hx hb d_ProofDeskModel_seek_46 rfl (fun h => absurd h hc_3) (fun _ => ?_)
  refine lv_iload hx hb d_ProofDeskModel_seek_49 (lv_at hl 1 rfl) ?_
  have hc_4 : ¬ (1 : Int32) = 0 := by decide +kernel
  refine lv_if_eq hx hb d_ProofDeskModel_seek_51 rfl (fun h => absurd h hc_4) (fun _ => ?_)
  refine lv_aload_n hx hb d_ProofDeskModel_seek_54 rfl (lv_at hl 3 rfl) ?_
  refine va_get (D := D) (ci := 16) (v := .ref lt) (C := "ProofDeskModel") (T := F_ProofDeskModel) (N := 56) hx hb hts in_ProofDeskModel hown hK hP 0 rfl rfl 27 (by decide) (hts _ kw_2151) (fun _ h9 => h9) rfl d_ProofDeskModel_seek_55 ?_
  refine lv_aload_n hx hb d_ProofDeskModel_seek_58 rfl (lv_at hl 3 rfl) ?_
  refine va_get (D := D) (ci := 16) (v := .ref st) (C := "ProofDeskModel") (T := F_ProofDeskModel) (N := 56) hx hb hts in_ProofDeskModel hown hK hP 0 rfl rfl 28 (by decide) (hts _ kw_2152) (fun _ h9 => h9) rfl d_ProofDeskModel_seek_59 ?_
  refine lv_iload hx hb d_ProofDeskModel_seek_62 (lv_at hl 2 rfl) ?_
  refine zz_iald (v := 0) hx hb hK hP 2 0 rfl rfl (i := 0) 0 (⟨by decide +kernel, by decide +kernel, by decide +kernel⟩) (by first | rfl | decide +kernel | simp [upd]) d_ProofDeskModel_seek_64 ?_
  refine lv_iload hx hb d_ProofDeskModel_seek_65 (lv_at hl 0 rfl) ?_
  refine lv_iadd hx hb d_ProofDeskModel_seek_67 ?_
  refine zz_i (y := 0) (by decide +kernel) ?_
  refine zz_iald (v := 77) hx hb hK hP 1 0 rfl rfl (i := 0) 0 (⟨by decide +kernel, by decide +kernel, by decide +kernel⟩) (by first | rfl | decide +kernel | simp [upd]) d_ProofDeskModel_seek_68 ?_
  refine lv_aload_n hx hb d_ProofDeskModel_seek_69 rfl (lv_at hl 4 rfl) ?_
  refine lv_iload_n hx hb d_ProofDeskModel_seek_70 rfl (lv_at hl 5 rfl) ?_
  refine lv_iload hx hb d_ProofDeskModel_seek_71 (lv_at hl 0 rfl) ?_
  refine lv_iadd hx hb d_ProofDeskModel_seek_73 ?_
  refine zz_i (y := 1) (by decide +kernel) ?_
  refine zz_iald (v := 120) hx hb hK hP 3 0 rfl rfl (i := 1) 1 (⟨by decide +kernel, by decide +kernel, by decide +kernel⟩) (by first | rfl | decide +kernel | simp [upd]) d_ProofDeskModel_seek_74 ?_
  have hc_5 : ¬ (77 : Int32) = 120 := by decide +kernel
  refine lv_icmp_ne hx hb d_ProofDeskModel_seek_75 rfl (fun _ => ?_) (fun h => absurd h hc_5)
  refine lv_iconst (v := 0) hx hb d_ProofDeskModel_seek_82 (by decide) ?_
  refine lv_istore (lv' := [(5, .int 0), (6, .int 0), (4, .int 0), (0, .ref h0), (1, .ref a), (2, .int 1), (3, .int 1)]) hx hb d_ProofDeskModel_seek_83 hl (by decide) rfl (fun ls hl => ?_)
  refine lv_iinc (k := 1) (v := 1) (lv' := [(6, .int 1), (5, .int 0), (4, .int 0), (0, .ref h0), (1, .ref a), (2, .int 1), (3, .int 1)]) hx hb d_ProofDeskModel_seek_85 hl rfl (by decide +kernel) (by decide) rfl (fun ls hl => ?_)
  refine lv_goto hx hb d_ProofDeskModel_seek_88 rfl ?_
  refine lv_iload hx hb d_ProofDeskModel_seek_43 (lv_at hl 0 rfl) ?_
  refine lv_iload_n hx hb d_ProofDeskModel_seek_45 rfl (lv_at hl 6 rfl) ?_
  have hc_6 : (1 : Int32) ≤ 1 := by decide +kernel
  refine lv_icmp_ge hx hb d_ProofDeskModel_seek_46 rfl (fun _ => ?_) (fun h => absurd hc_6 h)
  refine lv_iload hx hb d_ProofDeskModel_seek_91 (lv_at hl 1 rfl) ?_
  have hc_7 : (0 : Int32) = 0 := by decide +kernel
  refine lv_if_eq hx hb d_ProofDeskModel_seek_93 rfl (fun _ => ?_) (fun h => absurd hc_7 h)
  refine lv_iinc (k := 2) (v := 1) (lv' := [(4, .int 1), (6, .int 1), (5, .int 0), (0, .ref h0), (1, .ref a), (2, .int 1), (3, .int 1)]) hx hb d_ProofDeskModel_seek_99 hl rfl (by decide +kernel) (by decide) rfl (fun ls hl => ?_)
  refine lv_goto hx hb d_ProofDeskModel_seek_102 rfl ?_
  refine lv_iload hx hb d_ProofDeskModel_seek_3 (lv_at hl 0 rfl) ?_
  refine lv_aload_n hx hb d_ProofDeskModel_seek_5 rfl (lv_at hl 3 rfl) ?_
  refine va_get (D := D) (ci := 16) (v := .int 1) (C := "ProofDeskModel") (T := F_ProofDeskModel) (N := 56) hx hb hts in_ProofDeskModel hown hK hP 0 rfl rfl 29 (by decide) (hts _ kw_2153) (fun _ h9 => h9) rfl d_ProofDeskModel_seek_6 ?_
  have hc_8 : (1 : Int32) ≤ 1 := by decide +kernel
  refine lv_icmp_ge hx hb d_ProofDeskModel_seek_9 rfl (fun _ => ?_) (fun h => absurd hc_8 h)
  refine lv_iconst (v := (-1)) hx hb d_ProofDeskModel_seek_105 (by decide) ?_
  have hP9 := hP.sub (ws' := [(h0, .inr (16, [g_0, g_1, g_2, g_3, g_4, g_5, g_6, g_7, g_8, g_9, g_10, g_11, g_12, g_13, g_14, g_15, g_16, g_17, g_18, g_19, g_20, g_21, g_22, g_23, g_24, g_25, g_26, .ref lt, .ref st, .int 1, g_30, g_31, g_32, g_33, g_34, g_35, g_36, g_37, g_38, g_39, g_40, g_41, g_42, g_43, g_44, g_45, g_46, g_47, g_48, g_49, g_50, g_51, g_52, g_53, g_54, g_55])), (lt, .inl (cI, 256, .inl (upd (fun _ => 0) 0 77))), (st, .inl (cI, 64, .inl (upd (fun _ => 0) 1 1))), (a, .inl (cI, 16400, .inl (upd (upd (fun _ => 0) 0 77) 1 120)))]) [0, 1, 2, 3] rfl
  have hD9 := hD.sub (ws' := [(h0, .inr (16, [g_0, g_1, g_2, g_3, g_4, g_5, g_6, g_7, g_8, g_9, g_10, g_11, g_12, g_13, g_14, g_15, g_16, g_17, g_18, g_19, g_20, g_21, g_22, g_23, g_24, g_25, g_26, .ref lt, .ref st, .int 1, g_30, g_31, g_32, g_33, g_34, g_35, g_36, g_37, g_38, g_39, g_40, g_41, g_42, g_43, g_44, g_45, g_46, g_47, g_48, g_49, g_50, g_51, g_52, g_53, g_54, g_55])), (lt, .inl (cI, 256, .inl (upd (fun _ => 0) 0 77))), (st, .inl (cI, 64, .inl (upd (fun _ => 0) 1 1))), (a, .inl (cI, 16400, .inl (upd (upd (fun _ => 0) 0 77) 1 120)))]) [0, 1, 2, 3] (by decide +kernel) rfl
  refine W.widen (k := 0) (n := 0) (by omega) (by omega) ?_
  exact W.iret (v := (-1)) hx hb hr (fun t ht hW => ⟨⟨(-1), (), rfl, rfl, by rw [ht]; exact hP9, hD9⟩, hS.F ht⟩) hS.2.2 d_ProofDeskModel_seek_106
set_option maxHeartbeats 4000000 in
set_option maxRecDepth 100000 in
theorem c_M_number1 (l : Launch) (D : va_G) (cI cB cZ cS : ClassId) (sz : Nat) (h0 : Nat) (lt : Nat) (st : Nat) (a : Nat) (g_0 : Value) (g_1 : Value) (g_2 : Value) (g_3 : Value) (g_4 : Value) (g_5 : Value) (g_6 : Value) (g_7 : Value) (g_8 : Value) (g_9 : Value) (g_10 : Value) (g_11 : Value) (g_12 : Value) (g_13 : Value) (g_14 : Value) (g_15 : Value) (g_16 : Value) (g_17 : Value) (g_18 : Value) (g_19 : Value) (g_20 : Value) (g_21 : Value) (g_22 : Value) (g_23 : Value) (g_24 : Value) (g_25 : Value) (g_26 : Value) (g_30 : Value) (g_31 : Value) (g_32 : Value) (g_33 : Value) (g_34 : Value) (g_35 : Value) (g_36 : Value) (g_37 : Value) (g_38 : Value) (g_39 : Value) (g_40 : Value) (g_41 : Value) (g_42 : Value) (g_43 : Value) (g_44 : Value) (g_45 : Value) (g_46 : Value) (g_47 : Value) (g_48 : Value) (g_49 : Value) (g_50 : Value) (g_51 : Value) (g_52 : Value) (g_53 : Value) (g_54 : Value) (g_55 : Value) : Met l y_ProofDeskModel_number (zc y_ProofDeskModel_number b_ProofDeskModel_number 6 (some .int)) ({ frames := 2, cells := 0, slots := 0, locals := 42 }) (zPc D (zty cI cB cZ cS) [(h0, .inr (16, [g_0, g_1, g_2, g_3, g_4, g_5, g_6, g_7, g_8, g_9, g_10, g_11, g_12, g_13, g_14, g_15, g_16, g_17, g_18, g_19, g_20, g_21, g_22, g_23, g_24, g_25, g_26, .ref lt, .ref st, .int 1, g_30, g_31, g_32, g_33, g_34, g_35, g_36, g_37, g_38, g_39, g_40, g_41, g_42, g_43, g_44, g_45, g_46, g_47, g_48, g_49, g_50, g_51, g_52, g_53, g_54, g_55])), (lt, .inl (cI, 256, .inl (upd (fun _ => 0) 0 77))), (st, .inl (cI, 64, .inl (upd (fun _ => 0) 1 1))), (a, .inl (cI, 16400, .inl (upd (upd (fun _ => 0) 0 77) 1 120)))] sz [.ref h0, .ref a, .int 1, .int 1]) (va_Qi (fun (r : Int32) (_ : Unit) => r = 1) (fun _ t => va_P D zcl [(h0, .inr (16, [g_0, g_1, g_2, g_3, g_4, g_5, g_6, g_7, g_8, g_9, g_10, g_11, g_12, g_13, g_14, g_15, g_16, g_17, g_18, g_19, g_20, g_21, g_22, g_23, g_24, g_25, g_26, .ref lt, .ref st, .int 2, g_30, g_31, g_32, g_33, g_34, g_35, g_36, g_37, g_38, g_39, g_40, g_41, g_42, g_43, g_44, g_45, g_46, g_47, g_48, g_49, g_50, g_51, g_52, g_53, g_54, g_55])), (lt, .inl (cI, 256, .inl (upd (upd (fun _ => 0) 0 77) 1 120))), (st, .inl (cI, 64, .inl (upd (upd (fun _ => 0) 1 1) 2 2))), (a, .inl (cI, 16400, .inl (upd (upd (fun _ => 0) 0 77) 1 120)))] t.heap ∧ va_D (va_A [(h0, .inr (16, [g_0, g_1, g_2, g_3, g_4, g_5, g_6, g_7, g_8, g_9, g_10, g_11, g_12, g_13, g_14, g_15, g_16, g_17, g_18, g_19, g_20, g_21, g_22, g_23, g_24, g_25, g_26, .ref lt, .ref st, .int 1, g_30, g_31, g_32, g_33, g_34, g_35, g_36, g_37, g_38, g_39, g_40, g_41, g_42, g_43, g_44, g_45, g_46, g_47, g_48, g_49, g_50, g_51, g_52, g_53, g_54, g_55])), (lt, .inl (cI, 256, .inl (upd (fun _ => 0) 0 77))), (st, .inl (cI, 64, .inl (upd (fun _ => 0) 1 1))), (a, .inl (cI, 16400, .inl (upd (upd (fun _ => 0) 0 77) 1 120)))] sz) [(h0, .inr (16, [g_0, g_1, g_2, g_3, g_4, g_5, g_6, g_7, g_8, g_9, g_10, g_11, g_12, g_13, g_14, g_15, g_16, g_17, g_18, g_19, g_20, g_21, g_22, g_23, g_24, g_25, g_26, .ref lt, .ref st, .int 2, g_30, g_31, g_32, g_33, g_34, g_35, g_36, g_37, g_38, g_39, g_40, g_41, g_42, g_43, g_44, g_45, g_46, g_47, g_48, g_49, g_50, g_51, g_52, g_53, g_54, g_55])), (lt, .inl (cI, 256, .inl (upd (upd (fun _ => 0) 0 77) 1 120))), (st, .inl (cI, 64, .inl (upd (upd (fun _ => 0) 1 1) 2 2))), (a, .inl (cI, 16400, .inl (upd (upd (fun _ => 0) 0 77) 1 120)))]) (va_A [(h0, .inr (16, [g_0, g_1, g_2, g_3, g_4, g_5, g_6, g_7, g_8, g_9, g_10, g_11, g_12, g_13, g_14, g_15, g_16, g_17, g_18, g_19, g_20, g_21, g_22, g_23, g_24, g_25, g_26, .ref lt, .ref st, .int 1, g_30, g_31, g_32, g_33, g_34, g_35, g_36, g_37, g_38, g_39, g_40, g_41, g_42, g_43, g_44, g_45, g_46, g_47, g_48, g_49, g_50, g_51, g_52, g_53, g_54, g_55])), (lt, .inl (cI, 256, .inl (upd (fun _ => 0) 0 77))), (st, .inl (cI, 64, .inl (upd (fun _ => 0) 1 1))), (a, .inl (cI, 16400, .inl (upd (upd (fun _ => 0) 0 77) 1 120)))] sz)) 0 0 (va_A [(h0, .inr (16, [g_0, g_1, g_2, g_3, g_4, g_5, g_6, g_7, g_8, g_9, g_10, g_11, g_12, g_13, g_14, g_15, g_16, g_17, g_18, g_19, g_20, g_21, g_22, g_23, g_24, g_25, g_26, .ref lt, .ref st, .int 1, g_30, g_31, g_32, g_33, g_34, g_35, g_36, g_37, g_38, g_39, g_40, g_41, g_42, g_43, g_44, g_45, g_46, g_47, g_48, g_49, g_50, g_51, g_52, g_53, g_54, g_55])), (lt, .inl (cI, 256, .inl (upd (fun _ => 0) 0 77))), (st, .inl (cI, 64, .inl (upd (fun _ => 0) 1 1))), (a, .inl (cI, 16400, .inl (upd (upd (fun _ => 0) 0 77) 1 120)))] sz) := by
  refine Met.ofW (cc := b_ProofDeskModel_number) (maxL := 6) (ret := (some .int)) (by decide) rfl ?_
  intro p e s m args below meth c s₁ B hml hv
  obtain ⟨rfl, hsz, hP, ⟨hK, hN⟩, hD0⟩ := hv
  have hx := B.exec
  have hb := B.bytes
  have hr := B.returns
  have hts0 := atoms_spec (ws := zc y_ProofDeskModel_number b_ProofDeskModel_number 6 (some .int)) B.pre
  have hts : ∀ w ∈ zw, w.before _ s = true := fun w hw => hts0 w (List.mem_cons_of_mem _ hw)
  have hown : s.vm.findClass "ProofDeskModel" = some m.cls := findClass_of_methodNamed B.named
  have hlocks := B.notSynchronized
  subst hsz
  have hD := hD0.self (sz := s.heap.size)
  generalize hAe : va_A [(h0, .inr (16, [g_0, g_1, g_2, g_3, g_4, g_5, g_6, g_7, g_8, g_9, g_10, g_11, g_12, g_13, g_14, g_15, g_16, g_17, g_18, g_19, g_20, g_21, g_22, g_23, g_24, g_25, g_26, .ref lt, .ref st, .int 1, g_30, g_31, g_32, g_33, g_34, g_35, g_36, g_37, g_38, g_39, g_40, g_41, g_42, g_43, g_44, g_45, g_46, g_47, g_48, g_49, g_50, g_51, g_52, g_53, g_54, g_55])), (lt, .inl (cI, 256, .inl (upd (fun _ => 0) 0 77))), (st, .inl (cI, 64, .inl (upd (fun _ => 0) 1 1))), (a, .inl (cI, 16400, .inl (upd (upd (fun _ => 0) 0 77) 1 120)))] s.heap.size = A at hD ⊢
  have hA : ∀ q : Nat, s.heap.size ≤ q → A q := fun q h => by rw [← hAe]; exact Or.inr h
  have hS : va_S A s.heap s.heap [] := va_S.rf
  have hP : va_P D zcl [(h0, .inr (16, [g_0, g_1, g_2, g_3, g_4, g_5, g_6, g_7, g_8, g_9, g_10, g_11, g_12, g_13, g_14, g_15, g_16, g_17, g_18, g_19, g_20, g_21, g_22, g_23, g_24, g_25, g_26, .ref lt, .ref st, .int 1, g_30, g_31, g_32, g_33, g_34, g_35, g_36, g_37, g_38, g_39, g_40, g_41, g_42, g_43, g_44, g_45, g_46, g_47, g_48, g_49, g_50, g_51, g_52, g_53, g_54, g_55])), (lt, .inl (cI, 256, .inl (upd (fun _ => 0) 0 77))), (st, .inl (cI, 64, .inl (upd (fun _ => 0) 1 1))), (a, .inl (cI, 16400, .inl (upd (upd (fun _ => 0) 0 77) 1 120)))] s.heap := hP
  have hl := lv_entry ([.ref h0, .ref a, .int 1, .int 1]) (n := 6) (Nat.le_of_ble_eq_true rfl)
  rw [lg_entry_eq]
  generalize (lg_sl ([.ref h0, .ref a, .int 1, .int 1]) ++ List.replicate (6 - (lg_sl ([.ref h0, .ref a, .int 1, .int 1])).length) Slot.unset).toArray = ls at hl ⊢
  have hl : lv_has ls 6 [(0, .ref h0), (1, .ref a), (2, .int 1), (3, .int 1)] := hl
  refine lv_aload_n hx hb d_ProofDeskModel_number_0 rfl (lv_at hl 0 rfl) ?_
  refine lv_aload_n hx hb d_ProofDeskModel_number_1 rfl (lv_at hl 1 rfl) ?_
  refine lv_iload_n hx hb d_ProofDeskModel_number_2 rfl (lv_at hl 2 rfl) ?_
  refine lv_iload_n hx hb d_ProofDeskModel_number_3 rfl (lv_at hl 3 rfl) ?_
  have hPc := hP.sub (ws' := [(h0, .inr (16, [g_0, g_1, g_2, g_3, g_4, g_5, g_6, g_7, g_8, g_9, g_10, g_11, g_12, g_13, g_14, g_15, g_16, g_17, g_18, g_19, g_20, g_21, g_22, g_23, g_24, g_25, g_26, .ref lt, .ref st, .int 1, g_30, g_31, g_32, g_33, g_34, g_35, g_36, g_37, g_38, g_39, g_40, g_41, g_42, g_43, g_44, g_45, g_46, g_47, g_48, g_49, g_50, g_51, g_52, g_53, g_54, g_55])), (lt, .inl (cI, 256, .inl (upd (fun _ => 0) 0 77))), (st, .inl (cI, 64, .inl (upd (fun _ => 0) 1 1))), (a, .inl (cI, 16400, .inl (upd (upd (fun _ => 0) 0 77) 1 120)))]) [0, 1, 2, 3] rfl
  have hDc := hD.sub (ws' := [(h0, .inr (16, [g_0, g_1, g_2, g_3, g_4, g_5, g_6, g_7, g_8, g_9, g_10, g_11, g_12, g_13, g_14, g_15, g_16, g_17, g_18, g_19, g_20, g_21, g_22, g_23, g_24, g_25, g_26, .ref lt, .ref st, .int 1, g_30, g_31, g_32, g_33, g_34, g_35, g_36, g_37, g_38, g_39, g_40, g_41, g_42, g_43, g_44, g_45, g_46, g_47, g_48, g_49, g_50, g_51, g_52, g_53, g_54, g_55])), (lt, .inl (cI, 256, .inl (upd (fun _ => 0) 0 77))), (st, .inl (cI, 64, .inl (upd (fun _ => 0) 1 1))), (a, .inl (cI, 16400, .inl (upd (upd (fun _ => 0) 0 77) 1 120)))]) [0, 1, 2, 3] (by decide +kernel) rfl
  have hFc := va_free (wc := [(h0, .inr (16, [g_0, g_1, g_2, g_3, g_4, g_5, g_6, g_7, g_8, g_9, g_10, g_11, g_12, g_13, g_14, g_15, g_16, g_17, g_18, g_19, g_20, g_21, g_22, g_23, g_24, g_25, g_26, .ref lt, .ref st, .int 1, g_30, g_31, g_32, g_33, g_34, g_35, g_36, g_37, g_38, g_39, g_40, g_41, g_42, g_43, g_44, g_45, g_46, g_47, g_48, g_49, g_50, g_51, g_52, g_53, g_54, g_55])), (lt, .inl (cI, 256, .inl (upd (fun _ => 0) 0 77))), (st, .inl (cI, 64, .inl (upd (fun _ => 0) 1 1))), (a, .inl (cI, 16400, .inl (upd (upd (fun _ => 0) 0 77) 1 120)))]) hD hS hA [0, 1, 2, 3] rfl
  have hkc : 0 + 0 ≤ 0 := by omega
  have hks : 0 + 0 ≤ 0 := by omega
  refine va_calli (va_runV (As := [.ref a, .int 1, .int 1]) (rest := []) ⟨hx, hb, hml, hown, hts⟩ (c_M_seek1 l D cI cB cZ cS s.heap.size h0 lt st a g_0 g_1 g_2 g_3 g_4 g_5 g_6 g_7 g_8 g_9 g_10 g_11 g_12 g_13 g_14 g_15 g_16 g_17 g_18 g_19 g_20 g_21 g_22 g_23 g_24 g_25 g_26 g_30 g_31 g_32 g_33 g_34 g_35 g_36 g_37 g_38 g_39 g_40 g_41 g_42 g_43 g_44 g_45 g_46 g_47 g_48 g_49 g_50 g_51 g_52 g_53 g_54 g_55) (⟨callB_of 3 hts (zgood kw_2004) rfl rfl rfl (hts _ kw_16) (hts _ kw_2001) (by decide +kernel) ⟨Nat.le_of_ble_eq_true rfl, Nat.le_of_ble_eq_true rfl⟩, hts _ kw_2003, hts _ kp_127⟩) (zPreV hPc hK hN hDc (va_recv (q := ("ProofDeskModel", F_ProofDeskModel, 56)) hK hP rfl (q0 := 0) rfl)) rfl rfl hl.1 rfl (lv_room (Nat.le_of_ble_eq_true rfl)) d_ProofDeskModel_number_4 ⟨hkc, hks⟩) hS (fun q _ h => hFc q h) hFc (fun r u t H1 locs ht hvm hw hB hz1 hk1 hS => ?_)
  obtain ⟨hP1, hD1⟩ := hB
  rw [ht] at hP1
  obtain ⟨hP, hD⟩ := va_join (wr := []) (w1 := [(h0, .inr (16, [g_0, g_1, g_2, g_3, g_4, g_5, g_6, g_7, g_8, g_9, g_10, g_11, g_12, g_13, g_14, g_15, g_16, g_17, g_18, g_19, g_20, g_21, g_22, g_23, g_24, g_25, g_26, .ref lt, .ref st, .int 1, g_30, g_31, g_32, g_33, g_34, g_35, g_36, g_37, g_38, g_39, g_40, g_41, g_42, g_43, g_44, g_45, g_46, g_47, g_48, g_49, g_50, g_51, g_52, g_53, g_54, g_55])), (lt, .inl (cI, 256, .inl (upd (fun _ => 0) 0 77))), (st, .inl (cI, 64, .inl (upd (fun _ => 0) 1 1))), (a, .inl (cI, 16400, .inl (upd (upd (fun _ => 0) 0 77) 1 120)))]) hP hD [0, 1, 2, 3] [] rfl rfl (by decide +kernel) (by decide +kernel) hk1 hFc hP1 hD1
  generalize H1 = H at hP hS ⊢
  have hP : va_P D zcl [(h0, .inr (16, [g_0, g_1, g_2, g_3, g_4, g_5, g_6, g_7, g_8, g_9, g_10, g_11, g_12, g_13, g_14, g_15, g_16, g_17, g_18, g_19, g_20, g_21, g_22, g_23, g_24, g_25, g_26, .ref lt, .ref st, .int 1, g_30, g_31, g_32, g_33, g_34, g_35, g_36, g_37, g_38, g_39, g_40, g_41, g_42, g_43, g_44, g_45, g_46, g_47, g_48, g_49, g_50, g_51, g_52, g_53, g_54, g_55])), (lt, .inl (cI, 256, .inl (upd (fun _ => 0) 0 77))), (st, .inl (cI, 64, .inl (upd (fun _ => 0) 1 1))), (a, .inl (cI, 16400, .inl (upd (upd (fun _ => 0) 0 77) 1 120)))] H := hP
  have hD : va_D A [(h0, .inr (16, [g_0, g_1, g_2, g_3, g_4, g_5, g_6, g_7, g_8, g_9, g_10, g_11, g_12, g_13, g_14, g_15, g_16, g_17, g_18, g_19, g_20, g_21, g_22, g_23, g_24, g_25, g_26, .ref lt, .ref st, .int 1, g_30, g_31, g_32, g_33, g_34, g_35, g_36, g_37, g_38, g_39, g_40, g_41, g_42, g_43, g_44, g_45, g_46, g_47, g_48, g_49, g_50, g_51, g_52, g_53, g_54, g_55])), (lt, .inl (cI, 256, .inl (upd (fun _ => 0) 0 77))), (st, .inl (cI, 64, .inl (upd (fun _ => 0) 1 1))), (a, .inl (cI, 16400, .inl (upd (upd (fun _ => 0) 0 77) 1 120)))] := hD
  subst hw
  refine W.widen (k := 0) (n := 0) (by omega) (by omega) ?_
  refine lv_istore (lv' := [(4, .int (-1)), (0, .ref h0), (1, .ref a), (2, .int 1), (3, .int 1)]) hx hb d_ProofDeskModel_number_7 hl (by decide) rfl (fun ls hl => ?_)
  refine lv_iload hx hb d_ProofDeskModel_number_9 (lv_at hl 0 rfl) ?_
  refine lv_iconst (v := (-1)) hx hb d_ProofDeskModel_number_11 (by decide) ?_
  have hc_1 : ((-1) : Int32) = (-1) := by decide +kernel
  refine lv_icmp_eq hx hb d_ProofDeskModel_number_12 rfl (fun _ => ?_) (fun h => absurd hc_1 h)
  refine lv_aload_n hx hb d_ProofDeskModel_number_18 rfl (lv_at hl 1 rfl) ?_
  refine lv_aload_n hx hb d_ProofDeskModel_number_19 rfl (lv_at hl 1 rfl) ?_
  refine va_get (D := D) (ci := 16) (v := .ref st) (C := "ProofDeskModel") (T := F_ProofDeskModel) (N := 56) hx hb hts in_ProofDeskModel hown hK hP 0 rfl rfl 28 (by decide) (hts _ kw_2152) (fun _ h9 => h9) rfl d_ProofDeskModel_number_20 ?_
  refine lv_aload_n hx hb d_ProofDeskModel_number_23 rfl (lv_at hl 1 rfl) ?_
  refine va_get (D := D) (ci := 16) (v := .int 1) (C := "ProofDeskModel") (T := F_ProofDeskModel) (N := 56) hx hb hts in_ProofDeskModel hown hK hP 0 rfl rfl 29 (by decide) (hts _ kw_2153) (fun _ h9 => h9) rfl d_ProofDeskModel_number_24 ?_
  refine lv_iconst (v := 2) hx hb d_ProofDeskModel_number_27 (by decide) ?_
  refine lv_iadd hx hb d_ProofDeskModel_number_28 ?_
  refine zz_i (y := 3) (by decide +kernel) ?_
  have hPc := hP.sub (ws' := [(st, .inl (cI, 64, .inl (upd (fun _ => 0) 1 1)))]) [2] rfl
  have hDc := hD.sub (ws' := [(st, .inl (cI, 64, .inl (upd (fun _ => 0) 1 1)))]) [2] (by decide +kernel) rfl
  have hFc := va_free (wc := [(st, .inl (cI, 64, .inl (upd (fun _ => 0) 1 1)))]) hD hS hA [2] rfl
  have hkc : 0 + 0 ≤ 0 := by omega
  have hks : 0 + 0 ≤ 0 := by omega
  refine va_callr (va_runS (As := [.ref st, .int 3]) (rest := [.ref h0]) ⟨hx, hb, hml, hown, hts⟩ (c_M_room l D cI cB cZ cS H.size st 64 (upd (fun _ => 0) 1 1) 3 (by decide +kernel)) (⟨callB_of 2 hts (zgood kw_2007) rfl rfl rfl (hts _ kw_16) (hts _ kw_2005) (by decide +kernel) ⟨Nat.le_of_ble_eq_true rfl, Nat.le_of_ble_eq_true rfl⟩, hts _ kw_2006⟩) (zPreS hPc hK hN hDc) rfl rfl hl.1 rfl (lv_room (Nat.le_of_ble_eq_true rfl)) d_ProofDeskModel_number_29 ⟨hkc, hks⟩) hS (fun q _ h => hFc q h) hFc (fun u ra t H1 locs ht hvm hw hB hz1 hk1 hS => ?_)
  obtain ⟨hra, hP1, hD1⟩ := hB
  rw [hra]
  rw [ht] at hP1
  obtain ⟨hP, hD⟩ := va_join (wr := [(h0, .inr (16, [g_0, g_1, g_2, g_3, g_4, g_5, g_6, g_7, g_8, g_9, g_10, g_11, g_12, g_13, g_14, g_15, g_16, g_17, g_18, g_19, g_20, g_21, g_22, g_23, g_24, g_25, g_26, .ref lt, .ref st, .int 1, g_30, g_31, g_32, g_33, g_34, g_35, g_36, g_37, g_38, g_39, g_40, g_41, g_42, g_43, g_44, g_45, g_46, g_47, g_48, g_49, g_50, g_51, g_52, g_53, g_54, g_55])), (lt, .inl (cI, 256, .inl (upd (fun _ => 0) 0 77))), (a, .inl (cI, 16400, .inl (upd (upd (fun _ => 0) 0 77) 1 120)))]) (w1 := [(st, .inl (cI, 64, .inl (upd (fun _ => 0) 1 1)))]) hP hD [2] [0, 1, 3] rfl rfl (by decide +kernel) (by decide +kernel) hk1 hFc hP1 hD1
  generalize H1 = H at hP hS ⊢
  have hP : va_P D zcl [(h0, .inr (16, [g_0, g_1, g_2, g_3, g_4, g_5, g_6, g_7, g_8, g_9, g_10, g_11, g_12, g_13, g_14, g_15, g_16, g_17, g_18, g_19, g_20, g_21, g_22, g_23, g_24, g_25, g_26, .ref lt, .ref st, .int 1, g_30, g_31, g_32, g_33, g_34, g_35, g_36, g_37, g_38, g_39, g_40, g_41, g_42, g_43, g_44, g_45, g_46, g_47, g_48, g_49, g_50, g_51, g_52, g_53, g_54, g_55])), (lt, .inl (cI, 256, .inl (upd (fun _ => 0) 0 77))), (a, .inl (cI, 16400, .inl (upd (upd (fun _ => 0) 0 77) 1 120))), (st, .inl (cI, 64, .inl (upd (fun _ => 0) 1 1)))] H := hP
  have hD : va_D A [(h0, .inr (16, [g_0, g_1, g_2, g_3, g_4, g_5, g_6, g_7, g_8, g_9, g_10, g_11, g_12, g_13, g_14, g_15, g_16, g_17, g_18, g_19, g_20, g_21, g_22, g_23, g_24, g_25, g_26, .ref lt, .ref st, .int 1, g_30, g_31, g_32, g_33, g_34, g_35, g_36, g_37, g_38, g_39, g_40, g_41, g_42, g_43, g_44, g_45, g_46, g_47, g_48, g_49, g_50, g_51, g_52, g_53, g_54, g_55])), (lt, .inl (cI, 256, .inl (upd (fun _ => 0) 0 77))), (a, .inl (cI, 16400, .inl (upd (upd (fun _ => 0) 0 77) 1 120))), (st, .inl (cI, 64, .inl (upd (fun _ => 0) 1 1)))] := hD
  refine W.widen (k := 0) (n := 0) (by omega) (by omega) ?_
  refine va_put (D := D) (ci := 16) (v := .ref st) (ty := (.array .int)) (C := "ProofDeskModel") (T := F_ProofDeskModel) (N := 56) hx hb hts in_ProofDeskModel t_ProofDeskModel t_ProofDeskModel_ok n_ProofDeskModel hown hK hP hD hS 0 rfl rfl 28 (by decide) (hts _ kw_2152) (fun _ h9 => h9) rfl (by decide +kernel) rfl rfl (Nat.le_of_ble_eq_true rfl) d_ProofDeskModel_number_32 (fun H locs hP hD hS => ?_)
  have hP : va_P D zcl [(h0, .inr (16, [g_0, g_1, g_2, g_3, g_4, g_5, g_6, g_7, g_8, g_9, g_10, g_11, g_12, g_13, g_14, g_15, g_16, g_17, g_18, g_19, g_20, g_21, g_22, g_23, g_24, g_25, g_26, .ref lt, .ref st, .int 1, g_30, g_31, g_32, g_33, g_34, g_35, g_36, g_37, g_38, g_39, g_40, g_41, g_42, g_43, g_44, g_45, g_46, g_47, g_48, g_49, g_50, g_51, g_52, g_53, g_54, g_55])), (lt, .inl (cI, 256, .inl (upd (fun _ => 0) 0 77))), (a, .inl (cI, 16400, .inl (upd (upd (fun _ => 0) 0 77) 1 120))), (st, .inl (cI, 64, .inl (upd (fun _ => 0) 1 1)))] H := hP
  have hD : va_D A [(h0, .inr (16, [g_0, g_1, g_2, g_3, g_4, g_5, g_6, g_7, g_8, g_9, g_10, g_11, g_12, g_13, g_14, g_15, g_16, g_17, g_18, g_19, g_20, g_21, g_22, g_23, g_24, g_25, g_26, .ref lt, .ref st, .int 1, g_30, g_31, g_32, g_33, g_34, g_35, g_36, g_37, g_38, g_39, g_40, g_41, g_42, g_43, g_44, g_45, g_46, g_47, g_48, g_49, g_50, g_51, g_52, g_53, g_54, g_55])), (lt, .inl (cI, 256, .inl (upd (fun _ => 0) 0 77))), (a, .inl (cI, 16400, .inl (upd (upd (fun _ => 0) 0 77) 1 120))), (st, .inl (cI, 64, .inl (upd (fun _ => 0) 1 1)))] := hD
  refine lv_iconst (v := 0) hx hb d_ProofDeskModel_number_35 (by decide) ?_
  refine lv_istore (lv' := [(5, .int 0), (4, .int (-1)), (0, .ref h0), (1, .ref a), (2, .int 1), (3, .int 1)]) hx hb d_ProofDeskModel_number_36 hl (by decide) rfl (fun ls hl => ?_)
  refine lv_iload hx hb d_ProofDeskModel_number_38 (lv_at hl 0 rfl) ?_
  refine lv_iload_n hx hb d_ProofDeskModel_number_40 rfl (lv_at hl 5 rfl) ?_
  have hc_2 : ¬ (1 : Int32) ≤ 0 := by decide +kernel
  refine lv_icmp_ge hx hb d_ProofDeskModel_number_41 rfl (fun h => absurd h hc_2) (fun _ => ?_)
  refine lv_aload_n hx hb d_ProofDeskModel_number_44 rfl (lv_at hl 2 rfl) ?_
  refine lv_aload_n hx hb d_ProofDeskModel_number_45 rfl (lv_at hl 2 rfl) ?_
  refine va_get (D := D) (ci := 16) (v := .ref lt) (C := "ProofDeskModel") (T := F_ProofDeskModel) (N := 56) hx hb hts in_ProofDeskModel hown hK hP 0 rfl rfl 27 (by decide) (hts _ kw_2151) (fun _ h9 => h9) rfl d_ProofDeskModel_number_46 ?_
  refine lv_aload_n hx hb d_ProofDeskModel_number_49 rfl (lv_at hl 2 rfl) ?_
  refine va_get (D := D) (ci := 16) (v := .ref st) (C := "ProofDeskModel") (T := F_ProofDeskModel) (N := 56) hx hb hts in_ProofDeskModel hown hK hP 0 rfl rfl 28 (by decide) (hts _ kw_2152) (fun _ h9 => h9) rfl d_ProofDeskModel_number_50 ?_
  refine lv_aload_n hx hb d_ProofDeskModel_number_53 rfl (lv_at hl 2 rfl) ?_
  refine va_get (D := D) (ci := 16) (v := .int 1) (C := "ProofDeskModel") (T := F_ProofDeskModel) (N := 56) hx hb hts in_ProofDeskModel hown hK hP 0 rfl rfl 29 (by decide) (hts _ kw_2153) (fun _ h9 => h9) rfl d_ProofDeskModel_number_54 ?_
  refine zz_iald (v := 1) hx hb hK hP 3 0 rfl rfl (i := 1) 1 (⟨by decide +kernel, by decide +kernel, by decide +kernel⟩) (by first | rfl | decide +kernel | simp [upd]) d_ProofDeskModel_number_57 ?_
  refine lv_iload hx hb d_ProofDeskModel_number_58 (lv_at hl 0 rfl) ?_
  refine lv_iadd hx hb d_ProofDeskModel_number_60 ?_
  refine zz_i (y := 1) (by decide +kernel) ?_
  have hPc := hP.sub (ws' := [(lt, .inl (cI, 256, .inl (upd (fun _ => 0) 0 77)))]) [1] rfl
  have hDc := hD.sub (ws' := [(lt, .inl (cI, 256, .inl (upd (fun _ => 0) 0 77)))]) [1] (by decide +kernel) rfl
  have hFc := va_free (wc := [(lt, .inl (cI, 256, .inl (upd (fun _ => 0) 0 77)))]) hD hS hA [1] rfl
  have hkc : 0 + 0 ≤ 0 := by omega
  have hks : 0 + 0 ≤ 0 := by omega
  refine va_callr (va_runS (As := [.ref lt, .int 1]) (rest := [.ref h0]) ⟨hx, hb, hml, hown, hts⟩ (c_M_room l D cI cB cZ cS H.size lt 256 (upd (fun _ => 0) 0 77) 1 (by decide +kernel)) (⟨callB_of 2 hts (zgood kw_2007) rfl rfl rfl (hts _ kw_16) (hts _ kw_2005) (by decide +kernel) ⟨Nat.le_of_ble_eq_true rfl, Nat.le_of_ble_eq_true rfl⟩, hts _ kw_2006⟩) (zPreS hPc hK hN hDc) rfl rfl hl.1 rfl (lv_room (Nat.le_of_ble_eq_true rfl)) d_ProofDeskModel_number_61 ⟨hkc, hks⟩) hS (fun q _ h => hFc q h) hFc (fun u ra t H1 locs ht hvm hw hB hz1 hk1 hS => ?_)
  obtain ⟨hra, hP1, hD1⟩ := hB
  rw [hra]
  rw [ht] at hP1
  obtain ⟨hP, hD⟩ := va_join (wr := [(h0, .inr (16, [g_0, g_1, g_2, g_3, g_4, g_5, g_6, g_7, g_8, g_9, g_10, g_11, g_12, g_13, g_14, g_15, g_16, g_17, g_18, g_19, g_20, g_21, g_22, g_23, g_24, g_25, g_26, .ref lt, .ref st, .int 1, g_30, g_31, g_32, g_33, g_34, g_35, g_36, g_37, g_38, g_39, g_40, g_41, g_42, g_43, g_44, g_45, g_46, g_47, g_48, g_49, g_50, g_51, g_52, g_53, g_54, g_55])), (a, .inl (cI, 16400, .inl (upd (upd (fun _ => 0) 0 77) 1 120))), (st, .inl (cI, 64, .inl (upd (fun _ => 0) 1 1)))]) (w1 := [(lt, .inl (cI, 256, .inl (upd (fun _ => 0) 0 77)))]) hP hD [1] [0, 2, 3] rfl rfl (by decide +kernel) (by decide +kernel) hk1 hFc hP1 hD1
  generalize H1 = H at hP hS ⊢
  have hP : va_P D zcl [(h0, .inr (16, [g_0, g_1, g_2, g_3, g_4, g_5, g_6, g_7, g_8, g_9, g_10, g_11, g_12, g_13, g_14, g_15, g_16, g_17, g_18, g_19, g_20, g_21, g_22, g_23, g_24, g_25, g_26, .ref lt, .ref st, .int 1, g_30, g_31, g_32, g_33, g_34, g_35, g_36, g_37, g_38, g_39, g_40, g_41, g_42, g_43, g_44, g_45, g_46, g_47, g_48, g_49, g_50, g_51, g_52, g_53, g_54, g_55])), (a, .inl (cI, 16400, .inl (upd (upd (fun _ => 0) 0 77) 1 120))), (st, .inl (cI, 64, .inl (upd (fun _ => 0) 1 1))), (lt, .inl (cI, 256, .inl (upd (fun _ => 0) 0 77)))] H := hP
  have hD : va_D A [(h0, .inr (16, [g_0, g_1, g_2, g_3, g_4, g_5, g_6, g_7, g_8, g_9, g_10, g_11, g_12, g_13, g_14, g_15, g_16, g_17, g_18, g_19, g_20, g_21, g_22, g_23, g_24, g_25, g_26, .ref lt, .ref st, .int 1, g_30, g_31, g_32, g_33, g_34, g_35, g_36, g_37, g_38, g_39, g_40, g_41, g_42, g_43, g_44, g_45, g_46, g_47, g_48, g_49, g_50, g_51, g_52, g_53, g_54, g_55])), (a, .inl (cI, 16400, .inl (upd (upd (fun _ => 0) 0 77) 1 120))), (st, .inl (cI, 64, .inl (upd (fun _ => 0) 1 1))), (lt, .inl (cI, 256, .inl (upd (fun _ => 0) 0 77)))] := hD
  refine W.widen (k := 0) (n := 0) (by omega) (by omega) ?_
  refine va_put (D := D) (ci := 16) (v := .ref lt) (ty := (.array .int)) (C := "ProofDeskModel") (T := F_ProofDeskModel) (N := 56) hx hb hts in_ProofDeskModel t_ProofDeskModel t_ProofDeskModel_ok n_ProofDeskModel hown hK hP hD hS 0 rfl rfl 27 (by decide) (hts _ kw_2151) (fun _ h9 => h9) rfl (by decide +kernel) rfl rfl (Nat.le_of_ble_eq_true rfl) d_ProofDeskModel_number_64 (fun H locs hP hD hS => ?_)
  have hP : va_P D zcl [(h0, .inr (16, [g_0, g_1, g_2, g_3, g_4, g_5, g_6, g_7, g_8, g_9, g_10, g_11, g_12, g_13, g_14, g_15, g_16, g_17, g_18, g_19, g_20, g_21, g_22, g_23, g_24, g_25, g_26, .ref lt, .ref st, .int 1, g_30, g_31, g_32, g_33, g_34, g_35, g_36, g_37, g_38, g_39, g_40, g_41, g_42, g_43, g_44, g_45, g_46, g_47, g_48, g_49, g_50, g_51, g_52, g_53, g_54, g_55])), (a, .inl (cI, 16400, .inl (upd (upd (fun _ => 0) 0 77) 1 120))), (st, .inl (cI, 64, .inl (upd (fun _ => 0) 1 1))), (lt, .inl (cI, 256, .inl (upd (fun _ => 0) 0 77)))] H := hP
  have hD : va_D A [(h0, .inr (16, [g_0, g_1, g_2, g_3, g_4, g_5, g_6, g_7, g_8, g_9, g_10, g_11, g_12, g_13, g_14, g_15, g_16, g_17, g_18, g_19, g_20, g_21, g_22, g_23, g_24, g_25, g_26, .ref lt, .ref st, .int 1, g_30, g_31, g_32, g_33, g_34, g_35, g_36, g_37, g_38, g_39, g_40, g_41, g_42, g_43, g_44, g_45, g_46, g_47, g_48, g_49, g_50, g_51, g_52, g_53, g_54, g_55])), (a, .inl (cI, 16400, .inl (upd (upd (fun _ => 0) 0 77) 1 120))), (st, .inl (cI, 64, .inl (upd (fun _ => 0) 1 1))), (lt, .inl (cI, 256, .inl (upd (fun _ => 0) 0 77)))] := hD
  refine lv_aload_n hx hb d_ProofDeskModel_number_67 rfl (lv_at hl 2 rfl) ?_
  refine va_get (D := D) (ci := 16) (v := .ref lt) (C := "ProofDeskModel") (T := F_ProofDeskModel) (N := 56) hx hb hts in_ProofDeskModel hown hK hP 0 rfl rfl 27 (by decide) (hts _ kw_2151) (fun _ h9 => h9) rfl d_ProofDeskModel_number_68 ?_
  refine lv_aload_n hx hb d_ProofDeskModel_number_71 rfl (lv_at hl 2 rfl) ?_
  refine va_get (D := D) (ci := 16) (v := .ref st) (C := "ProofDeskModel") (T := F_ProofDeskModel) (N := 56) hx hb hts in_ProofDeskModel hown hK hP 0 rfl rfl 28 (by decide) (hts _ kw_2152) (fun _ h9 => h9) rfl d_ProofDeskModel_number_72 ?_
  refine lv_aload_n hx hb d_ProofDeskModel_number_75 rfl (lv_at hl 2 rfl) ?_
  refine va_get (D := D) (ci := 16) (v := .int 1) (C := "ProofDeskModel") (T := F_ProofDeskModel) (N := 56) hx hb hts in_ProofDeskModel hown hK hP 0 rfl rfl 29 (by decide) (hts _ kw_2153) (fun _ h9 => h9) rfl d_ProofDeskModel_number_76 ?_
  refine zz_iald (v := 1) hx hb hK hP 2 0 rfl rfl (i := 1) 1 (⟨by decide +kernel, by decide +kernel, by decide +kernel⟩) (by first | rfl | decide +kernel | simp [upd]) d_ProofDeskModel_number_79 ?_
  refine lv_iload hx hb d_ProofDeskModel_number_80 (lv_at hl 0 rfl) ?_
  refine lv_iadd hx hb d_ProofDeskModel_number_82 ?_
  refine zz_i (y := 1) (by decide +kernel) ?_
  refine lv_aload_n hx hb d_ProofDeskModel_number_83 rfl (lv_at hl 3 rfl) ?_
  refine lv_iload_n hx hb d_ProofDeskModel_number_84 rfl (lv_at hl 4 rfl) ?_
  refine lv_iload hx hb d_ProofDeskModel_number_85 (lv_at hl 0 rfl) ?_
  refine lv_iadd hx hb d_ProofDeskModel_number_87 ?_
  refine zz_i (y := 1) (by decide +kernel) ?_
  refine zz_iald (v := 120) hx hb hK hP 1 0 rfl rfl (i := 1) 1 (⟨by decide +kernel, by decide +kernel, by decide +kernel⟩) (by first | rfl | decide +kernel | simp [upd]) d_ProofDeskModel_number_88 ?_
  refine zz_iast hx hb hK hP hD hS 3 0 rfl rfl (i := 1) (x := 120) 1 (⟨by decide +kernel, by decide +kernel, by decide +kernel⟩) d_ProofDeskModel_number_89 (fun H locs hP hD hS => ?_)
  have hP : va_P D zcl [(h0, .inr (16, [g_0, g_1, g_2, g_3, g_4, g_5, g_6, g_7, g_8, g_9, g_10, g_11, g_12, g_13, g_14, g_15, g_16, g_17, g_18, g_19, g_20, g_21, g_22, g_23, g_24, g_25, g_26, .ref lt, .ref st, .int 1, g_30, g_31, g_32, g_33, g_34, g_35, g_36, g_37, g_38, g_39, g_40, g_41, g_42, g_43, g_44, g_45, g_46, g_47, g_48, g_49, g_50, g_51, g_52, g_53, g_54, g_55])), (a, .inl (cI, 16400, .inl (upd (upd (fun _ => 0) 0 77) 1 120))), (st, .inl (cI, 64, .inl (upd (fun _ => 0) 1 1))), (lt, .inl (cI, 256, .inl (upd (upd (fun _ => 0) 0 77) 1 120)))] H := hP
  have hD : va_D A [(h0, .inr (16, [g_0, g_1, g_2, g_3, g_4, g_5, g_6, g_7, g_8, g_9, g_10, g_11, g_12, g_13, g_14, g_15, g_16, g_17, g_18, g_19, g_20, g_21, g_22, g_23, g_24, g_25, g_26, .ref lt, .ref st, .int 1, g_30, g_31, g_32, g_33, g_34, g_35, g_36, g_37, g_38, g_39, g_40, g_41, g_42, g_43, g_44, g_45, g_46, g_47, g_48, g_49, g_50, g_51, g_52, g_53, g_54, g_55])), (a, .inl (cI, 16400, .inl (upd (upd (fun _ => 0) 0 77) 1 120))), (st, .inl (cI, 64, .inl (upd (fun _ => 0) 1 1))), (lt, .inl (cI, 256, .inl (upd (upd (fun _ => 0) 0 77) 1 120)))] := hD
  refine lv_iinc (k := 0) (v := 1) (lv' := [(5, .int 1), (4, .int (-1)), (0, .ref h0), (1, .ref a), (2, .int 1), (3, .int 1)]) hx hb d_ProofDeskModel_number_90 hl rfl (by decide +kernel) (by decide) rfl (fun ls hl => ?_)
  refine lv_goto hx hb d_ProofDeskModel_number_93 rfl ?_
  refine lv_iload hx hb d_ProofDeskModel_number_38 (lv_at hl 0 rfl) ?_
  refine lv_iload_n hx hb d_ProofDeskModel_number_40 rfl (lv_at hl 5 rfl) ?_
  have hc_3 : (1 : Int32) ≤ 1 := by decide +kernel
  refine lv_icmp_ge hx hb d_ProofDeskModel_number_41 rfl (fun _ => ?_) (fun h => absurd hc_3 h)
  refine lv_aload_n hx hb d_ProofDeskModel_number_96 rfl (lv_at hl 2 rfl) ?_
  refine lv_dup hx hb d_ProofDeskModel_number_97 rfl ?_
  refine va_get (D := D) (ci := 16) (v := .int 1) (C := "ProofDeskModel") (T := F_ProofDeskModel) (N := 56) hx hb hts in_ProofDeskModel hown hK hP 0 rfl rfl 29 (by decide) (hts _ kw_2153) (fun _ h9 => h9) rfl d_ProofDeskModel_number_98 ?_
  refine lv_iconst (v := 1) hx hb d_ProofDeskModel_number_101 (by decide) ?_
  refine lv_iadd hx hb d_ProofDeskModel_number_102 ?_
  refine zz_i (y := 2) (by decide +kernel) ?_
  refine va_put (D := D) (ci := 16) (v := .int 2) (ty := .int) (C := "ProofDeskModel") (T := F_ProofDeskModel) (N := 56) hx hb hts in_ProofDeskModel t_ProofDeskModel t_ProofDeskModel_ok n_ProofDeskModel hown hK hP hD hS 0 rfl rfl 29 (by decide) (hts _ kw_2153) (fun _ h9 => h9) rfl (by decide +kernel) rfl rfl (Nat.le_of_ble_eq_true rfl) d_ProofDeskModel_number_103 (fun H locs hP hD hS => ?_)
  have hP : va_P D zcl [(h0, .inr (16, [g_0, g_1, g_2, g_3, g_4, g_5, g_6, g_7, g_8, g_9, g_10, g_11, g_12, g_13, g_14, g_15, g_16, g_17, g_18, g_19, g_20, g_21, g_22, g_23, g_24, g_25, g_26, .ref lt, .ref st, .int 2, g_30, g_31, g_32, g_33, g_34, g_35, g_36, g_37, g_38, g_39, g_40, g_41, g_42, g_43, g_44, g_45, g_46, g_47, g_48, g_49, g_50, g_51, g_52, g_53, g_54, g_55])), (a, .inl (cI, 16400, .inl (upd (upd (fun _ => 0) 0 77) 1 120))), (st, .inl (cI, 64, .inl (upd (fun _ => 0) 1 1))), (lt, .inl (cI, 256, .inl (upd (upd (fun _ => 0) 0 77) 1 120)))] H := hP
  have hD : va_D A [(h0, .inr (16, [g_0, g_1, g_2, g_3, g_4, g_5, g_6, g_7, g_8, g_9, g_10, g_11, g_12, g_13, g_14, g_15, g_16, g_17, g_18, g_19, g_20, g_21, g_22, g_23, g_24, g_25, g_26, .ref lt, .ref st, .int 2, g_30, g_31, g_32, g_33, g_34, g_35, g_36, g_37, g_38, g_39, g_40, g_41, g_42, g_43, g_44, g_45, g_46, g_47, g_48, g_49, g_50, g_51, g_52, g_53, g_54, g_55])), (a, .inl (cI, 16400, .inl (upd (upd (fun _ => 0) 0 77) 1 120))), (st, .inl (cI, 64, .inl (upd (fun _ => 0) 1 1))), (lt, .inl (cI, 256, .inl (upd (upd (fun _ => 0) 0 77) 1 120)))] := hD
  refine lv_aload_n hx hb d_ProofDeskModel_number_106 rfl (lv_at hl 2 rfl) ?_
  refine va_get (D := D) (ci := 16) (v := .ref st) (C := "ProofDeskModel") (T := F_ProofDeskModel) (N := 56) hx hb hts in_ProofDeskModel hown hK hP 0 rfl rfl 28 (by decide) (hts _ kw_2152) (fun _ h9 => h9) rfl d_ProofDeskModel_number_107 ?_
  refine lv_aload_n hx hb d_ProofDeskModel_number_110 rfl (lv_at hl 2 rfl) ?_
  refine va_get (D := D) (ci := 16) (v := .int 2) (C := "ProofDeskModel") (T := F_ProofDeskModel) (N := 56) hx hb hts in_ProofDeskModel hown hK hP 0 rfl rfl 29 (by decide) (hts _ kw_2153) (fun _ h9 => h9) rfl d_ProofDeskModel_number_111 ?_
  refine lv_aload_n hx hb d_ProofDeskModel_number_114 rfl (lv_at hl 2 rfl) ?_
  refine va_get (D := D) (ci := 16) (v := .ref st) (C := "ProofDeskModel") (T := F_ProofDeskModel) (N := 56) hx hb hts in_ProofDeskModel hown hK hP 0 rfl rfl 28 (by decide) (hts _ kw_2152) (fun _ h9 => h9) rfl d_ProofDeskModel_number_115 ?_
  refine lv_aload_n hx hb d_ProofDeskModel_number_118 rfl (lv_at hl 2 rfl) ?_
  refine va_get (D := D) (ci := 16) (v := .int 2) (C := "ProofDeskModel") (T := F_ProofDeskModel) (N := 56) hx hb hts in_ProofDeskModel hown hK hP 0 rfl rfl 29 (by decide) (hts _ kw_2153) (fun _ h9 => h9) rfl d_ProofDeskModel_number_119 ?_
  refine lv_iconst (v := 1) hx hb d_ProofDeskModel_number_122 (by decide) ?_
  refine lv_isub hx hb d_ProofDeskModel_number_123 ?_
  refine zz_i (y := 1) (by decide +kernel) ?_
  refine zz_iald (v := 1) hx hb hK hP 2 0 rfl rfl (i := 1) 1 (⟨by decide +kernel, by decide +kernel, by decide +kernel⟩) (by first | rfl | decide +kernel | simp [upd]) d_ProofDeskModel_number_124 ?_
  refine lv_iload_n hx hb d_ProofDeskModel_number_125 rfl (lv_at hl 5 rfl) ?_
  refine lv_iadd hx hb d_ProofDeskModel_number_126 ?_
  refine zz_i (y := 2) (by decide +kernel) ?_
  refine zz_iast hx hb hK hP hD hS 2 0 rfl rfl (i := 2) (x := 2) 2 (⟨by decide +kernel, by decide +kernel, by decide +kernel⟩) d_ProofDeskModel_number_127 (fun H locs hP hD hS => ?_)
  have hP : va_P D zcl [(h0, .inr (16, [g_0, g_1, g_2, g_3, g_4, g_5, g_6, g_7, g_8, g_9, g_10, g_11, g_12, g_13, g_14, g_15, g_16, g_17, g_18, g_19, g_20, g_21, g_22, g_23, g_24, g_25, g_26, .ref lt, .ref st, .int 2, g_30, g_31, g_32, g_33, g_34, g_35, g_36, g_37, g_38, g_39, g_40, g_41, g_42, g_43, g_44, g_45, g_46, g_47, g_48, g_49, g_50, g_51, g_52, g_53, g_54, g_55])), (a, .inl (cI, 16400, .inl (upd (upd (fun _ => 0) 0 77) 1 120))), (st, .inl (cI, 64, .inl (upd (upd (fun _ => 0) 1 1) 2 2))), (lt, .inl (cI, 256, .inl (upd (upd (fun _ => 0) 0 77) 1 120)))] H := hP
  have hD : va_D A [(h0, .inr (16, [g_0, g_1, g_2, g_3, g_4, g_5, g_6, g_7, g_8, g_9, g_10, g_11, g_12, g_13, g_14, g_15, g_16, g_17, g_18, g_19, g_20, g_21, g_22, g_23, g_24, g_25, g_26, .ref lt, .ref st, .int 2, g_30, g_31, g_32, g_33, g_34, g_35, g_36, g_37, g_38, g_39, g_40, g_41, g_42, g_43, g_44, g_45, g_46, g_47, g_48, g_49, g_50, g_51, g_52, g_53, g_54, g_55])), (a, .inl (cI, 16400, .inl (upd (upd (fun _ => 0) 0 77) 1 120))), (st, .inl (cI, 64, .inl (upd (upd (fun _ => 0) 1 1) 2 2))), (lt, .inl (cI, 256, .inl (upd (upd (fun _ => 0) 0 77) 1 120)))] := hD
  refine lv_aload_n hx hb d_ProofDeskModel_number_128 rfl (lv_at hl 2 rfl) ?_
  refine va_get (D := D) (ci := 16) (v := .int 2) (C := "ProofDeskModel") (T := F_ProofDeskModel) (N := 56) hx hb hts in_ProofDeskModel hown hK hP 0 rfl rfl 29 (by decide) (hts _ kw_2153) (fun _ h9 => h9) rfl d_ProofDeskModel_number_129 ?_
  refine lv_iconst (v := 1) hx hb d_ProofDeskModel_number_132 (by decide) ?_
  refine lv_isub hx hb d_ProofDeskModel_number_133 ?_
  refine zz_i (y := 1) (by decide +kernel) ?_
  have hP9 := hP.sub (ws' := [(h0, .inr (16, [g_0, g_1, g_2, g_3, g_4, g_5, g_6, g_7, g_8, g_9, g_10, g_11, g_12, g_13, g_14, g_15, g_16, g_17, g_18, g_19, g_20, g_21, g_22, g_23, g_24, g_25, g_26, .ref lt, .ref st, .int 2, g_30, g_31, g_32, g_33, g_34, g_35, g_36, g_37, g_38, g_39, g_40, g_41, g_42, g_43, g_44, g_45, g_46, g_47, g_48, g_49, g_50, g_51, g_52, g_53, g_54, g_55])), (lt, .inl (cI, 256, .inl (upd (upd (fun _ => 0) 0 77) 1 120))), (st, .inl (cI, 64, .inl (upd (upd (fun _ => 0) 1 1) 2 2))), (a, .inl (cI, 16400, .inl (upd (upd (fun _ => 0) 0 77) 1 120)))]) [0, 3, 2, 1] rfl
  have hD9 := hD.sub (ws' := [(h0, .inr (16, [g_0, g_1, g_2, g_3, g_4, g_5, g_6, g_7, g_8, g_9, g_10, g_11, g_12, g_13, g_14, g_15, g_16, g_17, g_18, g_19, g_20, g_21, g_22, g_23, g_24, g_25, g_26, .ref lt, .ref st, .int 2, g_30, g_31, g_32, g_33, g_34, g_35, g_36, g_37, g_38, g_39, g_40, g_41, g_42, g_43, g_44, g_45, g_46, g_47, g_48, g_49, g_50, g_51, g_52, g_53, g_54, g_55])), (lt, .inl (cI, 256, .inl (upd (upd (fun _ => 0) 0 77) 1 120))), (st, .inl (cI, 64, .inl (upd (upd (fun _ => 0) 1 1) 2 2))), (a, .inl (cI, 16400, .inl (upd (upd (fun _ => 0) 0 77) 1 120)))]) [0, 3, 2, 1] (by decide +kernel) rfl
  refine W.widen (k := 0) (n := 0) (by omega) (by omega) ?_
  exact W.iret (v := 1) hx hb hr (fun t ht hW => ⟨⟨1, (), rfl, rfl, by rw [ht]; exact hP9, hD9⟩, hS.F ht⟩) hS.2.2 d_ProofDeskModel_number_134
