abbrev b_ProofDeskModel_feed : ByteArray := prog_14_method_3_code
abbrev y_ProofDeskModel_feed : MethodName := ⟨"ProofDeskModel", "feed", "(IIIII)I"⟩
theorem d_ProofDeskModel_feed_0 : decode b_ProofDeskModel_feed 0 = .ok (.aload_n 0, 1) := by decide +kernel
theorem d_ProofDeskModel_feed_1 : decode b_ProofDeskModel_feed 1 = .ok (.getfield 33, 3) := by decide +kernel
theorem d_ProofDeskModel_feed_4 : decode b_ProofDeskModel_feed 4 = .ok (.bipush 20, 2) := by decide +kernel
theorem d_ProofDeskModel_feed_6 : decode b_ProofDeskModel_feed 6 = .ok (.iadd, 1) := by decide +kernel
theorem d_ProofDeskModel_feed_7 : decode b_ProofDeskModel_feed 7 = .ok (.sipush 16400, 3) := by decide +kernel
theorem d_ProofDeskModel_feed_10 : decode b_ProofDeskModel_feed 10 = .ok (.if_icmp .le 5, 3) := by decide +kernel
theorem d_ProofDeskModel_feed_15 : decode b_ProofDeskModel_feed 15 = .ok (.iconst 0, 1) := by decide +kernel
theorem d_ProofDeskModel_feed_16 : decode b_ProofDeskModel_feed 16 = .ok (.istore 6, 2) := by decide +kernel
theorem d_ProofDeskModel_feed_18 : decode b_ProofDeskModel_feed 18 = .ok (.iload 6, 2) := by decide +kernel
theorem d_ProofDeskModel_feed_20 : decode b_ProofDeskModel_feed 20 = .ok (.bipush 20, 2) := by decide +kernel
theorem d_ProofDeskModel_feed_22 : decode b_ProofDeskModel_feed 22 = .ok (.if_icmp .ge 93, 3) := by decide +kernel
theorem d_ProofDeskModel_feed_25 : decode b_ProofDeskModel_feed 25 = .ok (.iload 6, 2) := by decide +kernel
theorem d_ProofDeskModel_feed_27 : decode b_ProofDeskModel_feed 27 = .ok (.iconst 4, 1) := by decide +kernel
theorem d_ProofDeskModel_feed_28 : decode b_ProofDeskModel_feed 28 = .ok (.if_icmp .ge 7, 3) := by decide +kernel
theorem d_ProofDeskModel_feed_31 : decode b_ProofDeskModel_feed 31 = .ok (.iload_n 1, 1) := by decide +kernel
theorem d_ProofDeskModel_feed_32 : decode b_ProofDeskModel_feed 32 = .ok (.goto 39, 3) := by decide +kernel
theorem d_ProofDeskModel_feed_71 : decode b_ProofDeskModel_feed 71 = .ok (.istore 7, 2) := by decide +kernel
theorem d_ProofDeskModel_feed_73 : decode b_ProofDeskModel_feed 73 = .ok (.aload_n 0, 1) := by decide +kernel
theorem d_ProofDeskModel_feed_74 : decode b_ProofDeskModel_feed 74 = .ok (.getfield 36, 3) := by decide +kernel
theorem d_ProofDeskModel_feed_77 : decode b_ProofDeskModel_feed 77 = .ok (.aload_n 0, 1) := by decide +kernel
theorem d_ProofDeskModel_feed_78 : decode b_ProofDeskModel_feed 78 = .ok (.getfield 33, 3) := by decide +kernel
theorem d_ProofDeskModel_feed_81 : decode b_ProofDeskModel_feed 81 = .ok (.iload 7, 2) := by decide +kernel
theorem d_ProofDeskModel_feed_83 : decode b_ProofDeskModel_feed 83 = .ok (.bipush 24, 2) := by decide +kernel
theorem d_ProofDeskModel_feed_85 : decode b_ProofDeskModel_feed 85 = .ok (.bipush 8, 2) := by decide +kernel
theorem d_ProofDeskModel_feed_87 : decode b_ProofDeskModel_feed 87 = .ok (.iload 6, 2) := by decide +kernel
theorem d_ProofDeskModel_feed_89 : decode b_ProofDeskModel_feed 89 = .ok (.iconst 4, 1) := by decide +kernel
theorem d_ProofDeskModel_feed_90 : decode b_ProofDeskModel_feed 90 = .ok (.irem, 1) := by decide +kernel
theorem d_ProofDeskModel_feed_91 : decode b_ProofDeskModel_feed 91 = .ok (.imul, 1) := by decide +kernel
theorem d_ProofDeskModel_feed_92 : decode b_ProofDeskModel_feed 92 = .ok (.isub, 1) := by decide +kernel
theorem d_ProofDeskModel_feed_93 : decode b_ProofDeskModel_feed 93 = .ok (.ishr, 1) := by decide +kernel
theorem d_ProofDeskModel_feed_94 : decode b_ProofDeskModel_feed 94 = .ok (.sipush 255, 3) := by decide +kernel
theorem d_ProofDeskModel_feed_97 : decode b_ProofDeskModel_feed 97 = .ok (.iand, 1) := by decide +kernel
theorem d_ProofDeskModel_feed_98 : decode b_ProofDeskModel_feed 98 = .ok (.iastore, 1) := by decide +kernel
theorem d_ProofDeskModel_feed_99 : decode b_ProofDeskModel_feed 99 = .ok (.aload_n 0, 1) := by decide +kernel
theorem d_ProofDeskModel_feed_100 : decode b_ProofDeskModel_feed 100 = .ok (.dup, 1) := by decide +kernel
theorem d_ProofDeskModel_feed_101 : decode b_ProofDeskModel_feed 101 = .ok (.getfield 33, 3) := by decide +kernel
theorem d_ProofDeskModel_feed_104 : decode b_ProofDeskModel_feed 104 = .ok (.iconst 1, 1) := by decide +kernel
theorem d_ProofDeskModel_feed_105 : decode b_ProofDeskModel_feed 105 = .ok (.iadd, 1) := by decide +kernel
theorem d_ProofDeskModel_feed_106 : decode b_ProofDeskModel_feed 106 = .ok (.putfield 33, 3) := by decide +kernel
theorem d_ProofDeskModel_feed_109 : decode b_ProofDeskModel_feed 109 = .ok (.iinc 6 1, 3) := by decide +kernel
theorem d_ProofDeskModel_feed_112 : decode b_ProofDeskModel_feed 112 = .ok (.goto (-94), 3) := by decide +kernel
theorem d_ProofDeskModel_feed_35 : decode b_ProofDeskModel_feed 35 = .ok (.iload 6, 2) := by decide +kernel
theorem d_ProofDeskModel_feed_37 : decode b_ProofDeskModel_feed 37 = .ok (.bipush 8, 2) := by decide +kernel
theorem d_ProofDeskModel_feed_39 : decode b_ProofDeskModel_feed 39 = .ok (.if_icmp .ge 7, 3) := by decide +kernel
theorem d_ProofDeskModel_feed_42 : decode b_ProofDeskModel_feed 42 = .ok (.iload_n 2, 1) := by decide +kernel
theorem d_ProofDeskModel_feed_43 : decode b_ProofDeskModel_feed 43 = .ok (.goto 28, 3) := by decide +kernel
theorem d_ProofDeskModel_feed_46 : decode b_ProofDeskModel_feed 46 = .ok (.iload 6, 2) := by decide +kernel
theorem d_ProofDeskModel_feed_48 : decode b_ProofDeskModel_feed 48 = .ok (.bipush 12, 2) := by decide +kernel
theorem d_ProofDeskModel_feed_50 : decode b_ProofDeskModel_feed 50 = .ok (.if_icmp .ge 7, 3) := by decide +kernel
theorem d_ProofDeskModel_feed_53 : decode b_ProofDeskModel_feed 53 = .ok (.iload_n 3, 1) := by decide +kernel
theorem d_ProofDeskModel_feed_54 : decode b_ProofDeskModel_feed 54 = .ok (.goto 17, 3) := by decide +kernel
theorem d_ProofDeskModel_feed_57 : decode b_ProofDeskModel_feed 57 = .ok (.iload 6, 2) := by decide +kernel
theorem d_ProofDeskModel_feed_59 : decode b_ProofDeskModel_feed 59 = .ok (.bipush 16, 2) := by decide +kernel
theorem d_ProofDeskModel_feed_61 : decode b_ProofDeskModel_feed 61 = .ok (.if_icmp .ge 8, 3) := by decide +kernel
theorem d_ProofDeskModel_feed_64 : decode b_ProofDeskModel_feed 64 = .ok (.iload 4, 2) := by decide +kernel
theorem d_ProofDeskModel_feed_66 : decode b_ProofDeskModel_feed 66 = .ok (.goto 5, 3) := by decide +kernel
theorem d_ProofDeskModel_feed_69 : decode b_ProofDeskModel_feed 69 = .ok (.iload 5, 2) := by decide +kernel
theorem d_ProofDeskModel_feed_115 : decode b_ProofDeskModel_feed 115 = .ok (.aload_n 0, 1) := by decide +kernel
theorem d_ProofDeskModel_feed_116 : decode b_ProofDeskModel_feed 116 = .ok (.getfield 33, 3) := by decide +kernel
theorem d_ProofDeskModel_feed_119 : decode b_ProofDeskModel_feed 119 = .ok (.ireturn, 1) := by decide +kernel
set_option maxHeartbeats 4000000 in
set_option maxRecDepth 100000 in
theorem e_feed_0 (l : Launch) (D : va_G) (cI cB cZ cS : ClassId) (sz : Nat) (h0 : Nat) (bs : Nat) (h0_0 : Value) (h0_3 : Value) (h0_4 : Value) (h0_5 : Value) (h0_6 : Value) (h0_7 : Value) (h0_8 : Value) (h0_9 : Value) (h0_10 : Value) (h0_11 : Value) (h0_12 : Value) (h0_13 : Value) (h0_14 : Value) (h0_15 : Value) (h0_16 : Value) (h0_17 : Value) (h0_18 : Value) (h0_19 : Value) (h0_20 : Value) (h0_21 : Value) (h0_22 : Value) (h0_23 : Value) (h0_24 : Value) (h0_25 : Value) (h0_26 : Value) (h0_27 : Value) (h0_28 : Value) (h0_29 : Value) (h0_30 : Value) (h0_31 : Value) (h0_32 : Value) (h0_33 : Value) (h0_34 : Value) (h0_35 : Value) (h0_36 : Value) (h0_37 : Value) (h0_38 : Value) (h0_39 : Value) (h0_40 : Value) (h0_41 : Value) (h0_42 : Value) (h0_43 : Value) (h0_44 : Value) (h0_45 : Value) (h0_46 : Value) (h0_47 : Value) (h0_48 : Value) (h0_49 : Value) (h0_50 : Value) (h0_51 : Value) (h0_52 : Value) (h0_53 : Value) (h0_54 : Value) (h0_55 : Value) (va : Int32) (vb : Int32) (vc : Int32) (vd : Int32) (ve : Int32) (f : Nat → Int32) : Met l y_ProofDeskModel_feed (zc y_ProofDeskModel_feed b_ProofDeskModel_feed 8 (some .int)) ({ frames := 0, cells := 0, slots := 0, locals := 0 }) (zPc D (zty cI cB cZ cS) [(h0, .inr (16, [h0_0, .ref bs, .int 0, h0_3, h0_4, h0_5, h0_6, h0_7, h0_8, h0_9, h0_10, h0_11, h0_12, h0_13, h0_14, h0_15, h0_16, h0_17, h0_18, h0_19, h0_20, h0_21, h0_22, h0_23, h0_24, h0_25, h0_26, h0_27, h0_28, h0_29, h0_30, h0_31, h0_32, h0_33, h0_34, h0_35, h0_36, h0_37, h0_38, h0_39, h0_40, h0_41, h0_42, h0_43, h0_44, h0_45, h0_46, h0_47, h0_48, h0_49, h0_50, h0_51, h0_52, h0_53, h0_54, h0_55])), (bs, .inl (cI, 16400, .inl f))] sz [.ref h0, .int va, .int vb, .int vc, .int vd, .int ve]) (va_Qi (fun (r : Int32) (_ : Unit) => r = 20) (fun _ t => va_P D zcl [(h0, .inr (16, [h0_0, .ref bs, .int 20, h0_3, h0_4, h0_5, h0_6, h0_7, h0_8, h0_9, h0_10, h0_11, h0_12, h0_13, h0_14, h0_15, h0_16, h0_17, h0_18, h0_19, h0_20, h0_21, h0_22, h0_23, h0_24, h0_25, h0_26, h0_27, h0_28, h0_29, h0_30, h0_31, h0_32, h0_33, h0_34, h0_35, h0_36, h0_37, h0_38, h0_39, h0_40, h0_41, h0_42, h0_43, h0_44, h0_45, h0_46, h0_47, h0_48, h0_49, h0_50, h0_51, h0_52, h0_53, h0_54, h0_55])), (bs, .inl (cI, 16400, .inl (upd (upd (upd (upd (upd (upd (upd (upd (upd (upd (upd (upd (upd (upd (upd (upd (upd (upd (upd (upd f 0 ((va >>> (24 &&& 31)) &&& 255)) 1 ((va >>> (16 &&& 31)) &&& 255)) 2 ((va >>> (8 &&& 31)) &&& 255)) 3 ((va >>> (0 &&& 31)) &&& 255)) 4 ((vb >>> (24 &&& 31)) &&& 255)) 5 ((vb >>> (16 &&& 31)) &&& 255)) 6 ((vb >>> (8 &&& 31)) &&& 255)) 7 ((vb >>> (0 &&& 31)) &&& 255)) 8 ((vc >>> (24 &&& 31)) &&& 255)) 9 ((vc >>> (16 &&& 31)) &&& 255)) 10 ((vc >>> (8 &&& 31)) &&& 255)) 11 ((vc >>> (0 &&& 31)) &&& 255)) 12 ((vd >>> (24 &&& 31)) &&& 255)) 13 ((vd >>> (16 &&& 31)) &&& 255)) 14 ((vd >>> (8 &&& 31)) &&& 255)) 15 ((vd >>> (0 &&& 31)) &&& 255)) 16 ((ve >>> (24 &&& 31)) &&& 255)) 17 ((ve >>> (16 &&& 31)) &&& 255)) 18 ((ve >>> (8 &&& 31)) &&& 255)) 19 ((ve >>> (0 &&& 31)) &&& 255))))] t.heap ∧ va_D (va_A [(h0, .inr (16, [h0_0, .ref bs, .int 0, h0_3, h0_4, h0_5, h0_6, h0_7, h0_8, h0_9, h0_10, h0_11, h0_12, h0_13, h0_14, h0_15, h0_16, h0_17, h0_18, h0_19, h0_20, h0_21, h0_22, h0_23, h0_24, h0_25, h0_26, h0_27, h0_28, h0_29, h0_30, h0_31, h0_32, h0_33, h0_34, h0_35, h0_36, h0_37, h0_38, h0_39, h0_40, h0_41, h0_42, h0_43, h0_44, h0_45, h0_46, h0_47, h0_48, h0_49, h0_50, h0_51, h0_52, h0_53, h0_54, h0_55])), (bs, .inl (cI, 16400, .inl f))] sz) [(h0, .inr (16, [h0_0, .ref bs, .int 20, h0_3, h0_4, h0_5, h0_6, h0_7, h0_8, h0_9, h0_10, h0_11, h0_12, h0_13, h0_14, h0_15, h0_16, h0_17, h0_18, h0_19, h0_20, h0_21, h0_22, h0_23, h0_24, h0_25, h0_26, h0_27, h0_28, h0_29, h0_30, h0_31, h0_32, h0_33, h0_34, h0_35, h0_36, h0_37, h0_38, h0_39, h0_40, h0_41, h0_42, h0_43, h0_44, h0_45, h0_46, h0_47, h0_48, h0_49, h0_50, h0_51, h0_52, h0_53, h0_54, h0_55])), (bs, .inl (cI, 16400, .inl (upd (upd (upd (upd (upd (upd (upd (upd (upd (upd (upd (upd (upd (upd (upd (upd (upd (upd (upd (upd f 0 ((va >>> (24 &&& 31)) &&& 255)) 1 ((va >>> (16 &&& 31)) &&& 255)) 2 ((va >>> (8 &&& 31)) &&& 255)) 3 ((va >>> (0 &&& 31)) &&& 255)) 4 ((vb >>> (24 &&& 31)) &&& 255)) 5 ((vb >>> (16 &&& 31)) &&& 255)) 6 ((vb >>> (8 &&& 31)) &&& 255)) 7 ((vb >>> (0 &&& 31)) &&& 255)) 8 ((vc >>> (24 &&& 31)) &&& 255)) 9 ((vc >>> (16 &&& 31)) &&& 255)) 10 ((vc >>> (8 &&& 31)) &&& 255)) 11 ((vc >>> (0 &&& 31)) &&& 255)) 12 ((vd >>> (24 &&& 31)) &&& 255)) 13 ((vd >>> (16 &&& 31)) &&& 255)) 14 ((vd >>> (8 &&& 31)) &&& 255)) 15 ((vd >>> (0 &&& 31)) &&& 255)) 16 ((ve >>> (24 &&& 31)) &&& 255)) 17 ((ve >>> (16 &&& 31)) &&& 255)) 18 ((ve >>> (8 &&& 31)) &&& 255)) 19 ((ve >>> (0 &&& 31)) &&& 255))))]) (va_A [(h0, .inr (16, [h0_0, .ref bs, .int 0, h0_3, h0_4, h0_5, h0_6, h0_7, h0_8, h0_9, h0_10, h0_11, h0_12, h0_13, h0_14, h0_15, h0_16, h0_17, h0_18, h0_19, h0_20, h0_21, h0_22, h0_23, h0_24, h0_25, h0_26, h0_27, h0_28, h0_29, h0_30, h0_31, h0_32, h0_33, h0_34, h0_35, h0_36, h0_37, h0_38, h0_39, h0_40, h0_41, h0_42, h0_43, h0_44, h0_45, h0_46, h0_47, h0_48, h0_49, h0_50, h0_51, h0_52, h0_53, h0_54, h0_55])), (bs, .inl (cI, 16400, .inl f))] sz)) 0 0 (va_A [(h0, .inr (16, [h0_0, .ref bs, .int 0, h0_3, h0_4, h0_5, h0_6, h0_7, h0_8, h0_9, h0_10, h0_11, h0_12, h0_13, h0_14, h0_15, h0_16, h0_17, h0_18, h0_19, h0_20, h0_21, h0_22, h0_23, h0_24, h0_25, h0_26, h0_27, h0_28, h0_29, h0_30, h0_31, h0_32, h0_33, h0_34, h0_35, h0_36, h0_37, h0_38, h0_39, h0_40, h0_41, h0_42, h0_43, h0_44, h0_45, h0_46, h0_47, h0_48, h0_49, h0_50, h0_51, h0_52, h0_53, h0_54, h0_55])), (bs, .inl (cI, 16400, .inl f))] sz) := by
  refine Met.ofW (cc := b_ProofDeskModel_feed) (maxL := 8) (ret := (some .int)) (by decide) rfl ?_
  intro p e s m args below meth c s₁ B hml hv
  obtain ⟨rfl, hsz, hP, ⟨hK, hN⟩, hD0⟩ := hv
  have hx := B.exec
  have hb := B.bytes
  have hr := B.returns
  have hts0 := atoms_spec (ws := zc y_ProofDeskModel_feed b_ProofDeskModel_feed 8 (some .int)) B.pre
  have hts : ∀ w ∈ zw, w.before _ s = true := fun w hw => hts0 w (List.mem_cons_of_mem _ hw)
  have hown : s.vm.findClass "ProofDeskModel" = some m.cls := findClass_of_methodNamed B.named
  have hlocks := B.notSynchronized
  subst hsz
  have hD := hD0.self (sz := s.heap.size)
  generalize hAe : va_A [(h0, .inr (16, [h0_0, .ref bs, .int 0, h0_3, h0_4, h0_5, h0_6, h0_7, h0_8, h0_9, h0_10, h0_11, h0_12, h0_13, h0_14, h0_15, h0_16, h0_17, h0_18, h0_19, h0_20, h0_21, h0_22, h0_23, h0_24, h0_25, h0_26, h0_27, h0_28, h0_29, h0_30, h0_31, h0_32, h0_33, h0_34, h0_35, h0_36, h0_37, h0_38, h0_39, h0_40, h0_41, h0_42, h0_43, h0_44, h0_45, h0_46, h0_47, h0_48, h0_49, h0_50, h0_51, h0_52, h0_53, h0_54, h0_55])), (bs, .inl (cI, 16400, .inl f))] s.heap.size = A at hD ⊢
  have hA : ∀ q : Nat, s.heap.size ≤ q → A q := fun q h => by rw [← hAe]; exact Or.inr h
  have hS : va_S A s.heap s.heap [] := va_S.rf
  have hP : va_P D zcl [(h0, .inr (16, [h0_0, .ref bs, .int 0, h0_3, h0_4, h0_5, h0_6, h0_7, h0_8, h0_9, h0_10, h0_11, h0_12, h0_13, h0_14, h0_15, h0_16, h0_17, h0_18, h0_19, h0_20, h0_21, h0_22, h0_23, h0_24, h0_25, h0_26, h0_27, h0_28, h0_29, h0_30, h0_31, h0_32, h0_33, h0_34, h0_35, h0_36, h0_37, h0_38, h0_39, h0_40, h0_41, h0_42, h0_43, h0_44, h0_45, h0_46, h0_47, h0_48, h0_49, h0_50, h0_51, h0_52, h0_53, h0_54, h0_55])), (bs, .inl (cI, 16400, .inl f))] s.heap := hP
  have hl := lv_entry ([.ref h0, .int va, .int vb, .int vc, .int vd, .int ve]) (n := 8) (Nat.le_of_ble_eq_true rfl)
  rw [lg_entry_eq]
  generalize (lg_sl ([.ref h0, .int va, .int vb, .int vc, .int vd, .int ve]) ++ List.replicate (8 - (lg_sl ([.ref h0, .int va, .int vb, .int vc, .int vd, .int ve])).length) Slot.unset).toArray = ls at hl ⊢
  have hl : lv_has ls 8 [(0, .ref h0), (1, .int va), (2, .int vb), (3, .int vc), (4, .int vd), (5, .int ve)] := hl
  refine lv_aload_n hx hb d_ProofDeskModel_feed_0 rfl (lv_at hl 0 rfl) ?_
  refine va_get (D := D) (ci := 16) (v := .int 0) (C := "ProofDeskModel") (T := F_ProofDeskModel) (N := 56) hx hb hts in_ProofDeskModel hown hK hP 0 rfl rfl 2 (by decide) (hts _ kw_2126) (fun _ h9 => h9) rfl d_ProofDeskModel_feed_1 ?_
  refine lv_bipush (v := 20) hx hb d_ProofDeskModel_feed_4 (by decide) ?_
  refine lv_iadd hx hb d_ProofDeskModel_feed_6 ?_
  refine zz_i (y := 20) (by decide +kernel) ?_
  refine lv_sipush (v := 16400) hx hb d_ProofDeskModel_feed_7 (by decide) ?_
  have hc_1 : (20 : Int32) ≤ 16400 := by decide +kernel
  refine lv_icmp_le hx hb d_ProofDeskModel_feed_10 rfl (fun _ => ?_) (fun h => absurd hc_1 h)
  refine lv_iconst (v := 0) hx hb d_ProofDeskModel_feed_15 (by decide) ?_
  refine lv_istore (lv' := [(6, .int 0), (0, .ref h0), (1, .int va), (2, .int vb), (3, .int vc), (4, .int vd), (5, .int ve)]) hx hb d_ProofDeskModel_feed_16 hl (by decide) rfl (fun ls hl => ?_)
  refine lv_iload hx hb d_ProofDeskModel_feed_18 (lv_at hl 0 rfl) ?_
  refine lv_bipush (v := 20) hx hb d_ProofDeskModel_feed_20 (by decide) ?_
  have hc_2 : ¬ (20 : Int32) ≤ 0 := by decide +kernel
  refine lv_icmp_ge hx hb d_ProofDeskModel_feed_22 rfl (fun h => absurd h hc_2) (fun _ => ?_)
  refine lv_iload hx hb d_ProofDeskModel_feed_25 (lv_at hl 0 rfl) ?_
  refine lv_iconst (v := 4) hx hb d_ProofDeskModel_feed_27 (by decide) ?_
  have hc_3 : ¬ (4 : Int32) ≤ 0 := by decide +kernel
  refine lv_icmp_ge hx hb d_ProofDeskModel_feed_28 rfl (fun h => absurd h hc_3) (fun _ => ?_)
  refine lv_iload_n hx hb d_ProofDeskModel_feed_31 rfl (lv_at hl 2 rfl) ?_
  refine lv_goto hx hb d_ProofDeskModel_feed_32 rfl ?_
  refine lv_istore (lv' := [(7, .int va), (6, .int 0), (0, .ref h0), (1, .int va), (2, .int vb), (3, .int vc), (4, .int vd), (5, .int ve)]) hx hb d_ProofDeskModel_feed_71 hl (by decide) rfl (fun ls hl => ?_)
  refine lv_aload_n hx hb d_ProofDeskModel_feed_73 rfl (lv_at hl 2 rfl) ?_
  refine va_get (D := D) (ci := 16) (v := .ref bs) (C := "ProofDeskModel") (T := F_ProofDeskModel) (N := 56) hx hb hts in_ProofDeskModel hown hK hP 0 rfl rfl 1 (by decide) (hts _ kw_2125) (fun _ h9 => h9) rfl d_ProofDeskModel_feed_74 ?_
  refine lv_aload_n hx hb d_ProofDeskModel_feed_77 rfl (lv_at hl 2 rfl) ?_
  refine va_get (D := D) (ci := 16) (v := .int 0) (C := "ProofDeskModel") (T := F_ProofDeskModel) (N := 56) hx hb hts in_ProofDeskModel hown hK hP 0 rfl rfl 2 (by decide) (hts _ kw_2126) (fun _ h9 => h9) rfl d_ProofDeskModel_feed_78 ?_
  refine lv_iload hx hb d_ProofDeskModel_feed_81 (lv_at hl 0 rfl) ?_
  refine lv_bipush (v := 24) hx hb d_ProofDeskModel_feed_83 (by decide) ?_
  refine lv_bipush (v := 8) hx hb d_ProofDeskModel_feed_85 (by decide) ?_
  refine lv_iload hx hb d_ProofDeskModel_feed_87 (lv_at hl 1 rfl) ?_
  refine lv_iconst (v := 4) hx hb d_ProofDeskModel_feed_89 (by decide) ?_
  refine lv_irem hx hb d_ProofDeskModel_feed_90 (by decide) ?_
  refine zz_i (y := 0) (by decide +kernel) ?_
  refine lv_imul hx hb d_ProofDeskModel_feed_91 ?_
  refine zz_i (y := 0) (by decide +kernel) ?_
  refine lv_isub hx hb d_ProofDeskModel_feed_92 ?_
  refine zz_i (y := 24) (by decide +kernel) ?_
  refine lv_ishr hx hb d_ProofDeskModel_feed_93 ?_
  refine lv_sipush (v := 255) hx hb d_ProofDeskModel_feed_94 (by decide) ?_
  refine lv_iand hx hb d_ProofDeskModel_feed_97 ?_
  refine zz_iast hx hb hK hP hD hS 1 0 rfl rfl (i := 0) (x := ((va >>> (24 &&& 31)) &&& 255)) 0 (⟨by decide +kernel, by decide +kernel, by decide +kernel⟩) d_ProofDeskModel_feed_98 (fun H locs hP hD hS => ?_)
  have hP : va_P D zcl [(h0, .inr (16, [h0_0, .ref bs, .int 0, h0_3, h0_4, h0_5, h0_6, h0_7, h0_8, h0_9, h0_10, h0_11, h0_12, h0_13, h0_14, h0_15, h0_16, h0_17, h0_18, h0_19, h0_20, h0_21, h0_22, h0_23, h0_24, h0_25, h0_26, h0_27, h0_28, h0_29, h0_30, h0_31, h0_32, h0_33, h0_34, h0_35, h0_36, h0_37, h0_38, h0_39, h0_40, h0_41, h0_42, h0_43, h0_44, h0_45, h0_46, h0_47, h0_48, h0_49, h0_50, h0_51, h0_52, h0_53, h0_54, h0_55])), (bs, .inl (cI, 16400, .inl (upd f 0 ((va >>> (24 &&& 31)) &&& 255))))] H := hP
  have hD : va_D A [(h0, .inr (16, [h0_0, .ref bs, .int 0, h0_3, h0_4, h0_5, h0_6, h0_7, h0_8, h0_9, h0_10, h0_11, h0_12, h0_13, h0_14, h0_15, h0_16, h0_17, h0_18, h0_19, h0_20, h0_21, h0_22, h0_23, h0_24, h0_25, h0_26, h0_27, h0_28, h0_29, h0_30, h0_31, h0_32, h0_33, h0_34, h0_35, h0_36, h0_37, h0_38, h0_39, h0_40, h0_41, h0_42, h0_43, h0_44, h0_45, h0_46, h0_47, h0_48, h0_49, h0_50, h0_51, h0_52, h0_53, h0_54, h0_55])), (bs, .inl (cI, 16400, .inl (upd f 0 ((va >>> (24 &&& 31)) &&& 255))))] := hD
  refine lv_aload_n hx hb d_ProofDeskModel_feed_99 rfl (lv_at hl 2 rfl) ?_
  refine lv_dup hx hb d_ProofDeskModel_feed_100 rfl ?_
  refine va_get (D := D) (ci := 16) (v := .int 0) (C := "ProofDeskModel") (T := F_ProofDeskModel) (N := 56) hx hb hts in_ProofDeskModel hown hK hP 0 rfl rfl 2 (by decide) (hts _ kw_2126) (fun _ h9 => h9) rfl d_ProofDeskModel_feed_101 ?_
  refine lv_iconst (v := 1) hx hb d_ProofDeskModel_feed_104 (by decide) ?_
  refine lv_iadd hx hb d_ProofDeskModel_feed_105 ?_
  refine zz_i (y := 1) (by decide +kernel) ?_
  refine va_put (D := D) (ci := 16) (v := .int 1) (ty := .int) (C := "ProofDeskModel") (T := F_ProofDeskModel) (N := 56) hx hb hts in_ProofDeskModel t_ProofDeskModel t_ProofDeskModel_ok n_ProofDeskModel hown hK hP hD hS 0 rfl rfl 2 (by decide) (hts _ kw_2126) (fun _ h9 => h9) rfl (by decide +kernel) rfl rfl (Nat.le_of_ble_eq_true rfl) d_ProofDeskModel_feed_106 (fun H locs hP hD hS => ?_)
  have hP : va_P D zcl [(h0, .inr (16, [h0_0, .ref bs, .int 1, h0_3, h0_4, h0_5, h0_6, h0_7, h0_8, h0_9, h0_10, h0_11, h0_12, h0_13, h0_14, h0_15, h0_16, h0_17, h0_18, h0_19, h0_20, h0_21, h0_22, h0_23, h0_24, h0_25, h0_26, h0_27, h0_28, h0_29, h0_30, h0_31, h0_32, h0_33, h0_34, h0_35, h0_36, h0_37, h0_38, h0_39, h0_40, h0_41, h0_42, h0_43, h0_44, h0_45, h0_46, h0_47, h0_48, h0_49, h0_50, h0_51, h0_52, h0_53, h0_54, h0_55])), (bs, .inl (cI, 16400, .inl (upd f 0 ((va >>> (24 &&& 31)) &&& 255))))] H := hP
  have hD : va_D A [(h0, .inr (16, [h0_0, .ref bs, .int 1, h0_3, h0_4, h0_5, h0_6, h0_7, h0_8, h0_9, h0_10, h0_11, h0_12, h0_13, h0_14, h0_15, h0_16, h0_17, h0_18, h0_19, h0_20, h0_21, h0_22, h0_23, h0_24, h0_25, h0_26, h0_27, h0_28, h0_29, h0_30, h0_31, h0_32, h0_33, h0_34, h0_35, h0_36, h0_37, h0_38, h0_39, h0_40, h0_41, h0_42, h0_43, h0_44, h0_45, h0_46, h0_47, h0_48, h0_49, h0_50, h0_51, h0_52, h0_53, h0_54, h0_55])), (bs, .inl (cI, 16400, .inl (upd f 0 ((va >>> (24 &&& 31)) &&& 255))))] := hD
  refine lv_iinc (k := 1) (v := 1) (lv' := [(6, .int 1), (7, .int va), (0, .ref h0), (1, .int va), (2, .int vb), (3, .int vc), (4, .int vd), (5, .int ve)]) hx hb d_ProofDeskModel_feed_109 hl rfl (by decide +kernel) (by decide) rfl (fun ls hl => ?_)
  refine lv_goto hx hb d_ProofDeskModel_feed_112 rfl ?_
  refine lv_iload hx hb d_ProofDeskModel_feed_18 (lv_at hl 0 rfl) ?_
  refine lv_bipush (v := 20) hx hb d_ProofDeskModel_feed_20 (by decide) ?_
  have hc_4 : ¬ (20 : Int32) ≤ 1 := by decide +kernel
  refine lv_icmp_ge hx hb d_ProofDeskModel_feed_22 rfl (fun h => absurd h hc_4) (fun _ => ?_)
  refine lv_iload hx hb d_ProofDeskModel_feed_25 (lv_at hl 0 rfl) ?_
  refine lv_iconst (v := 4) hx hb d_ProofDeskModel_feed_27 (by decide) ?_
  have hc_5 : ¬ (4 : Int32) ≤ 1 := by decide +kernel
  refine lv_icmp_ge hx hb d_ProofDeskModel_feed_28 rfl (fun h => absurd h hc_5) (fun _ => ?_)
  refine lv_iload_n hx hb d_ProofDeskModel_feed_31 rfl (lv_at hl 3 rfl) ?_
  refine lv_goto hx hb d_ProofDeskModel_feed_32 rfl ?_
  refine lv_istore (lv' := [(7, .int va), (6, .int 1), (0, .ref h0), (1, .int va), (2, .int vb), (3, .int vc), (4, .int vd), (5, .int ve)]) hx hb d_ProofDeskModel_feed_71 hl (by decide) rfl (fun ls hl => ?_)
  refine lv_aload_n hx hb d_ProofDeskModel_feed_73 rfl (lv_at hl 2 rfl) ?_
  refine va_get (D := D) (ci := 16) (v := .ref bs) (C := "ProofDeskModel") (T := F_ProofDeskModel) (N := 56) hx hb hts in_ProofDeskModel hown hK hP 0 rfl rfl 1 (by decide) (hts _ kw_2125) (fun _ h9 => h9) rfl d_ProofDeskModel_feed_74 ?_
  refine lv_aload_n hx hb d_ProofDeskModel_feed_77 rfl (lv_at hl 2 rfl) ?_
  refine va_get (D := D) (ci := 16) (v := .int 1) (C := "ProofDeskModel") (T := F_ProofDeskModel) (N := 56) hx hb hts in_ProofDeskModel hown hK hP 0 rfl rfl 2 (by decide) (hts _ kw_2126) (fun _ h9 => h9) rfl d_ProofDeskModel_feed_78 ?_
  refine lv_iload hx hb d_ProofDeskModel_feed_81 (lv_at hl 0 rfl) ?_
  refine lv_bipush (v := 24) hx hb d_ProofDeskModel_feed_83 (by decide) ?_
  refine lv_bipush (v := 8) hx hb d_ProofDeskModel_feed_85 (by decide) ?_
  refine lv_iload hx hb d_ProofDeskModel_feed_87 (lv_at hl 1 rfl) ?_
  refine lv_iconst (v := 4) hx hb d_ProofDeskModel_feed_89 (by decide) ?_
  refine lv_irem hx hb d_ProofDeskModel_feed_90 (by decide) ?_
  refine zz_i (y := 1) (by decide +kernel) ?_
  refine lv_imul hx hb d_ProofDeskModel_feed_91 ?_
  refine zz_i (y := 8) (by decide +kernel) ?_
  refine lv_isub hx hb d_ProofDeskModel_feed_92 ?_
  refine zz_i (y := 16) (by decide +kernel) ?_
  refine lv_ishr hx hb d_ProofDeskModel_feed_93 ?_
  refine lv_sipush (v := 255) hx hb d_ProofDeskModel_feed_94 (by decide) ?_
  refine lv_iand hx hb d_ProofDeskModel_feed_97 ?_
  refine zz_iast hx hb hK hP hD hS 1 0 rfl rfl (i := 1) (x := ((va >>> (16 &&& 31)) &&& 255)) 1 (⟨by decide +kernel, by decide +kernel, by decide +kernel⟩) d_ProofDeskModel_feed_98 (fun H locs hP hD hS => ?_)
  have hP : va_P D zcl [(h0, .inr (16, [h0_0, .ref bs, .int 1, h0_3, h0_4, h0_5, h0_6, h0_7, h0_8, h0_9, h0_10, h0_11, h0_12, h0_13, h0_14, h0_15, h0_16, h0_17, h0_18, h0_19, h0_20, h0_21, h0_22, h0_23, h0_24, h0_25, h0_26, h0_27, h0_28, h0_29, h0_30, h0_31, h0_32, h0_33, h0_34, h0_35, h0_36, h0_37, h0_38, h0_39, h0_40, h0_41, h0_42, h0_43, h0_44, h0_45, h0_46, h0_47, h0_48, h0_49, h0_50, h0_51, h0_52, h0_53, h0_54, h0_55])), (bs, .inl (cI, 16400, .inl (upd (upd f 0 ((va >>> (24 &&& 31)) &&& 255)) 1 ((va >>> (16 &&& 31)) &&& 255))))] H := hP
  have hD : va_D A [(h0, .inr (16, [h0_0, .ref bs, .int 1, h0_3, h0_4, h0_5, h0_6, h0_7, h0_8, h0_9, h0_10, h0_11, h0_12, h0_13, h0_14, h0_15, h0_16, h0_17, h0_18, h0_19, h0_20, h0_21, h0_22, h0_23, h0_24, h0_25, h0_26, h0_27, h0_28, h0_29, h0_30, h0_31, h0_32, h0_33, h0_34, h0_35, h0_36, h0_37, h0_38, h0_39, h0_40, h0_41, h0_42, h0_43, h0_44, h0_45, h0_46, h0_47, h0_48, h0_49, h0_50, h0_51, h0_52, h0_53, h0_54, h0_55])), (bs, .inl (cI, 16400, .inl (upd (upd f 0 ((va >>> (24 &&& 31)) &&& 255)) 1 ((va >>> (16 &&& 31)) &&& 255))))] := hD
  refine lv_aload_n hx hb d_ProofDeskModel_feed_99 rfl (lv_at hl 2 rfl) ?_
  refine lv_dup hx hb d_ProofDeskModel_feed_100 rfl ?_
  refine va_get (D := D) (ci := 16) (v := .int 1) (C := "ProofDeskModel") (T := F_ProofDeskModel) (N := 56) hx hb hts in_ProofDeskModel hown hK hP 0 rfl rfl 2 (by decide) (hts _ kw_2126) (fun _ h9 => h9) rfl d_ProofDeskModel_feed_101 ?_
  refine lv_iconst (v := 1) hx hb d_ProofDeskModel_feed_104 (by decide) ?_
  refine lv_iadd hx hb d_ProofDeskModel_feed_105 ?_
  refine zz_i (y := 2) (by decide +kernel) ?_
  refine va_put (D := D) (ci := 16) (v := .int 2) (ty := .int) (C := "ProofDeskModel") (T := F_ProofDeskModel) (N := 56) hx hb hts in_ProofDeskModel t_ProofDeskModel t_ProofDeskModel_ok n_ProofDeskModel hown hK hP hD hS 0 rfl rfl 2 (by decide) (hts _ kw_2126) (fun _ h9 => h9) rfl (by decide +kernel) rfl rfl (Nat.le_of_ble_eq_true rfl) d_ProofDeskModel_feed_106 (fun H locs hP hD hS => ?_)
  have hP : va_P D zcl [(h0, .inr (16, [h0_0, .ref bs, .int 2, h0_3, h0_4, h0_5, h0_6, h0_7, h0_8, h0_9, h0_10, h0_11, h0_12, h0_13, h0_14, h0_15, h0_16, h0_17, h0_18, h0_19, h0_20, h0_21, h0_22, h0_23, h0_24, h0_25, h0_26, h0_27, h0_28, h0_29, h0_30, h0_31, h0_32, h0_33, h0_34, h0_35, h0_36, h0_37, h0_38, h0_39, h0_40, h0_41, h0_42, h0_43, h0_44, h0_45, h0_46, h0_47, h0_48, h0_49, h0_50, h0_51, h0_52, h0_53, h0_54, h0_55])), (bs, .inl (cI, 16400, .inl (upd (upd f 0 ((va >>> (24 &&& 31)) &&& 255)) 1 ((va >>> (16 &&& 31)) &&& 255))))] H := hP
  have hD : va_D A [(h0, .inr (16, [h0_0, .ref bs, .int 2, h0_3, h0_4, h0_5, h0_6, h0_7, h0_8, h0_9, h0_10, h0_11, h0_12, h0_13, h0_14, h0_15, h0_16, h0_17, h0_18, h0_19, h0_20, h0_21, h0_22, h0_23, h0_24, h0_25, h0_26, h0_27, h0_28, h0_29, h0_30, h0_31, h0_32, h0_33, h0_34, h0_35, h0_36, h0_37, h0_38, h0_39, h0_40, h0_41, h0_42, h0_43, h0_44, h0_45, h0_46, h0_47, h0_48, h0_49, h0_50, h0_51, h0_52, h0_53, h0_54, h0_55])), (bs, .inl (cI, 16400, .inl (upd (upd f 0 ((va >>> (24 &&& 31)) &&& 255)) 1 ((va >>> (16 &&& 31)) &&& 255))))] := hD
  refine lv_iinc (k := 1) (v := 2) (lv' := [(6, .int 2), (7, .int va), (0, .ref h0), (1, .int va), (2, .int vb), (3, .int vc), (4, .int vd), (5, .int ve)]) hx hb d_ProofDeskModel_feed_109 hl rfl (by decide +kernel) (by decide) rfl (fun ls hl => ?_)
  refine lv_goto hx hb d_ProofDeskModel_feed_112 rfl ?_
  refine lv_iload hx hb d_ProofDeskModel_feed_18 (lv_at hl 0 rfl) ?_
  refine lv_bipush (v := 20) hx hb d_ProofDeskModel_feed_20 (by decide) ?_
  have hc_6 : ¬ (20 : Int32) ≤ 2 := by decide +kernel
  refine lv_icmp_ge hx hb d_ProofDeskModel_feed_22 rfl (fun h => absurd h hc_6) (fun _ => ?_)
  refine lv_iload hx hb d_ProofDeskModel_feed_25 (lv_at hl 0 rfl) ?_
  refine lv_iconst (v := 4) hx hb d_ProofDeskModel_feed_27 (by decide) ?_
  have hc_7 : ¬ (4 : Int32) ≤ 2 := by decide +kernel
  refine lv_icmp_ge hx hb d_ProofDeskModel_feed_28 rfl (fun h => absurd h hc_7) (fun _ => ?_)
  refine lv_iload_n hx hb d_ProofDeskModel_feed_31 rfl (lv_at hl 3 rfl) ?_
  refine lv_goto hx hb d_ProofDeskModel_feed_32 rfl ?_
  refine lv_istore (lv' := [(7, .int va), (6, .int 2), (0, .ref h0), (1, .int va), (2, .int vb), (3, .int vc), (4, .int vd), (5, .int ve)]) hx hb d_ProofDeskModel_feed_71 hl (by decide) rfl (fun ls hl => ?_)
  refine lv_aload_n hx hb d_ProofDeskModel_feed_73 rfl (lv_at hl 2 rfl) ?_
  refine va_get (D := D) (ci := 16) (v := .ref bs) (C := "ProofDeskModel") (T := F_ProofDeskModel) (N := 56) hx hb hts in_ProofDeskModel hown hK hP 0 rfl rfl 1 (by decide) (hts _ kw_2125) (fun _ h9 => h9) rfl d_ProofDeskModel_feed_74 ?_
  refine lv_aload_n hx hb d_ProofDeskModel_feed_77 rfl (lv_at hl 2 rfl) ?_
  refine va_get (D := D) (ci := 16) (v := .int 2) (C := "ProofDeskModel") (T := F_ProofDeskModel) (N := 56) hx hb hts in_ProofDeskModel hown hK hP 0 rfl rfl 2 (by decide) (hts _ kw_2126) (fun _ h9 => h9) rfl d_ProofDeskModel_feed_78 ?_
  refine lv_iload hx hb d_ProofDeskModel_feed_81 (lv_at hl 0 rfl) ?_
  refine lv_bipush (v := 24) hx hb d_ProofDeskModel_feed_83 (by decide) ?_
  refine lv_bipush (v := 8) hx hb d_ProofDeskModel_feed_85 (by decide) ?_
  refine lv_iload hx hb d_ProofDeskModel_feed_87 (lv_at hl 1 rfl) ?_
  refine lv_iconst (v := 4) hx hb d_ProofDeskModel_feed_89 (by decide) ?_
  refine lv_irem hx hb d_ProofDeskModel_feed_90 (by decide) ?_
  refine zz_i (y := 2) (by decide +kernel) ?_
  refine lv_imul hx hb d_ProofDeskModel_feed_91 ?_
  refine zz_i (y := 16) (by decide +kernel) ?_
  refine lv_isub hx hb d_ProofDeskModel_feed_92 ?_
  refine zz_i (y := 8) (by decide +kernel) ?_
  refine lv_ishr hx hb d_ProofDeskModel_feed_93 ?_
  refine lv_sipush (v := 255) hx hb d_ProofDeskModel_feed_94 (by decide) ?_
  refine lv_iand hx hb d_ProofDeskModel_feed_97 ?_
  refine zz_iast hx hb hK hP hD hS 1 0 rfl rfl (i := 2) (x := ((va >>> (8 &&& 31)) &&& 255)) 2 (⟨by decide +kernel, by decide +kernel, by decide +kernel⟩) d_ProofDeskModel_feed_98 (fun H locs hP hD hS => ?_)
  have hP : va_P D zcl [(h0, .inr (16, [h0_0, .ref bs, .int 2, h0_3, h0_4, h0_5, h0_6, h0_7, h0_8, h0_9, h0_10, h0_11, h0_12, h0_13, h0_14, h0_15, h0_16, h0_17, h0_18, h0_19, h0_20, h0_21, h0_22, h0_23, h0_24, h0_25, h0_26, h0_27, h0_28, h0_29, h0_30, h0_31, h0_32, h0_33, h0_34, h0_35, h0_36, h0_37, h0_38, h0_39, h0_40, h0_41, h0_42, h0_43, h0_44, h0_45, h0_46, h0_47, h0_48, h0_49, h0_50, h0_51, h0_52, h0_53, h0_54, h0_55])), (bs, .inl (cI, 16400, .inl (upd (upd (upd f 0 ((va >>> (24 &&& 31)) &&& 255)) 1 ((va >>> (16 &&& 31)) &&& 255)) 2 ((va >>> (8 &&& 31)) &&& 255))))] H := hP
  have hD : va_D A [(h0, .inr (16, [h0_0, .ref bs, .int 2, h0_3, h0_4, h0_5, h0_6, h0_7, h0_8, h0_9, h0_10, h0_11, h0_12, h0_13, h0_14, h0_15, h0_16, h0_17, h0_18, h0_19, h0_20, h0_21, h0_22, h0_23, h0_24, h0_25, h0_26, h0_27, h0_28, h0_29, h0_30, h0_31, h0_32, h0_33, h0_34, h0_35, h0_36, h0_37, h0_38, h0_39, h0_40, h0_41, h0_42, h0_43, h0_44, h0_45, h0_46, h0_47, h0_48, h0_49, h0_50, h0_51, h0_52, h0_53, h0_54, h0_55])), (bs, .inl (cI, 16400, .inl (upd (upd (upd f 0 ((va >>> (24 &&& 31)) &&& 255)) 1 ((va >>> (16 &&& 31)) &&& 255)) 2 ((va >>> (8 &&& 31)) &&& 255))))] := hD
  refine lv_aload_n hx hb d_ProofDeskModel_feed_99 rfl (lv_at hl 2 rfl) ?_
  refine lv_dup hx hb d_ProofDeskModel_feed_100 rfl ?_
  refine va_get (D := D) (ci := 16) (v := .int 2) (C := "ProofDeskModel") (T := F_ProofDeskModel) (N := 56) hx hb hts in_ProofDeskModel hown hK hP 0 rfl rfl 2 (by decide) (hts _ kw_2126) (fun _ h9 => h9) rfl d_ProofDeskModel_feed_101 ?_
  refine lv_iconst (v := 1) hx hb d_ProofDeskModel_feed_104 (by decide) ?_
  refine lv_iadd hx hb d_ProofDeskModel_feed_105 ?_
  refine zz_i (y := 3) (by decide +kernel) ?_
  refine va_put (D := D) (ci := 16) (v := .int 3) (ty := .int) (C := "ProofDeskModel") (T := F_ProofDeskModel) (N := 56) hx hb hts in_ProofDeskModel t_ProofDeskModel t_ProofDeskModel_ok n_ProofDeskModel hown hK hP hD hS 0 rfl rfl 2 (by decide) (hts _ kw_2126) (fun _ h9 => h9) rfl (by decide +kernel) rfl rfl (Nat.le_of_ble_eq_true rfl) d_ProofDeskModel_feed_106 (fun H locs hP hD hS => ?_)
  have hP : va_P D zcl [(h0, .inr (16, [h0_0, .ref bs, .int 3, h0_3, h0_4, h0_5, h0_6, h0_7, h0_8, h0_9, h0_10, h0_11, h0_12, h0_13, h0_14, h0_15, h0_16, h0_17, h0_18, h0_19, h0_20, h0_21, h0_22, h0_23, h0_24, h0_25, h0_26, h0_27, h0_28, h0_29, h0_30, h0_31, h0_32, h0_33, h0_34, h0_35, h0_36, h0_37, h0_38, h0_39, h0_40, h0_41, h0_42, h0_43, h0_44, h0_45, h0_46, h0_47, h0_48, h0_49, h0_50, h0_51, h0_52, h0_53, h0_54, h0_55])), (bs, .inl (cI, 16400, .inl (upd (upd (upd f 0 ((va >>> (24 &&& 31)) &&& 255)) 1 ((va >>> (16 &&& 31)) &&& 255)) 2 ((va >>> (8 &&& 31)) &&& 255))))] H := hP
  have hD : va_D A [(h0, .inr (16, [h0_0, .ref bs, .int 3, h0_3, h0_4, h0_5, h0_6, h0_7, h0_8, h0_9, h0_10, h0_11, h0_12, h0_13, h0_14, h0_15, h0_16, h0_17, h0_18, h0_19, h0_20, h0_21, h0_22, h0_23, h0_24, h0_25, h0_26, h0_27, h0_28, h0_29, h0_30, h0_31, h0_32, h0_33, h0_34, h0_35, h0_36, h0_37, h0_38, h0_39, h0_40, h0_41, h0_42, h0_43, h0_44, h0_45, h0_46, h0_47, h0_48, h0_49, h0_50, h0_51, h0_52, h0_53, h0_54, h0_55])), (bs, .inl (cI, 16400, .inl (upd (upd (upd f 0 ((va >>> (24 &&& 31)) &&& 255)) 1 ((va >>> (16 &&& 31)) &&& 255)) 2 ((va >>> (8 &&& 31)) &&& 255))))] := hD
  refine lv_iinc (k := 1) (v := 3) (lv' := [(6, .int 3), (7, .int va), (0, .ref h0), (1, .int va), (2, .int vb), (3, .int vc), (4, .int vd), (5, .int ve)]) hx hb d_ProofDeskModel_feed_109 hl rfl (by decide +kernel) (by decide) rfl (fun ls hl => ?_)
  refine lv_goto hx hb d_ProofDeskModel_feed_112 rfl ?_
  refine lv_iload hx hb d_ProofDeskModel_feed_18 (lv_at hl 0 rfl) ?_
  refine lv_bipush (v := 20) hx hb d_ProofDeskModel_feed_20 (by decide) ?_
  have hc_8 : ¬ (20 : Int32) ≤ 3 := by decide +kernel
  refine lv_icmp_ge hx hb d_ProofDeskModel_feed_22 rfl (fun h => absurd h hc_8) (fun _ => ?_)
  refine lv_iload hx hb d_ProofDeskModel_feed_25 (lv_at hl 0 rfl) ?_
  refine lv_iconst (v := 4) hx hb d_ProofDeskModel_feed_27 (by decide) ?_
  have hc_9 : ¬ (4 : Int32) ≤ 3 := by decide +kernel
  refine lv_icmp_ge hx hb d_ProofDeskModel_feed_28 rfl (fun h => absurd h hc_9) (fun _ => ?_)
  refine lv_iload_n hx hb d_ProofDeskModel_feed_31 rfl (lv_at hl 3 rfl) ?_
  refine lv_goto hx hb d_ProofDeskModel_feed_32 rfl ?_
  refine lv_istore (lv' := [(7, .int va), (6, .int 3), (0, .ref h0), (1, .int va), (2, .int vb), (3, .int vc), (4, .int vd), (5, .int ve)]) hx hb d_ProofDeskModel_feed_71 hl (by decide) rfl (fun ls hl => ?_)
  refine lv_aload_n hx hb d_ProofDeskModel_feed_73 rfl (lv_at hl 2 rfl) ?_
  refine va_get (D := D) (ci := 16) (v := .ref bs) (C := "ProofDeskModel") (T := F_ProofDeskModel) (N := 56) hx hb hts in_ProofDeskModel hown hK hP 0 rfl rfl 1 (by decide) (hts _ kw_2125) (fun _ h9 => h9) rfl d_ProofDeskModel_feed_74 ?_
  refine lv_aload_n hx hb d_ProofDeskModel_feed_77 rfl (lv_at hl 2 rfl) ?_
  refine va_get (D := D) (ci := 16) (v := .int 3) (C := "ProofDeskModel") (T := F_ProofDeskModel) (N := 56) hx hb hts in_ProofDeskModel hown hK hP 0 rfl rfl 2 (by decide) (hts _ kw_2126) (fun _ h9 => h9) rfl d_ProofDeskModel_feed_78 ?_
  refine lv_iload hx hb d_ProofDeskModel_feed_81 (lv_at hl 0 rfl) ?_
  refine lv_bipush (v := 24) hx hb d_ProofDeskModel_feed_83 (by decide) ?_
  refine lv_bipush (v := 8) hx hb d_ProofDeskModel_feed_85 (by decide) ?_
  refine lv_iload hx hb d_ProofDeskModel_feed_87 (lv_at hl 1 rfl) ?_
  refine lv_iconst (v := 4) hx hb d_ProofDeskModel_feed_89 (by decide) ?_
  refine lv_irem hx hb d_ProofDeskModel_feed_90 (by decide) ?_
  refine zz_i (y := 3) (by decide +kernel) ?_
  refine lv_imul hx hb d_ProofDeskModel_feed_91 ?_
  refine zz_i (y := 24) (by decide +kernel) ?_
  refine lv_isub hx hb d_ProofDeskModel_feed_92 ?_
  refine zz_i (y := 0) (by decide +kernel) ?_
  refine lv_ishr hx hb d_ProofDeskModel_feed_93 ?_
  refine lv_sipush (v := 255) hx hb d_ProofDeskModel_feed_94 (by decide) ?_
  refine lv_iand hx hb d_ProofDeskModel_feed_97 ?_
  refine zz_iast hx hb hK hP hD hS 1 0 rfl rfl (i := 3) (x := ((va >>> (0 &&& 31)) &&& 255)) 3 (⟨by decide +kernel, by decide +kernel, by decide +kernel⟩) d_ProofDeskModel_feed_98 (fun H locs hP hD hS => ?_)
  have hP : va_P D zcl [(h0, .inr (16, [h0_0, .ref bs, .int 3, h0_3, h0_4, h0_5, h0_6, h0_7, h0_8, h0_9, h0_10, h0_11, h0_12, h0_13, h0_14, h0_15, h0_16, h0_17, h0_18, h0_19, h0_20, h0_21, h0_22, h0_23, h0_24, h0_25, h0_26, h0_27, h0_28, h0_29, h0_30, h0_31, h0_32, h0_33, h0_34, h0_35, h0_36, h0_37, h0_38, h0_39, h0_40, h0_41, h0_42, h0_43, h0_44, h0_45, h0_46, h0_47, h0_48, h0_49, h0_50, h0_51, h0_52, h0_53, h0_54, h0_55])), (bs, .inl (cI, 16400, .inl (upd (upd (upd (upd f 0 ((va >>> (24 &&& 31)) &&& 255)) 1 ((va >>> (16 &&& 31)) &&& 255)) 2 ((va >>> (8 &&& 31)) &&& 255)) 3 ((va >>> (0 &&& 31)) &&& 255))))] H := hP
  have hD : va_D A [(h0, .inr (16, [h0_0, .ref bs, .int 3, h0_3, h0_4, h0_5, h0_6, h0_7, h0_8, h0_9, h0_10, h0_11, h0_12, h0_13, h0_14, h0_15, h0_16, h0_17, h0_18, h0_19, h0_20, h0_21, h0_22, h0_23, h0_24, h0_25, h0_26, h0_27, h0_28, h0_29, h0_30, h0_31, h0_32, h0_33, h0_34, h0_35, h0_36, h0_37, h0_38, h0_39, h0_40, h0_41, h0_42, h0_43, h0_44, h0_45, h0_46, h0_47, h0_48, h0_49, h0_50, h0_51, h0_52, h0_53, h0_54, h0_55])), (bs, .inl (cI, 16400, .inl (upd (upd (upd (upd f 0 ((va >>> (24 &&& 31)) &&& 255)) 1 ((va >>> (16 &&& 31)) &&& 255)) 2 ((va >>> (8 &&& 31)) &&& 255)) 3 ((va >>> (0 &&& 31)) &&& 255))))] := hD
  refine lv_aload_n hx hb d_ProofDeskModel_feed_99 rfl (lv_at hl 2 rfl) ?_
  refine lv_dup hx hb d_ProofDeskModel_feed_100 rfl ?_
  refine va_get (D := D) (ci := 16) (v := .int 3) (C := "ProofDeskModel") (T := F_ProofDeskModel) (N := 56) hx hb hts in_ProofDeskModel hown hK hP 0 rfl rfl 2 (by decide) (hts _ kw_2126) (fun _ h9 => h9) rfl d_ProofDeskModel_feed_101 ?_
  refine lv_iconst (v := 1) hx hb d_ProofDeskModel_feed_104 (by decide) ?_
  refine lv_iadd hx hb d_ProofDeskModel_feed_105 ?_
  refine zz_i (y := 4) (by decide +kernel) ?_
  refine va_put (D := D) (ci := 16) (v := .int 4) (ty := .int) (C := "ProofDeskModel") (T := F_ProofDeskModel) (N := 56) hx hb hts in_ProofDeskModel t_ProofDeskModel t_ProofDeskModel_ok n_ProofDeskModel hown hK hP hD hS 0 rfl rfl 2 (by decide) (hts _ kw_2126) (fun _ h9 => h9) rfl (by decide +kernel) rfl rfl (Nat.le_of_ble_eq_true rfl) d_ProofDeskModel_feed_106 (fun H locs hP hD hS => ?_)
  have hP : va_P D zcl [(h0, .inr (16, [h0_0, .ref bs, .int 4, h0_3, h0_4, h0_5, h0_6, h0_7, h0_8, h0_9, h0_10, h0_11, h0_12, h0_13, h0_14, h0_15, h0_16, h0_17, h0_18, h0_19, h0_20, h0_21, h0_22, h0_23, h0_24, h0_25, h0_26, h0_27, h0_28, h0_29, h0_30, h0_31, h0_32, h0_33, h0_34, h0_35, h0_36, h0_37, h0_38, h0_39, h0_40, h0_41, h0_42, h0_43, h0_44, h0_45, h0_46, h0_47, h0_48, h0_49, h0_50, h0_51, h0_52, h0_53, h0_54, h0_55])), (bs, .inl (cI, 16400, .inl (upd (upd (upd (upd f 0 ((va >>> (24 &&& 31)) &&& 255)) 1 ((va >>> (16 &&& 31)) &&& 255)) 2 ((va >>> (8 &&& 31)) &&& 255)) 3 ((va >>> (0 &&& 31)) &&& 255))))] H := hP
  have hD : va_D A [(h0, .inr (16, [h0_0, .ref bs, .int 4, h0_3, h0_4, h0_5, h0_6, h0_7, h0_8, h0_9, h0_10, h0_11, h0_12, h0_13, h0_14, h0_15, h0_16, h0_17, h0_18, h0_19, h0_20, h0_21, h0_22, h0_23, h0_24, h0_25, h0_26, h0_27, h0_28, h0_29, h0_30, h0_31, h0_32, h0_33, h0_34, h0_35, h0_36, h0_37, h0_38, h0_39, h0_40, h0_41, h0_42, h0_43, h0_44, h0_45, h0_46, h0_47, h0_48, h0_49, h0_50, h0_51, h0_52, h0_53, h0_54, h0_55])), (bs, .inl (cI, 16400, .inl (upd (upd (upd (upd f 0 ((va >>> (24 &&& 31)) &&& 255)) 1 ((va >>> (16 &&& 31)) &&& 255)) 2 ((va >>> (8 &&& 31)) &&& 255)) 3 ((va >>> (0 &&& 31)) &&& 255))))] := hD
  refine lv_iinc (k := 1) (v := 4) (lv' := [(6, .int 4), (7, .int va), (0, .ref h0), (1, .int va), (2, .int vb), (3, .int vc), (4, .int vd), (5, .int ve)]) hx hb d_ProofDeskModel_feed_109 hl rfl (by decide +kernel) (by decide) rfl (fun ls hl => ?_)
  refine lv_goto hx hb d_ProofDeskModel_feed_112 rfl ?_
  refine lv_iload hx hb d_ProofDeskModel_feed_18 (lv_at hl 0 rfl) ?_
  refine lv_bipush (v := 20) hx hb d_ProofDeskModel_feed_20 (by decide) ?_
  have hc_10 : ¬ (20 : Int32) ≤ 4 := by decide +kernel
  refine lv_icmp_ge hx hb d_ProofDeskModel_feed_22 rfl (fun h => absurd h hc_10) (fun _ => ?_)
  refine lv_iload hx hb d_ProofDeskModel_feed_25 (lv_at hl 0 rfl) ?_
  refine lv_iconst (v := 4) hx hb d_ProofDeskModel_feed_27 (by decide) ?_
  have hc_11 : (4 : Int32) ≤ 4 := by decide +kernel
  refine lv_icmp_ge hx hb d_ProofDeskModel_feed_28 rfl (fun _ => ?_) (fun h => absurd hc_11 h)
  refine lv_iload hx hb d_ProofDeskModel_feed_35 (lv_at hl 0 rfl) ?_
  refine lv_bipush (v := 8) hx hb d_ProofDeskModel_feed_37 (by decide) ?_
  have hc_12 : ¬ (8 : Int32) ≤ 4 := by decide +kernel
  refine lv_icmp_ge hx hb d_ProofDeskModel_feed_39 rfl (fun h => absurd h hc_12) (fun _ => ?_)
  refine lv_iload_n hx hb d_ProofDeskModel_feed_42 rfl (lv_at hl 4 rfl) ?_
  refine lv_goto hx hb d_ProofDeskModel_feed_43 rfl ?_
  refine lv_istore (lv' := [(7, .int vb), (6, .int 4), (0, .ref h0), (1, .int va), (2, .int vb), (3, .int vc), (4, .int vd), (5, .int ve)]) hx hb d_ProofDeskModel_feed_71 hl (by decide) rfl (fun ls hl => ?_)
  refine lv_aload_n hx hb d_ProofDeskModel_feed_73 rfl (lv_at hl 2 rfl) ?_
  refine va_get (D := D) (ci := 16) (v := .ref bs) (C := "ProofDeskModel") (T := F_ProofDeskModel) (N := 56) hx hb hts in_ProofDeskModel hown hK hP 0 rfl rfl 1 (by decide) (hts _ kw_2125) (fun _ h9 => h9) rfl d_ProofDeskModel_feed_74 ?_
  refine lv_aload_n hx hb d_ProofDeskModel_feed_77 rfl (lv_at hl 2 rfl) ?_
  refine va_get (D := D) (ci := 16) (v := .int 4) (C := "ProofDeskModel") (T := F_ProofDeskModel) (N := 56) hx hb hts in_ProofDeskModel hown hK hP 0 rfl rfl 2 (by decide) (hts _ kw_2126) (fun _ h9 => h9) rfl d_ProofDeskModel_feed_78 ?_
  refine lv_iload hx hb d_ProofDeskModel_feed_81 (lv_at hl 0 rfl) ?_
  refine lv_bipush (v := 24) hx hb d_ProofDeskModel_feed_83 (by decide) ?_
  refine lv_bipush (v := 8) hx hb d_ProofDeskModel_feed_85 (by decide) ?_
  refine lv_iload hx hb d_ProofDeskModel_feed_87 (lv_at hl 1 rfl) ?_
  refine lv_iconst (v := 4) hx hb d_ProofDeskModel_feed_89 (by decide) ?_
  refine lv_irem hx hb d_ProofDeskModel_feed_90 (by decide) ?_
  refine zz_i (y := 0) (by decide +kernel) ?_
  refine lv_imul hx hb d_ProofDeskModel_feed_91 ?_
  refine zz_i (y := 0) (by decide +kernel) ?_
  refine lv_isub hx hb d_ProofDeskModel_feed_92 ?_
  refine zz_i (y := 24) (by decide +kernel) ?_
  refine lv_ishr hx hb d_ProofDeskModel_feed_93 ?_
  refine lv_sipush (v := 255) hx hb d_ProofDeskModel_feed_94 (by decide) ?_
  refine lv_iand hx hb d_ProofDeskModel_feed_97 ?_
  refine zz_iast hx hb hK hP hD hS 1 0 rfl rfl (i := 4) (x := ((vb >>> (24 &&& 31)) &&& 255)) 4 (⟨by decide +kernel, by decide +kernel, by decide +kernel⟩) d_ProofDeskModel_feed_98 (fun H locs hP hD hS => ?_)
  have hP : va_P D zcl [(h0, .inr (16, [h0_0, .ref bs, .int 4, h0_3, h0_4, h0_5, h0_6, h0_7, h0_8, h0_9, h0_10, h0_11, h0_12, h0_13, h0_14, h0_15, h0_16, h0_17, h0_18, h0_19, h0_20, h0_21, h0_22, h0_23, h0_24, h0_25, h0_26, h0_27, h0_28, h0_29, h0_30, h0_31, h0_32, h0_33, h0_34, h0_35, h0_36, h0_37, h0_38, h0_39, h0_40, h0_41, h0_42, h0_43, h0_44, h0_45, h0_46, h0_47, h0_48, h0_49, h0_50, h0_51, h0_52, h0_53, h0_54, h0_55])), (bs, .inl (cI, 16400, .inl (upd (upd (upd (upd (upd f 0 ((va >>> (24 &&& 31)) &&& 255)) 1 ((va >>> (16 &&& 31)) &&& 255)) 2 ((va >>> (8 &&& 31)) &&& 255)) 3 ((va >>> (0 &&& 31)) &&& 255)) 4 ((vb >>> (24 &&& 31)) &&& 255))))] H := hP
  have hD : va_D A [(h0, .inr (16, [h0_0, .ref bs, .int 4, h0_3, h0_4, h0_5, h0_6, h0_7, h0_8, h0_9, h0_10, h0_11, h0_12, h0_13, h0_14, h0_15, h0_16, h0_17, h0_18, h0_19, h0_20, h0_21, h0_22, h0_23, h0_24, h0_25, h0_26, h0_27, h0_28, h0_29, h0_30, h0_31, h0_32, h0_33, h0_34, h0_35, h0_36, h0_37, h0_38, h0_39, h0_40, h0_41, h0_42, h0_43, h0_44, h0_45, h0_46, h0_47, h0_48, h0_49, h0_50, h0_51, h0_52, h0_53, h0_54, h0_55])), (bs, .inl (cI, 16400, .inl (upd (upd (upd (upd (upd f 0 ((va >>> (24 &&& 31)) &&& 255)) 1 ((va >>> (16 &&& 31)) &&& 255)) 2 ((va >>> (8 &&& 31)) &&& 255)) 3 ((va >>> (0 &&& 31)) &&& 255)) 4 ((vb >>> (24 &&& 31)) &&& 255))))] := hD
  refine lv_aload_n hx hb d_ProofDeskModel_feed_99 rfl (lv_at hl 2 rfl) ?_
  refine lv_dup hx hb d_ProofDeskModel_feed_100 rfl ?_
  refine va_get (D := D) (ci := 16) (v := .int 4) (C := "ProofDeskModel") (T := F_ProofDeskModel) (N := 56) hx hb hts in_ProofDeskModel hown hK hP 0 rfl rfl 2 (by decide) (hts _ kw_2126) (fun _ h9 => h9) rfl d_ProofDeskModel_feed_101 ?_
  refine lv_iconst (v := 1) hx hb d_ProofDeskModel_feed_104 (by decide) ?_
  refine lv_iadd hx hb d_ProofDeskModel_feed_105 ?_
  refine zz_i (y := 5) (by decide +kernel) ?_
  refine va_put (D := D) (ci := 16) (v := .int 5) (ty := .int) (C := "ProofDeskModel") (T := F_ProofDeskModel) (N := 56) hx hb hts in_ProofDeskModel t_ProofDeskModel t_ProofDeskModel_ok n_ProofDeskModel hown hK hP hD hS 0 rfl rfl 2 (by decide) (hts _ kw_2126) (fun _ h9 => h9) rfl (by decide +kernel) rfl rfl (Nat.le_of_ble_eq_true rfl) d_ProofDeskModel_feed_106 (fun H locs hP hD hS => ?_)
  have hP : va_P D zcl [(h0, .inr (16, [h0_0, .ref bs, .int 5, h0_3, h0_4, h0_5, h0_6, h0_7, h0_8, h0_9, h0_10, h0_11, h0_12, h0_13, h0_14, h0_15, h0_16, h0_17, h0_18, h0_19, h0_20, h0_21, h0_22, h0_23, h0_24, h0_25, h0_26, h0_27, h0_28, h0_29, h0_30, h0_31, h0_32, h0_33, h0_34, h0_35, h0_36, h0_37, h0_38, h0_39, h0_40, h0_41, h0_42, h0_43, h0_44, h0_45, h0_46, h0_47, h0_48, h0_49, h0_50, h0_51, h0_52, h0_53, h0_54, h0_55])), (bs, .inl (cI, 16400, .inl (upd (upd (upd (upd (upd f 0 ((va >>> (24 &&& 31)) &&& 255)) 1 ((va >>> (16 &&& 31)) &&& 255)) 2 ((va >>> (8 &&& 31)) &&& 255)) 3 ((va >>> (0 &&& 31)) &&& 255)) 4 ((vb >>> (24 &&& 31)) &&& 255))))] H := hP
  have hD : va_D A [(h0, .inr (16, [h0_0, .ref bs, .int 5, h0_3, h0_4, h0_5, h0_6, h0_7, h0_8, h0_9, h0_10, h0_11, h0_12, h0_13, h0_14, h0_15, h0_16, h0_17, h0_18, h0_19, h0_20, h0_21, h0_22, h0_23, h0_24, h0_25, h0_26, h0_27, h0_28, h0_29, h0_30, h0_31, h0_32, h0_33, h0_34, h0_35, h0_36, h0_37, h0_38, h0_39, h0_40, h0_41, h0_42, h0_43, h0_44, h0_45, h0_46, h0_47, h0_48, h0_49, h0_50, h0_51, h0_52, h0_53, h0_54, h0_55])), (bs, .inl (cI, 16400, .inl (upd (upd (upd (upd (upd f 0 ((va >>> (24 &&& 31)) &&& 255)) 1 ((va >>> (16 &&& 31)) &&& 255)) 2 ((va >>> (8 &&& 31)) &&& 255)) 3 ((va >>> (0 &&& 31)) &&& 255)) 4 ((vb >>> (24 &&& 31)) &&& 255))))] := hD
  refine lv_iinc (k := 1) (v := 5) (lv' := [(6, .int 5), (7, .int vb), (0, .ref h0), (1, .int va), (2, .int vb), (3, .int vc), (4, .int vd), (5, .int ve)]) hx hb d_ProofDeskModel_feed_109 hl rfl (by decide +kernel) (by decide) rfl (fun ls hl => ?_)
  refine lv_goto hx hb d_ProofDeskModel_feed_112 rfl ?_
  refine lv_iload hx hb d_ProofDeskModel_feed_18 (lv_at hl 0 rfl) ?_
  refine lv_bipush (v := 20) hx hb d_ProofDeskModel_feed_20 (by decide) ?_
  have hc_13 : ¬ (20 : Int32) ≤ 5 := by decide +kernel
  refine lv_icmp_ge hx hb d_ProofDeskModel_feed_22 rfl (fun h => absurd h hc_13) (fun _ => ?_)
  refine lv_iload hx hb d_ProofDeskModel_feed_25 (lv_at hl 0 rfl) ?_
  refine lv_iconst (v := 4) hx hb d_ProofDeskModel_feed_27 (by decide) ?_
  have hc_14 : (4 : Int32) ≤ 5 := by decide +kernel
  refine lv_icmp_ge hx hb d_ProofDeskModel_feed_28 rfl (fun _ => ?_) (fun h => absurd hc_14 h)
  refine lv_iload hx hb d_ProofDeskModel_feed_35 (lv_at hl 0 rfl) ?_
  refine lv_bipush (v := 8) hx hb d_ProofDeskModel_feed_37 (by decide) ?_
  have hc_15 : ¬ (8 : Int32) ≤ 5 := by decide +kernel
  refine lv_icmp_ge hx hb d_ProofDeskModel_feed_39 rfl (fun h => absurd h hc_15) (fun _ => ?_)
  refine lv_iload_n hx hb d_ProofDeskModel_feed_42 rfl (lv_at hl 4 rfl) ?_
  refine lv_goto hx hb d_ProofDeskModel_feed_43 rfl ?_
  refine lv_istore (lv' := [(7, .int vb), (6, .int 5), (0, .ref h0), (1, .int va), (2, .int vb), (3, .int vc), (4, .int vd), (5, .int ve)]) hx hb d_ProofDeskModel_feed_71 hl (by decide) rfl (fun ls hl => ?_)
  refine lv_aload_n hx hb d_ProofDeskModel_feed_73 rfl (lv_at hl 2 rfl) ?_
  refine va_get (D := D) (ci := 16) (v := .ref bs) (C := "ProofDeskModel") (T := F_ProofDeskModel) (N := 56) hx hb hts in_ProofDeskModel hown hK hP 0 rfl rfl 1 (by decide) (hts _ kw_2125) (fun _ h9 => h9) rfl d_ProofDeskModel_feed_74 ?_
  refine lv_aload_n hx hb d_ProofDeskModel_feed_77 rfl (lv_at hl 2 rfl) ?_
  refine va_get (D := D) (ci := 16) (v := .int 5) (C := "ProofDeskModel") (T := F_ProofDeskModel) (N := 56) hx hb hts in_ProofDeskModel hown hK hP 0 rfl rfl 2 (by decide) (hts _ kw_2126) (fun _ h9 => h9) rfl d_ProofDeskModel_feed_78 ?_
  refine lv_iload hx hb d_ProofDeskModel_feed_81 (lv_at hl 0 rfl) ?_
  refine lv_bipush (v := 24) hx hb d_ProofDeskModel_feed_83 (by decide) ?_
  refine lv_bipush (v := 8) hx hb d_ProofDeskModel_feed_85 (by decide) ?_
  refine lv_iload hx hb d_ProofDeskModel_feed_87 (lv_at hl 1 rfl) ?_
  refine lv_iconst (v := 4) hx hb d_ProofDeskModel_feed_89 (by decide) ?_
  refine lv_irem hx hb d_ProofDeskModel_feed_90 (by decide) ?_
  refine zz_i (y := 1) (by decide +kernel) ?_
  refine lv_imul hx hb d_ProofDeskModel_feed_91 ?_
  refine zz_i (y := 8) (by decide +kernel) ?_
  refine lv_isub hx hb d_ProofDeskModel_feed_92 ?_
  refine zz_i (y := 16) (by decide +kernel) ?_
  refine lv_ishr hx hb d_ProofDeskModel_feed_93 ?_
  refine lv_sipush (v := 255) hx hb d_ProofDeskModel_feed_94 (by decide) ?_
  refine lv_iand hx hb d_ProofDeskModel_feed_97 ?_
  refine zz_iast hx hb hK hP hD hS 1 0 rfl rfl (i := 5) (x := ((vb >>> (16 &&& 31)) &&& 255)) 5 (⟨by decide +kernel, by decide +kernel, by decide +kernel⟩) d_ProofDeskModel_feed_98 (fun H locs hP hD hS => ?_)
  have hP : va_P D zcl [(h0, .inr (16, [h0_0, .ref bs, .int 5, h0_3, h0_4, h0_5, h0_6, h0_7, h0_8, h0_9, h0_10, h0_11, h0_12, h0_13, h0_14, h0_15, h0_16, h0_17, h0_18, h0_19, h0_20, h0_21, h0_22, h0_23, h0_24, h0_25, h0_26, h0_27, h0_28, h0_29, h0_30, h0_31, h0_32, h0_33, h0_34, h0_35, h0_36, h0_37, h0_38, h0_39, h0_40, h0_41, h0_42, h0_43, h0_44, h0_45, h0_46, h0_47, h0_48, h0_49, h0_50, h0_51, h0_52, h0_53, h0_54, h0_55])), (bs, .inl (cI, 16400, .inl (upd (upd (upd (upd (upd (upd f 0 ((va >>> (24 &&& 31)) &&& 255)) 1 ((va >>> (16 &&& 31)) &&& 255)) 2 ((va >>> (8 &&& 31)) &&& 255)) 3 ((va >>> (0 &&& 31)) &&& 255)) 4 ((vb >>> (24 &&& 31)) &&& 255)) 5 ((vb >>> (16 &&& 31)) &&& 255))))] H := hP
  have hD : va_D A [(h0, .inr (16, [h0_0, .ref bs, .int 5, h0_3, h0_4, h0_5, h0_6, h0_7, h0_8, h0_9, h0_10, h0_11, h0_12, h0_13, h0_14, h0_15, h0_16, h0_17, h0_18, h0_19, h0_20, h0_21, h0_22, h0_23, h0_24, h0_25, h0_26, h0_27, h0_28, h0_29, h0_30, h0_31, h0_32, h0_33, h0_34, h0_35, h0_36, h0_37, h0_38, h0_39, h0_40, h0_41, h0_42, h0_43, h0_44, h0_45, h0_46, h0_47, h0_48, h0_49, h0_50, h0_51, h0_52, h0_53, h0_54, h0_55])), (bs, .inl (cI, 16400, .inl (upd (upd (upd (upd (upd (upd f 0 ((va >>> (24 &&& 31)) &&& 255)) 1 ((va >>> (16 &&& 31)) &&& 255)) 2 ((va >>> (8 &&& 31)) &&& 255)) 3 ((va >>> (0 &&& 31)) &&& 255)) 4 ((vb >>> (24 &&& 31)) &&& 255)) 5 ((vb >>> (16 &&& 31)) &&& 255))))] := hD
  refine lv_aload_n hx hb d_ProofDeskModel_feed_99 rfl (lv_at hl 2 rfl) ?_
  refine lv_dup hx hb d_ProofDeskModel_feed_100 rfl ?_
  refine va_get (D := D) (ci := 16) (v := .int 5) (C := "ProofDeskModel") (T := F_ProofDeskModel) (N := 56) hx hb hts in_ProofDeskModel hown hK hP 0 rfl rfl 2 (by decide) (hts _ kw_2126) (fun _ h9 => h9) rfl d_ProofDeskModel_feed_101 ?_
  refine lv_iconst (v := 1) hx hb d_ProofDeskModel_feed_104 (by decide) ?_
  refine lv_iadd hx hb d_ProofDeskModel_feed_105 ?_
  refine zz_i (y := 6) (by decide +kernel) ?_
  refine va_put (D := D) (ci := 16) (v := .int 6) (ty := .int) (C := "ProofDeskModel") (T := F_ProofDeskModel) (N := 56) hx hb hts in_ProofDeskModel t_ProofDeskModel t_ProofDeskModel_ok n_ProofDeskModel hown hK hP hD hS 0 rfl rfl 2 (by decide) (hts _ kw_2126) (fun _ h9 => h9) rfl (by decide +kernel) rfl rfl (Nat.le_of_ble_eq_true rfl) d_ProofDeskModel_feed_106 (fun H locs hP hD hS => ?_)
  have hP : va_P D zcl [(h0, .inr (16, [h0_0, .ref bs, .int 6, h0_3, h0_4, h0_5, h0_6, h0_7, h0_8, h0_9, h0_10, h0_11, h0_12, h0_13, h0_14, h0_15, h0_16, h0_17, h0_18, h0_19, h0_20, h0_21, h0_22, h0_23, h0_24, h0_25, h0_26, h0_27, h0_28, h0_29, h0_30, h0_31, h0_32, h0_33, h0_34, h0_35, h0_36, h0_37, h0_38, h0_39, h0_40, h0_41, h0_42, h0_43, h0_44, h0_45, h0_46, h0_47, h0_48, h0_49, h0_50, h0_51, h0_52, h0_53, h0_54, h0_55])), (bs, .inl (cI, 16400, .inl (upd (upd (upd (upd (upd (upd f 0 ((va >>> (24 &&& 31)) &&& 255)) 1 ((va >>> (16 &&& 31)) &&& 255)) 2 ((va >>> (8 &&& 31)) &&& 255)) 3 ((va >>> (0 &&& 31)) &&& 255)) 4 ((vb >>> (24 &&& 31)) &&& 255)) 5 ((vb >>> (16 &&& 31)) &&& 255))))] H := hP
  have hD : va_D A [(h0, .inr (16, [h0_0, .ref bs, .int 6, h0_3, h0_4, h0_5, h0_6, h0_7, h0_8, h0_9, h0_10, h0_11, h0_12, h0_13, h0_14, h0_15, h0_16, h0_17, h0_18, h0_19, h0_20, h0_21, h0_22, h0_23, h0_24, h0_25, h0_26, h0_27, h0_28, h0_29, h0_30, h0_31, h0_32, h0_33, h0_34, h0_35, h0_36, h0_37, h0_38, h0_39, h0_40, h0_41, h0_42, h0_43, h0_44, h0_45, h0_46, h0_47, h0_48, h0_49, h0_50, h0_51, h0_52, h0_53, h0_54, h0_55])), (bs, .inl (cI, 16400, .inl (upd (upd (upd (upd (upd (upd f 0 ((va >>> (24 &&& 31)) &&& 255)) 1 ((va >>> (16 &&& 31)) &&& 255)) 2 ((va >>> (8 &&& 31)) &&& 255)) 3 ((va >>> (0 &&& 31)) &&& 255)) 4 ((vb >>> (24 &&& 31)) &&& 255)) 5 ((vb >>> (16 &&& 31)) &&& 255))))] := hD
  refine lv_iinc (k := 1) (v := 6) (lv' := [(6, .int 6), (7, .int vb), (0, .ref h0), (1, .int va), (2, .int vb), (3, .int vc), (4, .int vd), (5, .int ve)]) hx hb d_ProofDeskModel_feed_109 hl rfl (by decide +kernel) (by decide) rfl (fun ls hl => ?_)
  refine lv_goto hx hb d_ProofDeskModel_feed_112 rfl ?_
  refine lv_iload hx hb d_ProofDeskModel_feed_18 (lv_at hl 0 rfl) ?_
  refine lv_bipush (v := 20) hx hb d_ProofDeskModel_feed_20 (by decide) ?_
  have hc_16 : ¬ (20 : Int32) ≤ 6 := by decide +kernel
  refine lv_icmp_ge hx hb d_ProofDeskModel_feed_22 rfl (fun h => absurd h hc_16) (fun _ => ?_)
  refine lv_iload hx hb d_ProofDeskModel_feed_25 (lv_at hl 0 rfl) ?_
  refine lv_iconst (v := 4) hx hb d_ProofDeskModel_feed_27 (by decide) ?_
  have hc_17 : (4 : Int32) ≤ 6 := by decide +kernel
  refine lv_icmp_ge hx hb d_ProofDeskModel_feed_28 rfl (fun _ => ?_) (fun h => absurd hc_17 h)
  refine lv_iload hx hb d_ProofDeskModel_feed_35 (lv_at hl 0 rfl) ?_
  refine lv_bipush (v := 8) hx hb d_ProofDeskModel_feed_37 (by decide) ?_
  have hc_18 : ¬ (8 : Int32) ≤ 6 := by decide +kernel
  refine lv_icmp_ge hx hb d_ProofDeskModel_feed_39 rfl (fun h => absurd h hc_18) (fun _ => ?_)
  refine lv_iload_n hx hb d_ProofDeskModel_feed_42 rfl (lv_at hl 4 rfl) ?_
  refine lv_goto hx hb d_ProofDeskModel_feed_43 rfl ?_
  refine lv_istore (lv' := [(7, .int vb), (6, .int 6), (0, .ref h0), (1, .int va), (2, .int vb), (3, .int vc), (4, .int vd), (5, .int ve)]) hx hb d_ProofDeskModel_feed_71 hl (by decide) rfl (fun ls hl => ?_)
  refine lv_aload_n hx hb d_ProofDeskModel_feed_73 rfl (lv_at hl 2 rfl) ?_
  refine va_get (D := D) (ci := 16) (v := .ref bs) (C := "ProofDeskModel") (T := F_ProofDeskModel) (N := 56) hx hb hts in_ProofDeskModel hown hK hP 0 rfl rfl 1 (by decide) (hts _ kw_2125) (fun _ h9 => h9) rfl d_ProofDeskModel_feed_74 ?_
  refine lv_aload_n hx hb d_ProofDeskModel_feed_77 rfl (lv_at hl 2 rfl) ?_
  refine va_get (D := D) (ci := 16) (v := .int 6) (C := "ProofDeskModel") (T := F_ProofDeskModel) (N := 56) hx hb hts in_ProofDeskModel hown hK hP 0 rfl rfl 2 (by decide) (hts _ kw_2126) (fun _ h9 => h9) rfl d_ProofDeskModel_feed_78 ?_
  refine lv_iload hx hb d_ProofDeskModel_feed_81 (lv_at hl 0 rfl) ?_
  refine lv_bipush (v := 24) hx hb d_ProofDeskModel_feed_83 (by decide) ?_
  refine lv_bipush (v := 8) hx hb d_ProofDeskModel_feed_85 (by decide) ?_
  refine lv_iload hx hb d_ProofDeskModel_feed_87 (lv_at hl 1 rfl) ?_
  refine lv_iconst (v := 4) hx hb d_ProofDeskModel_feed_89 (by decide) ?_
  refine lv_irem hx hb d_ProofDeskModel_feed_90 (by decide) ?_
  refine zz_i (y := 2) (by decide +kernel) ?_
  refine lv_imul hx hb d_ProofDeskModel_feed_91 ?_
  refine zz_i (y := 16) (by decide +kernel) ?_
  refine lv_isub hx hb d_ProofDeskModel_feed_92 ?_
  refine zz_i (y := 8) (by decide +kernel) ?_
  refine lv_ishr hx hb d_ProofDeskModel_feed_93 ?_
  refine lv_sipush (v := 255) hx hb d_ProofDeskModel_feed_94 (by decide) ?_
  refine lv_iand hx hb d_ProofDeskModel_feed_97 ?_
  refine zz_iast hx hb hK hP hD hS 1 0 rfl rfl (i := 6) (x := ((vb >>> (8 &&& 31)) &&& 255)) 6 (⟨by decide +kernel, by decide +kernel, by decide +kernel⟩) d_ProofDeskModel_feed_98 (fun H locs hP hD hS => ?_)
  have hP : va_P D zcl [(h0, .inr (16, [h0_0, .ref bs, .int 6, h0_3, h0_4, h0_5, h0_6, h0_7, h0_8, h0_9, h0_10, h0_11, h0_12, h0_13, h0_14, h0_15, h0_16, h0_17, h0_18, h0_19, h0_20, h0_21, h0_22, h0_23, h0_24, h0_25, h0_26, h0_27, h0_28, h0_29, h0_30, h0_31, h0_32, h0_33, h0_34, h0_35, h0_36, h0_37, h0_38, h0_39, h0_40, h0_41, h0_42, h0_43, h0_44, h0_45, h0_46, h0_47, h0_48, h0_49, h0_50, h0_51, h0_52, h0_53, h0_54, h0_55])), (bs, .inl (cI, 16400, .inl (upd (upd (upd (upd (upd (upd (upd f 0 ((va >>> (24 &&& 31)) &&& 255)) 1 ((va >>> (16 &&& 31)) &&& 255)) 2 ((va >>> (8 &&& 31)) &&& 255)) 3 ((va >>> (0 &&& 31)) &&& 255)) 4 ((vb >>> (24 &&& 31)) &&& 255)) 5 ((vb >>> (16 &&& 31)) &&& 255)) 6 ((vb >>> (8 &&& 31)) &&& 255))))] H := hP
  have hD : va_D A [(h0, .inr (16, [h0_0, .ref bs, .int 6, h0_3, h0_4, h0_5, h0_6, h0_7, h0_8, h0_9, h0_10, h0_11, h0_12, h0_13, h0_14, h0_15, h0_16, h0_17, h0_18, h0_19, h0_20, h0_21, h0_22, h0_23, h0_24, h0_25, h0_26, h0_27, h0_28, h0_29, h0_30, h0_31, h0_32, h0_33, h0_34, h0_35, h0_36, h0_37, h0_38, h0_39, h0_40, h0_41, h0_42, h0_43, h0_44, h0_45, h0_46, h0_47, h0_48, h0_49, h0_50, h0_51, h0_52, h0_53, h0_54, h0_55])), (bs, .inl (cI, 16400, .inl (upd (upd (upd (upd (upd (upd (upd f 0 ((va >>> (24 &&& 31)) &&& 255)) 1 ((va >>> (16 &&& 31)) &&& 255)) 2 ((va >>> (8 &&& 31)) &&& 255)) 3 ((va >>> (0 &&& 31)) &&& 255)) 4 ((vb >>> (24 &&& 31)) &&& 255)) 5 ((vb >>> (16 &&& 31)) &&& 255)) 6 ((vb >>> (8 &&& 31)) &&& 255))))] := hD
  refine lv_aload_n hx hb d_ProofDeskModel_feed_99 rfl (lv_at hl 2 rfl) ?_
  refine lv_dup hx hb d_ProofDeskModel_feed_100 rfl ?_
  refine va_get (D := D) (ci := 16) (v := .int 6) (C := "ProofDeskModel") (T := F_ProofDeskModel) (N := 56) hx hb hts in_ProofDeskModel hown hK hP 0 rfl rfl 2 (by decide) (hts _ kw_2126) (fun _ h9 => h9) rfl d_ProofDeskModel_feed_101 ?_
  refine lv_iconst (v := 1) hx hb d_ProofDeskModel_feed_104 (by decide) ?_
  refine lv_iadd hx hb d_ProofDeskModel_feed_105 ?_
  refine zz_i (y := 7) (by decide +kernel) ?_
  refine va_put (D := D) (ci := 16) (v := .int 7) (ty := .int) (C := "ProofDeskModel") (T := F_ProofDeskModel) (N := 56) hx hb hts in_ProofDeskModel t_ProofDeskModel t_ProofDeskModel_ok n_ProofDeskModel hown hK hP hD hS 0 rfl rfl 2 (by decide) (hts _ kw_2126) (fun _ h9 => h9) rfl (by decide +kernel) rfl rfl (Nat.le_of_ble_eq_true rfl) d_ProofDeskModel_feed_106 (fun H locs hP hD hS => ?_)
  have hP : va_P D zcl [(h0, .inr (16, [h0_0, .ref bs, .int 7, h0_3, h0_4, h0_5, h0_6, h0_7, h0_8, h0_9, h0_10, h0_11, h0_12, h0_13, h0_14, h0_15, h0_16, h0_17, h0_18, h0_19, h0_20, h0_21, h0_22, h0_23, h0_24, h0_25, h0_26, h0_27, h0_28, h0_29, h0_30, h0_31, h0_32, h0_33, h0_34, h0_35, h0_36, h0_37, h0_38, h0_39, h0_40, h0_41, h0_42, h0_43, h0_44, h0_45, h0_46, h0_47, h0_48, h0_49, h0_50, h0_51, h0_52, h0_53, h0_54, h0_55])), (bs, .inl (cI, 16400, .inl (upd (upd (upd (upd (upd (upd (upd f 0 ((va >>> (24 &&& 31)) &&& 255)) 1 ((va >>> (16 &&& 31)) &&& 255)) 2 ((va >>> (8 &&& 31)) &&& 255)) 3 ((va >>> (0 &&& 31)) &&& 255)) 4 ((vb >>> (24 &&& 31)) &&& 255)) 5 ((vb >>> (16 &&& 31)) &&& 255)) 6 ((vb >>> (8 &&& 31)) &&& 255))))] H := hP
  have hD : va_D A [(h0, .inr (16, [h0_0, .ref bs, .int 7, h0_3, h0_4, h0_5, h0_6, h0_7, h0_8, h0_9, h0_10, h0_11, h0_12, h0_13, h0_14, h0_15, h0_16, h0_17, h0_18, h0_19, h0_20, h0_21, h0_22, h0_23, h0_24, h0_25, h0_26, h0_27, h0_28, h0_29, h0_30, h0_31, h0_32, h0_33, h0_34, h0_35, h0_36, h0_37, h0_38, h0_39, h0_40, h0_41, h0_42, h0_43, h0_44, h0_45, h0_46, h0_47, h0_48, h0_49, h0_50, h0_51, h0_52, h0_53, h0_54, h0_55])), (bs, .inl (cI, 16400, .inl (upd (upd (upd (upd (upd (upd (upd f 0 ((va >>> (24 &&& 31)) &&& 255)) 1 ((va >>> (16 &&& 31)) &&& 255)) 2 ((va >>> (8 &&& 31)) &&& 255)) 3 ((va >>> (0 &&& 31)) &&& 255)) 4 ((vb >>> (24 &&& 31)) &&& 255)) 5 ((vb >>> (16 &&& 31)) &&& 255)) 6 ((vb >>> (8 &&& 31)) &&& 255))))] := hD
  refine lv_iinc (k := 1) (v := 7) (lv' := [(6, .int 7), (7, .int vb), (0, .ref h0), (1, .int va), (2, .int vb), (3, .int vc), (4, .int vd), (5, .int ve)]) hx hb d_ProofDeskModel_feed_109 hl rfl (by decide +kernel) (by decide) rfl (fun ls hl => ?_)
  refine lv_goto hx hb d_ProofDeskModel_feed_112 rfl ?_
  refine lv_iload hx hb d_ProofDeskModel_feed_18 (lv_at hl 0 rfl) ?_
  refine lv_bipush (v := 20) hx hb d_ProofDeskModel_feed_20 (by decide) ?_
  have hc_19 : ¬ (20 : Int32) ≤ 7 := by decide +kernel
  refine lv_icmp_ge hx hb d_ProofDeskModel_feed_22 rfl (fun h => absurd h hc_19) (fun _ => ?_)
  refine lv_iload hx hb d_ProofDeskModel_feed_25 (lv_at hl 0 rfl) ?_
  refine lv_iconst (v := 4) hx hb d_ProofDeskModel_feed_27 (by decide) ?_
  have hc_20 : (4 : Int32) ≤ 7 := by decide +kernel
  refine lv_icmp_ge hx hb d_ProofDeskModel_feed_28 rfl (fun _ => ?_) (fun h => absurd hc_20 h)
  refine lv_iload hx hb d_ProofDeskModel_feed_35 (lv_at hl 0 rfl) ?_
  refine lv_bipush (v := 8) hx hb d_ProofDeskModel_feed_37 (by decide) ?_
  have hc_21 : ¬ (8 : Int32) ≤ 7 := by decide +kernel
  refine lv_icmp_ge hx hb d_ProofDeskModel_feed_39 rfl (fun h => absurd h hc_21) (fun _ => ?_)
  refine lv_iload_n hx hb d_ProofDeskModel_feed_42 rfl (lv_at hl 4 rfl) ?_
  refine lv_goto hx hb d_ProofDeskModel_feed_43 rfl ?_
  refine lv_istore (lv' := [(7, .int vb), (6, .int 7), (0, .ref h0), (1, .int va), (2, .int vb), (3, .int vc), (4, .int vd), (5, .int ve)]) hx hb d_ProofDeskModel_feed_71 hl (by decide) rfl (fun ls hl => ?_)
  refine lv_aload_n hx hb d_ProofDeskModel_feed_73 rfl (lv_at hl 2 rfl) ?_
  refine va_get (D := D) (ci := 16) (v := .ref bs) (C := "ProofDeskModel") (T := F_ProofDeskModel) (N := 56) hx hb hts in_ProofDeskModel hown hK hP 0 rfl rfl 1 (by decide) (hts _ kw_2125) (fun _ h9 => h9) rfl d_ProofDeskModel_feed_74 ?_
  refine lv_aload_n hx hb d_ProofDeskModel_feed_77 rfl (lv_at hl 2 rfl) ?_
  refine va_get (D := D) (ci := 16) (v := .int 7) (C := "ProofDeskModel") (T := F_ProofDeskModel) (N := 56) hx hb hts in_ProofDeskModel hown hK hP 0 rfl rfl 2 (by decide) (hts _ kw_2126) (fun _ h9 => h9) rfl d_ProofDeskModel_feed_78 ?_
  refine lv_iload hx hb d_ProofDeskModel_feed_81 (lv_at hl 0 rfl) ?_
  refine lv_bipush (v := 24) hx hb d_ProofDeskModel_feed_83 (by decide) ?_
  refine lv_bipush (v := 8) hx hb d_ProofDeskModel_feed_85 (by decide) ?_
  refine lv_iload hx hb d_ProofDeskModel_feed_87 (lv_at hl 1 rfl) ?_
  refine lv_iconst (v := 4) hx hb d_ProofDeskModel_feed_89 (by decide) ?_
  refine lv_irem hx hb d_ProofDeskModel_feed_90 (by decide) ?_
  refine zz_i (y := 3) (by decide +kernel) ?_
  refine lv_imul hx hb d_ProofDeskModel_feed_91 ?_
  refine zz_i (y := 24) (by decide +kernel) ?_
  refine lv_isub hx hb d_ProofDeskModel_feed_92 ?_
  refine zz_i (y := 0) (by decide +kernel) ?_
  refine lv_ishr hx hb d_ProofDeskModel_feed_93 ?_
  refine lv_sipush (v := 255) hx hb d_ProofDeskModel_feed_94 (by decide) ?_
  refine lv_iand hx hb d_ProofDeskModel_feed_97 ?_
  refine zz_iast hx hb hK hP hD hS 1 0 rfl rfl (i := 7) (x := ((vb >>> (0 &&& 31)) &&& 255)) 7 (⟨by decide +kernel, by decide +kernel, by decide +kernel⟩) d_ProofDeskModel_feed_98 (fun H locs hP hD hS => ?_)
  have hP : va_P D zcl [(h0, .inr (16, [h0_0, .ref bs, .int 7, h0_3, h0_4, h0_5, h0_6, h0_7, h0_8, h0_9, h0_10, h0_11, h0_12, h0_13, h0_14, h0_15, h0_16, h0_17, h0_18, h0_19, h0_20, h0_21, h0_22, h0_23, h0_24, h0_25, h0_26, h0_27, h0_28, h0_29, h0_30, h0_31, h0_32, h0_33, h0_34, h0_35, h0_36, h0_37, h0_38, h0_39, h0_40, h0_41, h0_42, h0_43, h0_44, h0_45, h0_46, h0_47, h0_48, h0_49, h0_50, h0_51, h0_52, h0_53, h0_54, h0_55])), (bs, .inl (cI, 16400, .inl (upd (upd (upd (upd (upd (upd (upd (upd f 0 ((va >>> (24 &&& 31)) &&& 255)) 1 ((va >>> (16 &&& 31)) &&& 255)) 2 ((va >>> (8 &&& 31)) &&& 255)) 3 ((va >>> (0 &&& 31)) &&& 255)) 4 ((vb >>> (24 &&& 31)) &&& 255)) 5 ((vb >>> (16 &&& 31)) &&& 255)) 6 ((vb >>> (8 &&& 31)) &&& 255)) 7 ((vb >>> (0 &&& 31)) &&& 255))))] H := hP
  have hD : va_D A [(h0, .inr (16, [h0_0, .ref bs, .int 7, h0_3, h0_4, h0_5, h0_6, h0_7, h0_8, h0_9, h0_10, h0_11, h0_12, h0_13, h0_14, h0_15, h0_16, h0_17, h0_18, h0_19, h0_20, h0_21, h0_22, h0_23, h0_24, h0_25, h0_26, h0_27, h0_28, h0_29, h0_30, h0_31, h0_32, h0_33, h0_34, h0_35, h0_36, h0_37, h0_38, h0_39, h0_40, h0_41, h0_42, h0_43, h0_44, h0_45, h0_46, h0_47, h0_48, h0_49, h0_50, h0_51, h0_52, h0_53, h0_54, h0_55])), (bs, .inl (cI, 16400, .inl (upd (upd (upd (upd (upd (upd (upd (upd f 0 ((va >>> (24 &&& 31)) &&& 255)) 1 ((va >>> (16 &&& 31)) &&& 255)) 2 ((va >>> (8 &&& 31)) &&& 255)) 3 ((va >>> (0 &&& 31)) &&& 255)) 4 ((vb >>> (24 &&& 31)) &&& 255)) 5 ((vb >>> (16 &&& 31)) &&& 255)) 6 ((vb >>> (8 &&& 31)) &&& 255)) 7 ((vb >>> (0 &&& 31)) &&& 255))))] := hD
  refine lv_aload_n hx hb d_ProofDeskModel_feed_99 rfl (lv_at hl 2 rfl) ?_
  refine lv_dup hx hb d_ProofDeskModel_feed_100 rfl ?_
  refine va_get (D := D) (ci := 16) (v := .int 7) (C := "ProofDeskModel") (T := F_ProofDeskModel) (N := 56) hx hb hts in_ProofDeskModel hown hK hP 0 rfl rfl 2 (by decide) (hts _ kw_2126) (fun _ h9 => h9) rfl d_ProofDeskModel_feed_101 ?_
  refine lv_iconst (v := 1) hx hb d_ProofDeskModel_feed_104 (by decide) ?_
  refine lv_iadd hx hb d_ProofDeskModel_feed_105 ?_
  refine zz_i (y := 8) (by decide +kernel) ?_
  refine va_put (D := D) (ci := 16) (v := .int 8) (ty := .int) (C := "ProofDeskModel") (T := F_ProofDeskModel) (N := 56) hx hb hts in_ProofDeskModel t_ProofDeskModel t_ProofDeskModel_ok n_ProofDeskModel hown hK hP hD hS 0 rfl rfl 2 (by decide) (hts _ kw_2126) (fun _ h9 => h9) rfl (by decide +kernel) rfl rfl (Nat.le_of_ble_eq_true rfl) d_ProofDeskModel_feed_106 (fun H locs hP hD hS => ?_)
  have hP : va_P D zcl [(h0, .inr (16, [h0_0, .ref bs, .int 8, h0_3, h0_4, h0_5, h0_6, h0_7, h0_8, h0_9, h0_10, h0_11, h0_12, h0_13, h0_14, h0_15, h0_16, h0_17, h0_18, h0_19, h0_20, h0_21, h0_22, h0_23, h0_24, h0_25, h0_26, h0_27, h0_28, h0_29, h0_30, h0_31, h0_32, h0_33, h0_34, h0_35, h0_36, h0_37, h0_38, h0_39, h0_40, h0_41, h0_42, h0_43, h0_44, h0_45, h0_46, h0_47, h0_48, h0_49, h0_50, h0_51, h0_52, h0_53, h0_54, h0_55])), (bs, .inl (cI, 16400, .inl (upd (upd (upd (upd (upd (upd (upd (upd f 0 ((va >>> (24 &&& 31)) &&& 255)) 1 ((va >>> (16 &&& 31)) &&& 255)) 2 ((va >>> (8 &&& 31)) &&& 255)) 3 ((va >>> (0 &&& 31)) &&& 255)) 4 ((vb >>> (24 &&& 31)) &&& 255)) 5 ((vb >>> (16 &&& 31)) &&& 255)) 6 ((vb >>> (8 &&& 31)) &&& 255)) 7 ((vb >>> (0 &&& 31)) &&& 255))))] H := hP
  have hD : va_D A [(h0, .inr (16, [h0_0, .ref bs, .int 8, h0_3, h0_4, h0_5, h0_6, h0_7, h0_8, h0_9, h0_10, h0_11, h0_12, h0_13, h0_14, h0_15, h0_16, h0_17, h0_18, h0_19, h0_20, h0_21, h0_22, h0_23, h0_24, h0_25, h0_26, h0_27, h0_28, h0_29, h0_30, h0_31, h0_32, h0_33, h0_34, h0_35, h0_36, h0_37, h0_38, h0_39, h0_40, h0_41, h0_42, h0_43, h0_44, h0_45, h0_46, h0_47, h0_48, h0_49, h0_50, h0_51, h0_52, h0_53, h0_54, h0_55])), (bs, .inl (cI, 16400, .inl (upd (upd (upd (upd (upd (upd (upd (upd f 0 ((va >>> (24 &&& 31)) &&& 255)) 1 ((va >>> (16 &&& 31)) &&& 255)) 2 ((va >>> (8 &&& 31)) &&& 255)) 3 ((va >>> (0 &&& 31)) &&& 255)) 4 ((vb >>> (24 &&& 31)) &&& 255)) 5 ((vb >>> (16 &&& 31)) &&& 255)) 6 ((vb >>> (8 &&& 31)) &&& 255)) 7 ((vb >>> (0 &&& 31)) &&& 255))))] := hD
  refine lv_iinc (k := 1) (v := 8) (lv' := [(6, .int 8), (7, .int vb), (0, .ref h0), (1, .int va), (2, .int vb), (3, .int vc), (4, .int vd), (5, .int ve)]) hx hb d_ProofDeskModel_feed_109 hl rfl (by decide +kernel) (by decide) rfl (fun ls hl => ?_)
  refine lv_goto hx hb d_ProofDeskModel_feed_112 rfl ?_
  refine lv_iload hx hb d_ProofDeskModel_feed_18 (lv_at hl 0 rfl) ?_
  refine lv_bipush (v := 20) hx hb d_ProofDeskModel_feed_20 (by decide) ?_
  have hc_22 : ¬ (20 : Int32) ≤ 8 := by decide +kernel
  refine lv_icmp_ge hx hb d_ProofDeskModel_feed_22 rfl (fun h => absurd h hc_22) (fun _ => ?_)
  refine lv_iload hx hb d_ProofDeskModel_feed_25 (lv_at hl 0 rfl) ?_
  refine lv_iconst (v := 4) hx hb d_ProofDeskModel_feed_27 (by decide) ?_
  have hc_23 : (4 : Int32) ≤ 8 := by decide +kernel
  refine lv_icmp_ge hx hb d_ProofDeskModel_feed_28 rfl (fun _ => ?_) (fun h => absurd hc_23 h)
  refine lv_iload hx hb d_ProofDeskModel_feed_35 (lv_at hl 0 rfl) ?_
  refine lv_bipush (v := 8) hx hb d_ProofDeskModel_feed_37 (by decide) ?_
  have hc_24 : (8 : Int32) ≤ 8 := by decide +kernel
  refine lv_icmp_ge hx hb d_ProofDeskModel_feed_39 rfl (fun _ => ?_) (fun h => absurd hc_24 h)
  refine lv_iload hx hb d_ProofDeskModel_feed_46 (lv_at hl 0 rfl) ?_
  refine lv_bipush (v := 12) hx hb d_ProofDeskModel_feed_48 (by decide) ?_
  have hc_25 : ¬ (12 : Int32) ≤ 8 := by decide +kernel
  refine lv_icmp_ge hx hb d_ProofDeskModel_feed_50 rfl (fun h => absurd h hc_25) (fun _ => ?_)
  refine lv_iload_n hx hb d_ProofDeskModel_feed_53 rfl (lv_at hl 5 rfl) ?_
  refine lv_goto hx hb d_ProofDeskModel_feed_54 rfl ?_
  refine lv_istore (lv' := [(7, .int vc), (6, .int 8), (0, .ref h0), (1, .int va), (2, .int vb), (3, .int vc), (4, .int vd), (5, .int ve)]) hx hb d_ProofDeskModel_feed_71 hl (by decide) rfl (fun ls hl => ?_)
  refine lv_aload_n hx hb d_ProofDeskModel_feed_73 rfl (lv_at hl 2 rfl) ?_
  refine va_get (D := D) (ci := 16) (v := .ref bs) (C := "ProofDeskModel") (T := F_ProofDeskModel) (N := 56) hx hb hts in_ProofDeskModel hown hK hP 0 rfl rfl 1 (by decide) (hts _ kw_2125) (fun _ h9 => h9) rfl d_ProofDeskModel_feed_74 ?_
  refine lv_aload_n hx hb d_ProofDeskModel_feed_77 rfl (lv_at hl 2 rfl) ?_
  refine va_get (D := D) (ci := 16) (v := .int 8) (C := "ProofDeskModel") (T := F_ProofDeskModel) (N := 56) hx hb hts in_ProofDeskModel hown hK hP 0 rfl rfl 2 (by decide) (hts _ kw_2126) (fun _ h9 => h9) rfl d_ProofDeskModel_feed_78 ?_
  refine lv_iload hx hb d_ProofDeskModel_feed_81 (lv_at hl 0 rfl) ?_
  refine lv_bipush (v := 24) hx hb d_ProofDeskModel_feed_83 (by decide) ?_
  refine lv_bipush (v := 8) hx hb d_ProofDeskModel_feed_85 (by decide) ?_
  refine lv_iload hx hb d_ProofDeskModel_feed_87 (lv_at hl 1 rfl) ?_
  refine lv_iconst (v := 4) hx hb d_ProofDeskModel_feed_89 (by decide) ?_
  refine lv_irem hx hb d_ProofDeskModel_feed_90 (by decide) ?_
  refine zz_i (y := 0) (by decide +kernel) ?_
  refine lv_imul hx hb d_ProofDeskModel_feed_91 ?_
  refine zz_i (y := 0) (by decide +kernel) ?_
  refine lv_isub hx hb d_ProofDeskModel_feed_92 ?_
  refine zz_i (y := 24) (by decide +kernel) ?_
  refine lv_ishr hx hb d_ProofDeskModel_feed_93 ?_
  refine lv_sipush (v := 255) hx hb d_ProofDeskModel_feed_94 (by decide) ?_
  refine lv_iand hx hb d_ProofDeskModel_feed_97 ?_
  refine zz_iast hx hb hK hP hD hS 1 0 rfl rfl (i := 8) (x := ((vc >>> (24 &&& 31)) &&& 255)) 8 (⟨by decide +kernel, by decide +kernel, by decide +kernel⟩) d_ProofDeskModel_feed_98 (fun H locs hP hD hS => ?_)
  have hP : va_P D zcl [(h0, .inr (16, [h0_0, .ref bs, .int 8, h0_3, h0_4, h0_5, h0_6, h0_7, h0_8, h0_9, h0_10, h0_11, h0_12, h0_13, h0_14, h0_15, h0_16, h0_17, h0_18, h0_19, h0_20, h0_21, h0_22, h0_23, h0_24, h0_25, h0_26, h0_27, h0_28, h0_29, h0_30, h0_31, h0_32, h0_33, h0_34, h0_35, h0_36, h0_37, h0_38, h0_39, h0_40, h0_41, h0_42, h0_43, h0_44, h0_45, h0_46, h0_47, h0_48, h0_49, h0_50, h0_51, h0_52, h0_53, h0_54, h0_55])), (bs, .inl (cI, 16400, .inl (upd (upd (upd (upd (upd (upd (upd (upd (upd f 0 ((va >>> (24 &&& 31)) &&& 255)) 1 ((va >>> (16 &&& 31)) &&& 255)) 2 ((va >>> (8 &&& 31)) &&& 255)) 3 ((va >>> (0 &&& 31)) &&& 255)) 4 ((vb >>> (24 &&& 31)) &&& 255)) 5 ((vb >>> (16 &&& 31)) &&& 255)) 6 ((vb >>> (8 &&& 31)) &&& 255)) 7 ((vb >>> (0 &&& 31)) &&& 255)) 8 ((vc >>> (24 &&& 31)) &&& 255))))] H := hP
  have hD : va_D A [(h0, .inr (16, [h0_0, .ref bs, .int 8, h0_3, h0_4, h0_5, h0_6, h0_7, h0_8, h0_9, h0_10, h0_11, h0_12, h0_13, h0_14, h0_15, h0_16, h0_17, h0_18, h0_19, h0_20, h0_21, h0_22, h0_23, h0_24, h0_25, h0_26, h0_27, h0_28, h0_29, h0_30, h0_31, h0_32, h0_33, h0_34, h0_35, h0_36, h0_37, h0_38, h0_39, h0_40, h0_41, h0_42, h0_43, h0_44, h0_45, h0_46, h0_47, h0_48, h0_49, h0_50, h0_51, h0_52, h0_53, h0_54, h0_55])), (bs, .inl (cI, 16400, .inl (upd (upd (upd (upd (upd (upd (upd (upd (upd f 0 ((va >>> (24 &&& 31)) &&& 255)) 1 ((va >>> (16 &&& 31)) &&& 255)) 2 ((va >>> (8 &&& 31)) &&& 255)) 3 ((va >>> (0 &&& 31)) &&& 255)) 4 ((vb >>> (24 &&& 31)) &&& 255)) 5 ((vb >>> (16 &&& 31)) &&& 255)) 6 ((vb >>> (8 &&& 31)) &&& 255)) 7 ((vb >>> (0 &&& 31)) &&& 255)) 8 ((vc >>> (24 &&& 31)) &&& 255))))] := hD
  refine lv_aload_n hx hb d_ProofDeskModel_feed_99 rfl (lv_at hl 2 rfl) ?_
  refine lv_dup hx hb d_ProofDeskModel_feed_100 rfl ?_
  refine va_get (D := D) (ci := 16) (v := .int 8) (C := "ProofDeskModel") (T := F_ProofDeskModel) (N := 56) hx hb hts in_ProofDeskModel hown hK hP 0 rfl rfl 2 (by decide) (hts _ kw_2126) (fun _ h9 => h9) rfl d_ProofDeskModel_feed_101 ?_
  refine lv_iconst (v := 1) hx hb d_ProofDeskModel_feed_104 (by decide) ?_
  refine lv_iadd hx hb d_ProofDeskModel_feed_105 ?_
  refine zz_i (y := 9) (by decide +kernel) ?_
  refine va_put (D := D) (ci := 16) (v := .int 9) (ty := .int) (C := "ProofDeskModel") (T := F_ProofDeskModel) (N := 56) hx hb hts in_ProofDeskModel t_ProofDeskModel t_ProofDeskModel_ok n_ProofDeskModel hown hK hP hD hS 0 rfl rfl 2 (by decide) (hts _ kw_2126) (fun _ h9 => h9) rfl (by decide +kernel) rfl rfl (Nat.le_of_ble_eq_true rfl) d_ProofDeskModel_feed_106 (fun H locs hP hD hS => ?_)
  have hP : va_P D zcl [(h0, .inr (16, [h0_0, .ref bs, .int 9, h0_3, h0_4, h0_5, h0_6, h0_7, h0_8, h0_9, h0_10, h0_11, h0_12, h0_13, h0_14, h0_15, h0_16, h0_17, h0_18, h0_19, h0_20, h0_21, h0_22, h0_23, h0_24, h0_25, h0_26, h0_27, h0_28, h0_29, h0_30, h0_31, h0_32, h0_33, h0_34, h0_35, h0_36, h0_37, h0_38, h0_39, h0_40, h0_41, h0_42, h0_43, h0_44, h0_45, h0_46, h0_47, h0_48, h0_49, h0_50, h0_51, h0_52, h0_53, h0_54, h0_55])), (bs, .inl (cI, 16400, .inl (upd (upd (upd (upd (upd (upd (upd (upd (upd f 0 ((va >>> (24 &&& 31)) &&& 255)) 1 ((va >>> (16 &&& 31)) &&& 255)) 2 ((va >>> (8 &&& 31)) &&& 255)) 3 ((va >>> (0 &&& 31)) &&& 255)) 4 ((vb >>> (24 &&& 31)) &&& 255)) 5 ((vb >>> (16 &&& 31)) &&& 255)) 6 ((vb >>> (8 &&& 31)) &&& 255)) 7 ((vb >>> (0 &&& 31)) &&& 255)) 8 ((vc >>> (24 &&& 31)) &&& 255))))] H := hP
  have hD : va_D A [(h0, .inr (16, [h0_0, .ref bs, .int 9, h0_3, h0_4, h0_5, h0_6, h0_7, h0_8, h0_9, h0_10, h0_11, h0_12, h0_13, h0_14, h0_15, h0_16, h0_17, h0_18, h0_19, h0_20, h0_21, h0_22, h0_23, h0_24, h0_25, h0_26, h0_27, h0_28, h0_29, h0_30, h0_31, h0_32, h0_33, h0_34, h0_35, h0_36, h0_37, h0_38, h0_39, h0_40, h0_41, h0_42, h0_43, h0_44, h0_45, h0_46, h0_47, h0_48, h0_49, h0_50, h0_51, h0_52, h0_53, h0_54, h0_55])), (bs, .inl (cI, 16400, .inl (upd (upd (upd (upd (upd (upd (upd (upd (upd f 0 ((va >>> (24 &&& 31)) &&& 255)) 1 ((va >>> (16 &&& 31)) &&& 255)) 2 ((va >>> (8 &&& 31)) &&& 255)) 3 ((va >>> (0 &&& 31)) &&& 255)) 4 ((vb >>> (24 &&& 31)) &&& 255)) 5 ((vb >>> (16 &&& 31)) &&& 255)) 6 ((vb >>> (8 &&& 31)) &&& 255)) 7 ((vb >>> (0 &&& 31)) &&& 255)) 8 ((vc >>> (24 &&& 31)) &&& 255))))] := hD
  refine lv_iinc (k := 1) (v := 9) (lv' := [(6, .int 9), (7, .int vc), (0, .ref h0), (1, .int va), (2, .int vb), (3, .int vc), (4, .int vd), (5, .int ve)]) hx hb d_ProofDeskModel_feed_109 hl rfl (by decide +kernel) (by decide) rfl (fun ls hl => ?_)
  refine lv_goto hx hb d_ProofDeskModel_feed_112 rfl ?_
  refine lv_iload hx hb d_ProofDeskModel_feed_18 (lv_at hl 0 rfl) ?_
  refine lv_bipush (v := 20) hx hb d_ProofDeskModel_feed_20 (by decide) ?_
  have hc_26 : ¬ (20 : Int32) ≤ 9 := by decide +kernel
  refine lv_icmp_ge hx hb d_ProofDeskModel_feed_22 rfl (fun h => absurd h hc_26) (fun _ => ?_)
  refine lv_iload hx hb d_ProofDeskModel_feed_25 (lv_at hl 0 rfl) ?_
  refine lv_iconst (v := 4) hx hb d_ProofDeskModel_feed_27 (by decide) ?_
  have hc_27 : (4 : Int32) ≤ 9 := by decide +kernel
  refine lv_icmp_ge hx hb d_ProofDeskModel_feed_28 rfl (fun _ => ?_) (fun h => absurd hc_27 h)
  refine lv_iload hx hb d_ProofDeskModel_feed_35 (lv_at hl 0 rfl) ?_
  refine lv_bipush (v := 8) hx hb d_ProofDeskModel_feed_37 (by decide) ?_
  have hc_28 : (8 : Int32) ≤ 9 := by decide +kernel
  refine lv_icmp_ge hx hb d_ProofDeskModel_feed_39 rfl (fun _ => ?_) (fun h => absurd hc_28 h)
  refine lv_iload hx hb d_ProofDeskModel_feed_46 (lv_at hl 0 rfl) ?_
  refine lv_bipush (v := 12) hx hb d_ProofDeskModel_feed_48 (by decide) ?_
  have hc_29 : ¬ (12 : Int32) ≤ 9 := by decide +kernel
  refine lv_icmp_ge hx hb d_ProofDeskModel_feed_50 rfl (fun h => absurd h hc_29) (fun _ => ?_)
  refine lv_iload_n hx hb d_ProofDeskModel_feed_53 rfl (lv_at hl 5 rfl) ?_
  refine lv_goto hx hb d_ProofDeskModel_feed_54 rfl ?_
  refine lv_istore (lv' := [(7, .int vc), (6, .int 9), (0, .ref h0), (1, .int va), (2, .int vb), (3, .int vc), (4, .int vd), (5, .int ve)]) hx hb d_ProofDeskModel_feed_71 hl (by decide) rfl (fun ls hl => ?_)
  refine lv_aload_n hx hb d_ProofDeskModel_feed_73 rfl (lv_at hl 2 rfl) ?_
  refine va_get (D := D) (ci := 16) (v := .ref bs) (C := "ProofDeskModel") (T := F_ProofDeskModel) (N := 56) hx hb hts in_ProofDeskModel hown hK hP 0 rfl rfl 1 (by decide) (hts _ kw_2125) (fun _ h9 => h9) rfl d_ProofDeskModel_feed_74 ?_
  refine lv_aload_n hx hb d_ProofDeskModel_feed_77 rfl (lv_at hl 2 rfl) ?_
  refine va_get (D := D) (ci := 16) (v := .int 9) (C := "ProofDeskModel") (T := F_ProofDeskModel) (N := 56) hx hb hts in_ProofDeskModel hown hK hP 0 rfl rfl 2 (by decide) (hts _ kw_2126) (fun _ h9 => h9) rfl d_ProofDeskModel_feed_78 ?_
  refine lv_iload hx hb d_ProofDeskModel_feed_81 (lv_at hl 0 rfl) ?_
  refine lv_bipush (v := 24) hx hb d_ProofDeskModel_feed_83 (by decide) ?_
  refine lv_bipush (v := 8) hx hb d_ProofDeskModel_feed_85 (by decide) ?_
  refine lv_iload hx hb d_ProofDeskModel_feed_87 (lv_at hl 1 rfl) ?_
  refine lv_iconst (v := 4) hx hb d_ProofDeskModel_feed_89 (by decide) ?_
  refine lv_irem hx hb d_ProofDeskModel_feed_90 (by decide) ?_
  refine zz_i (y := 1) (by decide +kernel) ?_
  refine lv_imul hx hb d_ProofDeskModel_feed_91 ?_
  refine zz_i (y := 8) (by decide +kernel) ?_
  refine lv_isub hx hb d_ProofDeskModel_feed_92 ?_
  refine zz_i (y := 16) (by decide +kernel) ?_
  refine lv_ishr hx hb d_ProofDeskModel_feed_93 ?_
  refine lv_sipush (v := 255) hx hb d_ProofDeskModel_feed_94 (by decide) ?_
  refine lv_iand hx hb d_ProofDeskModel_feed_97 ?_
  refine zz_iast hx hb hK hP hD hS 1 0 rfl rfl (i := 9) (x := ((vc >>> (16 &&& 31)) &&& 255)) 9 (⟨by decide +kernel, by decide +kernel, by decide +kernel⟩) d_ProofDeskModel_feed_98 (fun H locs hP hD hS => ?_)
  have hP : va_P D zcl [(h0, .inr (16, [h0_0, .ref bs, .int 9, h0_3, h0_4, h0_5, h0_6, h0_7, h0_8, h0_9, h0_10, h0_11, h0_12, h0_13, h0_14, h0_15, h0_16, h0_17, h0_18, h0_19, h0_20, h0_21, h0_22, h0_23, h0_24, h0_25, h0_26, h0_27, h0_28, h0_29, h0_30, h0_31, h0_32, h0_33, h0_34, h0_35, h0_36, h0_37, h0_38, h0_39, h0_40, h0_41, h0_42, h0_43, h0_44, h0_45, h0_46, h0_47, h0_48, h0_49, h0_50, h0_51, h0_52, h0_53, h0_54, h0_55])), (bs, .inl (cI, 16400, .inl (upd (upd (upd (upd (upd (upd (upd (upd (upd (upd f 0 ((va >>> (24 &&& 31)) &&& 255)) 1 ((va >>> (16 &&& 31)) &&& 255)) 2 ((va >>> (8 &&& 31)) &&& 255)) 3 ((va >>> (0 &&& 31)) &&& 255)) 4 ((vb >>> (24 &&& 31)) &&& 255)) 5 ((vb >>> (16 &&& 31)) &&& 255)) 6 ((vb >>> (8 &&& 31)) &&& 255)) 7 ((vb >>> (0 &&& 31)) &&& 255)) 8 ((vc >>> (24 &&& 31)) &&& 255)) 9 ((vc >>> (16 &&& 31)) &&& 255))))] H := hP
  have hD : va_D A [(h0, .inr (16, [h0_0, .ref bs, .int 9, h0_3, h0_4, h0_5, h0_6, h0_7, h0_8, h0_9, h0_10, h0_11, h0_12, h0_13, h0_14, h0_15, h0_16, h0_17, h0_18, h0_19, h0_20, h0_21, h0_22, h0_23, h0_24, h0_25, h0_26, h0_27, h0_28, h0_29, h0_30, h0_31, h0_32, h0_33, h0_34, h0_35, h0_36, h0_37, h0_38, h0_39, h0_40, h0_41, h0_42, h0_43, h0_44, h0_45, h0_46, h0_47, h0_48, h0_49, h0_50, h0_51, h0_52, h0_53, h0_54, h0_55])), (bs, .inl (cI, 16400, .inl (upd (upd (upd (upd (upd (upd (upd (upd (upd (upd f 0 ((va >>> (24 &&& 31)) &&& 255)) 1 ((va >>> (16 &&& 31)) &&& 255)) 2 ((va >>> (8 &&& 31)) &&& 255)) 3 ((va >>> (0 &&& 31)) &&& 255)) 4 ((vb >>> (24 &&& 31)) &&& 255)) 5 ((vb >>> (16 &&& 31)) &&& 255)) 6 ((vb >>> (8 &&& 31)) &&& 255)) 7 ((vb >>> (0 &&& 31)) &&& 255)) 8 ((vc >>> (24 &&& 31)) &&& 255)) 9 ((vc >>> (16 &&& 31)) &&& 255))))] := hD
  refine lv_aload_n hx hb d_ProofDeskModel_feed_99 rfl (lv_at hl 2 rfl) ?_
  refine lv_dup hx hb d_ProofDeskModel_feed_100 rfl ?_
  refine va_get (D := D) (ci := 16) (v := .int 9) (C := "ProofDeskModel") (T := F_ProofDeskModel) (N := 56) hx hb hts in_ProofDeskModel hown hK hP 0 rfl rfl 2 (by decide) (hts _ kw_2126) (fun _ h9 => h9) rfl d_ProofDeskModel_feed_101 ?_
  refine lv_iconst (v := 1) hx hb d_ProofDeskModel_feed_104 (by decide) ?_
  refine lv_iadd hx hb d_ProofDeskModel_feed_105 ?_
  refine zz_i (y := 10) (by decide +kernel) ?_
  refine va_put (D := D) (ci := 16) (v := .int 10) (ty := .int) (C := "ProofDeskModel") (T := F_ProofDeskModel) (N := 56) hx hb hts in_ProofDeskModel t_ProofDeskModel t_ProofDeskModel_ok n_ProofDeskModel hown hK hP hD hS 0 rfl rfl 2 (by decide) (hts _ kw_2126) (fun _ h9 => h9) rfl (by decide +kernel) rfl rfl (Nat.le_of_ble_eq_true rfl) d_ProofDeskModel_feed_106 (fun H locs hP hD hS => ?_)
  have hP : va_P D zcl [(h0, .inr (16, [h0_0, .ref bs, .int 10, h0_3, h0_4, h0_5, h0_6, h0_7, h0_8, h0_9, h0_10, h0_11, h0_12, h0_13, h0_14, h0_15, h0_16, h0_17, h0_18, h0_19, h0_20, h0_21, h0_22, h0_23, h0_24, h0_25, h0_26, h0_27, h0_28, h0_29, h0_30, h0_31, h0_32, h0_33, h0_34, h0_35, h0_36, h0_37, h0_38, h0_39, h0_40, h0_41, h0_42, h0_43, h0_44, h0_45, h0_46, h0_47, h0_48, h0_49, h0_50, h0_51, h0_52, h0_53, h0_54, h0_55])), (bs, .inl (cI, 16400, .inl (upd (upd (upd (upd (upd (upd (upd (upd (upd (upd f 0 ((va >>> (24 &&& 31)) &&& 255)) 1 ((va >>> (16 &&& 31)) &&& 255)) 2 ((va >>> (8 &&& 31)) &&& 255)) 3 ((va >>> (0 &&& 31)) &&& 255)) 4 ((vb >>> (24 &&& 31)) &&& 255)) 5 ((vb >>> (16 &&& 31)) &&& 255)) 6 ((vb >>> (8 &&& 31)) &&& 255)) 7 ((vb >>> (0 &&& 31)) &&& 255)) 8 ((vc >>> (24 &&& 31)) &&& 255)) 9 ((vc >>> (16 &&& 31)) &&& 255))))] H := hP
  have hD : va_D A [(h0, .inr (16, [h0_0, .ref bs, .int 10, h0_3, h0_4, h0_5, h0_6, h0_7, h0_8, h0_9, h0_10, h0_11, h0_12, h0_13, h0_14, h0_15, h0_16, h0_17, h0_18, h0_19, h0_20, h0_21, h0_22, h0_23, h0_24, h0_25, h0_26, h0_27, h0_28, h0_29, h0_30, h0_31, h0_32, h0_33, h0_34, h0_35, h0_36, h0_37, h0_38, h0_39, h0_40, h0_41, h0_42, h0_43, h0_44, h0_45, h0_46, h0_47, h0_48, h0_49, h0_50, h0_51, h0_52, h0_53, h0_54, h0_55])), (bs, .inl (cI, 16400, .inl (upd (upd (upd (upd (upd (upd (upd (upd (upd (upd f 0 ((va >>> (24 &&& 31)) &&& 255)) 1 ((va >>> (16 &&& 31)) &&& 255)) 2 ((va >>> (8 &&& 31)) &&& 255)) 3 ((va >>> (0 &&& 31)) &&& 255)) 4 ((vb >>> (24 &&& 31)) &&& 255)) 5 ((vb >>> (16 &&& 31)) &&& 255)) 6 ((vb >>> (8 &&& 31)) &&& 255)) 7 ((vb >>> (0 &&& 31)) &&& 255)) 8 ((vc >>> (24 &&& 31)) &&& 255)) 9 ((vc >>> (16 &&& 31)) &&& 255))))] := hD
  refine lv_iinc (k := 1) (v := 10) (lv' := [(6, .int 10), (7, .int vc), (0, .ref h0), (1, .int va), (2, .int vb), (3, .int vc), (4, .int vd), (5, .int ve)]) hx hb d_ProofDeskModel_feed_109 hl rfl (by decide +kernel) (by decide) rfl (fun ls hl => ?_)
  refine lv_goto hx hb d_ProofDeskModel_feed_112 rfl ?_
  refine lv_iload hx hb d_ProofDeskModel_feed_18 (lv_at hl 0 rfl) ?_
  refine lv_bipush (v := 20) hx hb d_ProofDeskModel_feed_20 (by decide) ?_
  have hc_30 : ¬ (20 : Int32) ≤ 10 := by decide +kernel
  refine lv_icmp_ge hx hb d_ProofDeskModel_feed_22 rfl (fun h => absurd h hc_30) (fun _ => ?_)
  refine lv_iload hx hb d_ProofDeskModel_feed_25 (lv_at hl 0 rfl) ?_
  refine lv_iconst (v := 4) hx hb d_ProofDeskModel_feed_27 (by decide) ?_
  have hc_31 : (4 : Int32) ≤ 10 := by decide +kernel
  refine lv_icmp_ge hx hb d_ProofDeskModel_feed_28 rfl (fun _ => ?_) (fun h => absurd hc_31 h)
  refine lv_iload hx hb d_ProofDeskModel_feed_35 (lv_at hl 0 rfl) ?_
  refine lv_bipush (v := 8) hx hb d_ProofDeskModel_feed_37 (by decide) ?_
  have hc_32 : (8 : Int32) ≤ 10 := by decide +kernel
  refine lv_icmp_ge hx hb d_ProofDeskModel_feed_39 rfl (fun _ => ?_) (fun h => absurd hc_32 h)
  refine lv_iload hx hb d_ProofDeskModel_feed_46 (lv_at hl 0 rfl) ?_
  refine lv_bipush (v := 12) hx hb d_ProofDeskModel_feed_48 (by decide) ?_
  have hc_33 : ¬ (12 : Int32) ≤ 10 := by decide +kernel
  refine lv_icmp_ge hx hb d_ProofDeskModel_feed_50 rfl (fun h => absurd h hc_33) (fun _ => ?_)
  refine lv_iload_n hx hb d_ProofDeskModel_feed_53 rfl (lv_at hl 5 rfl) ?_
  refine lv_goto hx hb d_ProofDeskModel_feed_54 rfl ?_
  refine lv_istore (lv' := [(7, .int vc), (6, .int 10), (0, .ref h0), (1, .int va), (2, .int vb), (3, .int vc), (4, .int vd), (5, .int ve)]) hx hb d_ProofDeskModel_feed_71 hl (by decide) rfl (fun ls hl => ?_)
  refine lv_aload_n hx hb d_ProofDeskModel_feed_73 rfl (lv_at hl 2 rfl) ?_
  refine va_get (D := D) (ci := 16) (v := .ref bs) (C := "ProofDeskModel") (T := F_ProofDeskModel) (N := 56) hx hb hts in_ProofDeskModel hown hK hP 0 rfl rfl 1 (by decide) (hts _ kw_2125) (fun _ h9 => h9) rfl d_ProofDeskModel_feed_74 ?_
  refine lv_aload_n hx hb d_ProofDeskModel_feed_77 rfl (lv_at hl 2 rfl) ?_
  refine va_get (D := D) (ci := 16) (v := .int 10) (C := "ProofDeskModel") (T := F_ProofDeskModel) (N := 56) hx hb hts in_ProofDeskModel hown hK hP 0 rfl rfl 2 (by decide) (hts _ kw_2126) (fun _ h9 => h9) rfl d_ProofDeskModel_feed_78 ?_
  refine lv_iload hx hb d_ProofDeskModel_feed_81 (lv_at hl 0 rfl) ?_
  refine lv_bipush (v := 24) hx hb d_ProofDeskModel_feed_83 (by decide) ?_
  refine lv_bipush (v := 8) hx hb d_ProofDeskModel_feed_85 (by decide) ?_
  refine lv_iload hx hb d_ProofDeskModel_feed_87 (lv_at hl 1 rfl) ?_
  refine lv_iconst (v := 4) hx hb d_ProofDeskModel_feed_89 (by decide) ?_
  refine lv_irem hx hb d_ProofDeskModel_feed_90 (by decide) ?_
  refine zz_i (y := 2) (by decide +kernel) ?_
  refine lv_imul hx hb d_ProofDeskModel_feed_91 ?_
  refine zz_i (y := 16) (by decide +kernel) ?_
  refine lv_isub hx hb d_ProofDeskModel_feed_92 ?_
  refine zz_i (y := 8) (by decide +kernel) ?_
  refine lv_ishr hx hb d_ProofDeskModel_feed_93 ?_
  refine lv_sipush (v := 255) hx hb d_ProofDeskModel_feed_94 (by decide) ?_
  refine lv_iand hx hb d_ProofDeskModel_feed_97 ?_
  refine zz_iast hx hb hK hP hD hS 1 0 rfl rfl (i := 10) (x := ((vc >>> (8 &&& 31)) &&& 255)) 10 (⟨by decide +kernel, by decide +kernel, by decide +kernel⟩) d_ProofDeskModel_feed_98 (fun H locs hP hD hS => ?_)
  have hP : va_P D zcl [(h0, .inr (16, [h0_0, .ref bs, .int 10, h0_3, h0_4, h0_5, h0_6, h0_7, h0_8, h0_9, h0_10, h0_11, h0_12, h0_13, h0_14, h0_15, h0_16, h0_17, h0_18, h0_19, h0_20, h0_21, h0_22, h0_23, h0_24, h0_25, h0_26, h0_27, h0_28, h0_29, h0_30, h0_31, h0_32, h0_33, h0_34, h0_35, h0_36, h0_37, h0_38, h0_39, h0_40, h0_41, h0_42, h0_43, h0_44, h0_45, h0_46, h0_47, h0_48, h0_49, h0_50, h0_51, h0_52, h0_53, h0_54, h0_55])), (bs, .inl (cI, 16400, .inl (upd (upd (upd (upd (upd (upd (upd (upd (upd (upd (upd f 0 ((va >>> (24 &&& 31)) &&& 255)) 1 ((va >>> (16 &&& 31)) &&& 255)) 2 ((va >>> (8 &&& 31)) &&& 255)) 3 ((va >>> (0 &&& 31)) &&& 255)) 4 ((vb >>> (24 &&& 31)) &&& 255)) 5 ((vb >>> (16 &&& 31)) &&& 255)) 6 ((vb >>> (8 &&& 31)) &&& 255)) 7 ((vb >>> (0 &&& 31)) &&& 255)) 8 ((vc >>> (24 &&& 31)) &&& 255)) 9 ((vc >>> (16 &&& 31)) &&& 255)) 10 ((vc >>> (8 &&& 31)) &&& 255))))] H := hP
  have hD : va_D A [(h0, .inr (16, [h0_0, .ref bs, .int 10, h0_3, h0_4, h0_5, h0_6, h0_7, h0_8, h0_9, h0_10, h0_11, h0_12, h0_13, h0_14, h0_15, h0_16, h0_17, h0_18, h0_19, h0_20, h0_21, h0_22, h0_23, h0_24, h0_25, h0_26, h0_27, h0_28, h0_29, h0_30, h0_31, h0_32, h0_33, h0_34, h0_35, h0_36, h0_37, h0_38, h0_39, h0_40, h0_41, h0_42, h0_43, h0_44, h0_45, h0_46, h0_47, h0_48, h0_49, h0_50, h0_51, h0_52, h0_53, h0_54, h0_55])), (bs, .inl (cI, 16400, .inl (upd (upd (upd (upd (upd (upd (upd (upd (upd (upd (upd f 0 ((va >>> (24 &&& 31)) &&& 255)) 1 ((va >>> (16 &&& 31)) &&& 255)) 2 ((va >>> (8 &&& 31)) &&& 255)) 3 ((va >>> (0 &&& 31)) &&& 255)) 4 ((vb >>> (24 &&& 31)) &&& 255)) 5 ((vb >>> (16 &&& 31)) &&& 255)) 6 ((vb >>> (8 &&& 31)) &&& 255)) 7 ((vb >>> (0 &&& 31)) &&& 255)) 8 ((vc >>> (24 &&& 31)) &&& 255)) 9 ((vc >>> (16 &&& 31)) &&& 255)) 10 ((vc >>> (8 &&& 31)) &&& 255))))] := hD
  refine lv_aload_n hx hb d_ProofDeskModel_feed_99 rfl (lv_at hl 2 rfl) ?_
  refine lv_dup hx hb d_ProofDeskModel_feed_100 rfl ?_
  refine va_get (D := D) (ci := 16) (v := .int 10) (C := "ProofDeskModel") (T := F_ProofDeskModel) (N := 56) hx hb hts in_ProofDeskModel hown hK hP 0 rfl rfl 2 (by decide) (hts _ kw_2126) (fun _ h9 => h9) rfl d_ProofDeskModel_feed_101 ?_
  refine lv_iconst (v := 1) hx hb d_ProofDeskModel_feed_104 (by decide) ?_
  refine lv_iadd hx hb d_ProofDeskModel_feed_105 ?_
  refine zz_i (y := 11) (by decide +kernel) ?_
  refine va_put (D := D) (ci := 16) (v := .int 11) (ty := .int) (C := "ProofDeskModel") (T := F_ProofDeskModel) (N := 56) hx hb hts in_ProofDeskModel t_ProofDeskModel t_ProofDeskModel_ok n_ProofDeskModel hown hK hP hD hS 0 rfl rfl 2 (by decide) (hts _ kw_2126) (fun _ h9 => h9) rfl (by decide +kernel) rfl rfl (Nat.le_of_ble_eq_true rfl) d_ProofDeskModel_feed_106 (fun H locs hP hD hS => ?_)
  have hP : va_P D zcl [(h0, .inr (16, [h0_0, .ref bs, .int 11, h0_3, h0_4, h0_5, h0_6, h0_7, h0_8, h0_9, h0_10, h0_11, h0_12, h0_13, h0_14, h0_15, h0_16, h0_17, h0_18, h0_19, h0_20, h0_21, h0_22, h0_23, h0_24, h0_25, h0_26, h0_27, h0_28, h0_29, h0_30, h0_31, h0_32, h0_33, h0_34, h0_35, h0_36, h0_37, h0_38, h0_39, h0_40, h0_41, h0_42, h0_43, h0_44, h0_45, h0_46, h0_47, h0_48, h0_49, h0_50, h0_51, h0_52, h0_53, h0_54, h0_55])), (bs, .inl (cI, 16400, .inl (upd (upd (upd (upd (upd (upd (upd (upd (upd (upd (upd f 0 ((va >>> (24 &&& 31)) &&& 255)) 1 ((va >>> (16 &&& 31)) &&& 255)) 2 ((va >>> (8 &&& 31)) &&& 255)) 3 ((va >>> (0 &&& 31)) &&& 255)) 4 ((vb >>> (24 &&& 31)) &&& 255)) 5 ((vb >>> (16 &&& 31)) &&& 255)) 6 ((vb >>> (8 &&& 31)) &&& 255)) 7 ((vb >>> (0 &&& 31)) &&& 255)) 8 ((vc >>> (24 &&& 31)) &&& 255)) 9 ((vc >>> (16 &&& 31)) &&& 255)) 10 ((vc >>> (8 &&& 31)) &&& 255))))] H := hP
  have hD : va_D A [(h0, .inr (16, [h0_0, .ref bs, .int 11, h0_3, h0_4, h0_5, h0_6, h0_7, h0_8, h0_9, h0_10, h0_11, h0_12, h0_13, h0_14, h0_15, h0_16, h0_17, h0_18, h0_19, h0_20, h0_21, h0_22, h0_23, h0_24, h0_25, h0_26, h0_27, h0_28, h0_29, h0_30, h0_31, h0_32, h0_33, h0_34, h0_35, h0_36, h0_37, h0_38, h0_39, h0_40, h0_41, h0_42, h0_43, h0_44, h0_45, h0_46, h0_47, h0_48, h0_49, h0_50, h0_51, h0_52, h0_53, h0_54, h0_55])), (bs, .inl (cI, 16400, .inl (upd (upd (upd (upd (upd (upd (upd (upd (upd (upd (upd f 0 ((va >>> (24 &&& 31)) &&& 255)) 1 ((va >>> (16 &&& 31)) &&& 255)) 2 ((va >>> (8 &&& 31)) &&& 255)) 3 ((va >>> (0 &&& 31)) &&& 255)) 4 ((vb >>> (24 &&& 31)) &&& 255)) 5 ((vb >>> (16 &&& 31)) &&& 255)) 6 ((vb >>> (8 &&& 31)) &&& 255)) 7 ((vb >>> (0 &&& 31)) &&& 255)) 8 ((vc >>> (24 &&& 31)) &&& 255)) 9 ((vc >>> (16 &&& 31)) &&& 255)) 10 ((vc >>> (8 &&& 31)) &&& 255))))] := hD
  refine lv_iinc (k := 1) (v := 11) (lv' := [(6, .int 11), (7, .int vc), (0, .ref h0), (1, .int va), (2, .int vb), (3, .int vc), (4, .int vd), (5, .int ve)]) hx hb d_ProofDeskModel_feed_109 hl rfl (by decide +kernel) (by decide) rfl (fun ls hl => ?_)
  refine lv_goto hx hb d_ProofDeskModel_feed_112 rfl ?_
  refine lv_iload hx hb d_ProofDeskModel_feed_18 (lv_at hl 0 rfl) ?_
  refine lv_bipush (v := 20) hx hb d_ProofDeskModel_feed_20 (by decide) ?_
  have hc_34 : ¬ (20 : Int32) ≤ 11 := by decide +kernel
  refine lv_icmp_ge hx hb d_ProofDeskModel_feed_22 rfl (fun h => absurd h hc_34) (fun _ => ?_)
  refine lv_iload hx hb d_ProofDeskModel_feed_25 (lv_at hl 0 rfl) ?_
  refine lv_iconst (v := 4) hx hb d_ProofDeskModel_feed_27 (by decide) ?_
  have hc_35 : (4 : Int32) ≤ 11 := by decide +kernel
  refine lv_icmp_ge hx hb d_ProofDeskModel_feed_28 rfl (fun _ => ?_) (fun h => absurd hc_35 h)
  refine lv_iload hx hb d_ProofDeskModel_feed_35 (lv_at hl 0 rfl) ?_
  refine lv_bipush (v := 8) hx hb d_ProofDeskModel_feed_37 (by decide) ?_
  have hc_36 : (8 : Int32) ≤ 11 := by decide +kernel
  refine lv_icmp_ge hx hb d_ProofDeskModel_feed_39 rfl (fun _ => ?_) (fun h => absurd hc_36 h)
  refine lv_iload hx hb d_ProofDeskModel_feed_46 (lv_at hl 0 rfl) ?_
  refine lv_bipush (v := 12) hx hb d_ProofDeskModel_feed_48 (by decide) ?_
  have hc_37 : ¬ (12 : Int32) ≤ 11 := by decide +kernel
  refine lv_icmp_ge hx hb d_ProofDeskModel_feed_50 rfl (fun h => absurd h hc_37) (fun _ => ?_)
  refine lv_iload_n hx hb d_ProofDeskModel_feed_53 rfl (lv_at hl 5 rfl) ?_
  refine lv_goto hx hb d_ProofDeskModel_feed_54 rfl ?_
  refine lv_istore (lv' := [(7, .int vc), (6, .int 11), (0, .ref h0), (1, .int va), (2, .int vb), (3, .int vc), (4, .int vd), (5, .int ve)]) hx hb d_ProofDeskModel_feed_71 hl (by decide) rfl (fun ls hl => ?_)
  refine lv_aload_n hx hb d_ProofDeskModel_feed_73 rfl (lv_at hl 2 rfl) ?_
  refine va_get (D := D) (ci := 16) (v := .ref bs) (C := "ProofDeskModel") (T := F_ProofDeskModel) (N := 56) hx hb hts in_ProofDeskModel hown hK hP 0 rfl rfl 1 (by decide) (hts _ kw_2125) (fun _ h9 => h9) rfl d_ProofDeskModel_feed_74 ?_
  refine lv_aload_n hx hb d_ProofDeskModel_feed_77 rfl (lv_at hl 2 rfl) ?_
  refine va_get (D := D) (ci := 16) (v := .int 11) (C := "ProofDeskModel") (T := F_ProofDeskModel) (N := 56) hx hb hts in_ProofDeskModel hown hK hP 0 rfl rfl 2 (by decide) (hts _ kw_2126) (fun _ h9 => h9) rfl d_ProofDeskModel_feed_78 ?_
  refine lv_iload hx hb d_ProofDeskModel_feed_81 (lv_at hl 0 rfl) ?_
  refine lv_bipush (v := 24) hx hb d_ProofDeskModel_feed_83 (by decide) ?_
  refine lv_bipush (v := 8) hx hb d_ProofDeskModel_feed_85 (by decide) ?_
  refine lv_iload hx hb d_ProofDeskModel_feed_87 (lv_at hl 1 rfl) ?_
  refine lv_iconst (v := 4) hx hb d_ProofDeskModel_feed_89 (by decide) ?_
  refine lv_irem hx hb d_ProofDeskModel_feed_90 (by decide) ?_
  refine zz_i (y := 3) (by decide +kernel) ?_
  refine lv_imul hx hb d_ProofDeskModel_feed_91 ?_
  refine zz_i (y := 24) (by decide +kernel) ?_
  refine lv_isub hx hb d_ProofDeskModel_feed_92 ?_
  refine zz_i (y := 0) (by decide +kernel) ?_
  refine lv_ishr hx hb d_ProofDeskModel_feed_93 ?_
  refine lv_sipush (v := 255) hx hb d_ProofDeskModel_feed_94 (by decide) ?_
  refine lv_iand hx hb d_ProofDeskModel_feed_97 ?_
  refine zz_iast hx hb hK hP hD hS 1 0 rfl rfl (i := 11) (x := ((vc >>> (0 &&& 31)) &&& 255)) 11 (⟨by decide +kernel, by decide +kernel, by decide +kernel⟩) d_ProofDeskModel_feed_98 (fun H locs hP hD hS => ?_)
  have hP : va_P D zcl [(h0, .inr (16, [h0_0, .ref bs, .int 11, h0_3, h0_4, h0_5, h0_6, h0_7, h0_8, h0_9, h0_10, h0_11, h0_12, h0_13, h0_14, h0_15, h0_16, h0_17, h0_18, h0_19, h0_20, h0_21, h0_22, h0_23, h0_24, h0_25, h0_26, h0_27, h0_28, h0_29, h0_30, h0_31, h0_32, h0_33, h0_34, h0_35, h0_36, h0_37, h0_38, h0_39, h0_40, h0_41, h0_42, h0_43, h0_44, h0_45, h0_46, h0_47, h0_48, h0_49, h0_50, h0_51, h0_52, h0_53, h0_54, h0_55])), (bs, .inl (cI, 16400, .inl (upd (upd (upd (upd (upd (upd (upd (upd (upd (upd (upd (upd f 0 ((va >>> (24 &&& 31)) &&& 255)) 1 ((va >>> (16 &&& 31)) &&& 255)) 2 ((va >>> (8 &&& 31)) &&& 255)) 3 ((va >>> (0 &&& 31)) &&& 255)) 4 ((vb >>> (24 &&& 31)) &&& 255)) 5 ((vb >>> (16 &&& 31)) &&& 255)) 6 ((vb >>> (8 &&& 31)) &&& 255)) 7 ((vb >>> (0 &&& 31)) &&& 255)) 8 ((vc >>> (24 &&& 31)) &&& 255)) 9 ((vc >>> (16 &&& 31)) &&& 255)) 10 ((vc >>> (8 &&& 31)) &&& 255)) 11 ((vc >>> (0 &&& 31)) &&& 255))))] H := hP
  have hD : va_D A [(h0, .inr (16, [h0_0, .ref bs, .int 11, h0_3, h0_4, h0_5, h0_6, h0_7, h0_8, h0_9, h0_10, h0_11, h0_12, h0_13, h0_14, h0_15, h0_16, h0_17, h0_18, h0_19, h0_20, h0_21, h0_22, h0_23, h0_24, h0_25, h0_26, h0_27, h0_28, h0_29, h0_30, h0_31, h0_32, h0_33, h0_34, h0_35, h0_36, h0_37, h0_38, h0_39, h0_40, h0_41, h0_42, h0_43, h0_44, h0_45, h0_46, h0_47, h0_48, h0_49, h0_50, h0_51, h0_52, h0_53, h0_54, h0_55])), (bs, .inl (cI, 16400, .inl (upd (upd (upd (upd (upd (upd (upd (upd (upd (upd (upd (upd f 0 ((va >>> (24 &&& 31)) &&& 255)) 1 ((va >>> (16 &&& 31)) &&& 255)) 2 ((va >>> (8 &&& 31)) &&& 255)) 3 ((va >>> (0 &&& 31)) &&& 255)) 4 ((vb >>> (24 &&& 31)) &&& 255)) 5 ((vb >>> (16 &&& 31)) &&& 255)) 6 ((vb >>> (8 &&& 31)) &&& 255)) 7 ((vb >>> (0 &&& 31)) &&& 255)) 8 ((vc >>> (24 &&& 31)) &&& 255)) 9 ((vc >>> (16 &&& 31)) &&& 255)) 10 ((vc >>> (8 &&& 31)) &&& 255)) 11 ((vc >>> (0 &&& 31)) &&& 255))))] := hD
  refine lv_aload_n hx hb d_ProofDeskModel_feed_99 rfl (lv_at hl 2 rfl) ?_
  refine lv_dup hx hb d_ProofDeskModel_feed_100 rfl ?_
  refine va_get (D := D) (ci := 16) (v := .int 11) (C := "ProofDeskModel") (T := F_ProofDeskModel) (N := 56) hx hb hts in_ProofDeskModel hown hK hP 0 rfl rfl 2 (by decide) (hts _ kw_2126) (fun _ h9 => h9) rfl d_ProofDeskModel_feed_101 ?_
  refine lv_iconst (v := 1) hx hb d_ProofDeskModel_feed_104 (by decide) ?_
  refine lv_iadd hx hb d_ProofDeskModel_feed_105 ?_
  refine zz_i (y := 12) (by decide +kernel) ?_
  refine va_put (D := D) (ci := 16) (v := .int 12) (ty := .int) (C := "ProofDeskModel") (T := F_ProofDeskModel) (N := 56) hx hb hts in_ProofDeskModel t_ProofDeskModel t_ProofDeskModel_ok n_ProofDeskModel hown hK hP hD hS 0 rfl rfl 2 (by decide) (hts _ kw_2126) (fun _ h9 => h9) rfl (by decide +kernel) rfl rfl (Nat.le_of_ble_eq_true rfl) d_ProofDeskModel_feed_106 (fun H locs hP hD hS => ?_)
  have hP : va_P D zcl [(h0, .inr (16, [h0_0, .ref bs, .int 12, h0_3, h0_4, h0_5, h0_6, h0_7, h0_8, h0_9, h0_10, h0_11, h0_12, h0_13, h0_14, h0_15, h0_16, h0_17, h0_18, h0_19, h0_20, h0_21, h0_22, h0_23, h0_24, h0_25, h0_26, h0_27, h0_28, h0_29, h0_30, h0_31, h0_32, h0_33, h0_34, h0_35, h0_36, h0_37, h0_38, h0_39, h0_40, h0_41, h0_42, h0_43, h0_44, h0_45, h0_46, h0_47, h0_48, h0_49, h0_50, h0_51, h0_52, h0_53, h0_54, h0_55])), (bs, .inl (cI, 16400, .inl (upd (upd (upd (upd (upd (upd (upd (upd (upd (upd (upd (upd f 0 ((va >>> (24 &&& 31)) &&& 255)) 1 ((va >>> (16 &&& 31)) &&& 255)) 2 ((va >>> (8 &&& 31)) &&& 255)) 3 ((va >>> (0 &&& 31)) &&& 255)) 4 ((vb >>> (24 &&& 31)) &&& 255)) 5 ((vb >>> (16 &&& 31)) &&& 255)) 6 ((vb >>> (8 &&& 31)) &&& 255)) 7 ((vb >>> (0 &&& 31)) &&& 255)) 8 ((vc >>> (24 &&& 31)) &&& 255)) 9 ((vc >>> (16 &&& 31)) &&& 255)) 10 ((vc >>> (8 &&& 31)) &&& 255)) 11 ((vc >>> (0 &&& 31)) &&& 255))))] H := hP
  have hD : va_D A [(h0, .inr (16, [h0_0, .ref bs, .int 12, h0_3, h0_4, h0_5, h0_6, h0_7, h0_8, h0_9, h0_10, h0_11, h0_12, h0_13, h0_14, h0_15, h0_16, h0_17, h0_18, h0_19, h0_20, h0_21, h0_22, h0_23, h0_24, h0_25, h0_26, h0_27, h0_28, h0_29, h0_30, h0_31, h0_32, h0_33, h0_34, h0_35, h0_36, h0_37, h0_38, h0_39, h0_40, h0_41, h0_42, h0_43, h0_44, h0_45, h0_46, h0_47, h0_48, h0_49, h0_50, h0_51, h0_52, h0_53, h0_54, h0_55])), (bs, .inl (cI, 16400, .inl (upd (upd (upd (upd (upd (upd (upd (upd (upd (upd (upd (upd f 0 ((va >>> (24 &&& 31)) &&& 255)) 1 ((va >>> (16 &&& 31)) &&& 255)) 2 ((va >>> (8 &&& 31)) &&& 255)) 3 ((va >>> (0 &&& 31)) &&& 255)) 4 ((vb >>> (24 &&& 31)) &&& 255)) 5 ((vb >>> (16 &&& 31)) &&& 255)) 6 ((vb >>> (8 &&& 31)) &&& 255)) 7 ((vb >>> (0 &&& 31)) &&& 255)) 8 ((vc >>> (24 &&& 31)) &&& 255)) 9 ((vc >>> (16 &&& 31)) &&& 255)) 10 ((vc >>> (8 &&& 31)) &&& 255)) 11 ((vc >>> (0 &&& 31)) &&& 255))))] := hD
  refine lv_iinc (k := 1) (v := 12) (lv' := [(6, .int 12), (7, .int vc), (0, .ref h0), (1, .int va), (2, .int vb), (3, .int vc), (4, .int vd), (5, .int ve)]) hx hb d_ProofDeskModel_feed_109 hl rfl (by decide +kernel) (by decide) rfl (fun ls hl => ?_)
  refine lv_goto hx hb d_ProofDeskModel_feed_112 rfl ?_
  refine lv_iload hx hb d_ProofDeskModel_feed_18 (lv_at hl 0 rfl) ?_
  refine lv_bipush (v := 20) hx hb d_ProofDeskModel_feed_20 (by decide) ?_
  have hc_38 : ¬ (20 : Int32) ≤ 12 := by decide +kernel
  refine lv_icmp_ge hx hb d_ProofDeskModel_feed_22 rfl (fun h => absurd h hc_38) (fun _ => ?_)
  refine lv_iload hx hb d_ProofDeskModel_feed_25 (lv_at hl 0 rfl) ?_
  refine lv_iconst (v := 4) hx hb d_ProofDeskModel_feed_27 (by decide) ?_
  have hc_39 : (4 : Int32) ≤ 12 := by decide +kernel
  refine lv_icmp_ge hx hb d_ProofDeskModel_feed_28 rfl (fun _ => ?_) (fun h => absurd hc_39 h)
  refine lv_iload hx hb d_ProofDeskModel_feed_35 (lv_at hl 0 rfl) ?_
  refine lv_bipush (v := 8) hx hb d_ProofDeskModel_feed_37 (by decide) ?_
  have hc_40 : (8 : Int32) ≤ 12 := by decide +kernel
  refine lv_icmp_ge hx hb d_ProofDeskModel_feed_39 rfl (fun _ => ?_) (fun h => absurd hc_40 h)
  refine lv_iload hx hb d_ProofDeskModel_feed_46 (lv_at hl 0 rfl) ?_
  refine lv_bipush (v := 12) hx hb d_ProofDeskModel_feed_48 (by decide) ?_
  have hc_41 : (12 : Int32) ≤ 12 := by decide +kernel
  refine lv_icmp_ge hx hb d_ProofDeskModel_feed_50 rfl (fun _ => ?_) (fun h => absurd hc_41 h)
  refine lv_iload hx hb d_ProofDeskModel_feed_57 (lv_at hl 0 rfl) ?_
  refine lv_bipush (v := 16) hx hb d_ProofDeskModel_feed_59 (by decide) ?_
  have hc_42 : ¬ (16 : Int32) ≤ 12 := by decide +kernel
  refine lv_icmp_ge hx hb d_ProofDeskModel_feed_61 rfl (fun h => absurd h hc_42) (fun _ => ?_)
  refine lv_iload hx hb d_ProofDeskModel_feed_64 (lv_at hl 6 rfl) ?_
  refine lv_goto hx hb d_ProofDeskModel_feed_66 rfl ?_
  refine lv_istore (lv' := [(7, .int vd), (6, .int 12), (0, .ref h0), (1, .int va), (2, .int vb), (3, .int vc), (4, .int vd), (5, .int ve)]) hx hb d_ProofDeskModel_feed_71 hl (by decide) rfl (fun ls hl => ?_)
  refine lv_aload_n hx hb d_ProofDeskModel_feed_73 rfl (lv_at hl 2 rfl) ?_
  refine va_get (D := D) (ci := 16) (v := .ref bs) (C := "ProofDeskModel") (T := F_ProofDeskModel) (N := 56) hx hb hts in_ProofDeskModel hown hK hP 0 rfl rfl 1 (by decide) (hts _ kw_2125) (fun _ h9 => h9) rfl d_ProofDeskModel_feed_74 ?_
  refine lv_aload_n hx hb d_ProofDeskModel_feed_77 rfl (lv_at hl 2 rfl) ?_
  refine va_get (D := D) (ci := 16) (v := .int 12) (C := "ProofDeskModel") (T := F_ProofDeskModel) (N := 56) hx hb hts in_ProofDeskModel hown hK hP 0 rfl rfl 2 (by decide) (hts _ kw_2126) (fun _ h9 => h9) rfl d_ProofDeskModel_feed_78 ?_
  refine lv_iload hx hb d_ProofDeskModel_feed_81 (lv_at hl 0 rfl) ?_
  refine lv_bipush (v := 24) hx hb d_ProofDeskModel_feed_83 (by decide) ?_
  refine lv_bipush (v := 8) hx hb d_ProofDeskModel_feed_85 (by decide) ?_
  refine lv_iload hx hb d_ProofDeskModel_feed_87 (lv_at hl 1 rfl) ?_
  refine lv_iconst (v := 4) hx hb d_ProofDeskModel_feed_89 (by decide) ?_
  refine lv_irem hx hb d_ProofDeskModel_feed_90 (by decide) ?_
  refine zz_i (y := 0) (by decide +kernel) ?_
  refine lv_imul hx hb d_ProofDeskModel_feed_91 ?_
  refine zz_i (y := 0) (by decide +kernel) ?_
  refine lv_isub hx hb d_ProofDeskModel_feed_92 ?_
  refine zz_i (y := 24) (by decide +kernel) ?_
  refine lv_ishr hx hb d_ProofDeskModel_feed_93 ?_
  refine lv_sipush (v := 255) hx hb d_ProofDeskModel_feed_94 (by decide) ?_
  refine lv_iand hx hb d_ProofDeskModel_feed_97 ?_
  refine zz_iast hx hb hK hP hD hS 1 0 rfl rfl (i := 12) (x := ((vd >>> (24 &&& 31)) &&& 255)) 12 (⟨by decide +kernel, by decide +kernel, by decide +kernel⟩) d_ProofDeskModel_feed_98 (fun H locs hP hD hS => ?_)
  have hP : va_P D zcl [(h0, .inr (16, [h0_0, .ref bs, .int 12, h0_3, h0_4, h0_5, h0_6, h0_7, h0_8, h0_9, h0_10, h0_11, h0_12, h0_13, h0_14, h0_15, h0_16, h0_17, h0_18, h0_19, h0_20, h0_21, h0_22, h0_23, h0_24, h0_25, h0_26, h0_27, h0_28, h0_29, h0_30, h0_31, h0_32, h0_33, h0_34, h0_35, h0_36, h0_37, h0_38, h0_39, h0_40, h0_41, h0_42, h0_43, h0_44, h0_45, h0_46, h0_47, h0_48, h0_49, h0_50, h0_51, h0_52, h0_53, h0_54, h0_55])), (bs, .inl (cI, 16400, .inl (upd (upd (upd (upd (upd (upd (upd (upd (upd (upd (upd (upd (upd f 0 ((va >>> (24 &&& 31)) &&& 255)) 1 ((va >>> (16 &&& 31)) &&& 255)) 2 ((va >>> (8 &&& 31)) &&& 255)) 3 ((va >>> (0 &&& 31)) &&& 255)) 4 ((vb >>> (24 &&& 31)) &&& 255)) 5 ((vb >>> (16 &&& 31)) &&& 255)) 6 ((vb >>> (8 &&& 31)) &&& 255)) 7 ((vb >>> (0 &&& 31)) &&& 255)) 8 ((vc >>> (24 &&& 31)) &&& 255)) 9 ((vc >>> (16 &&& 31)) &&& 255)) 10 ((vc >>> (8 &&& 31)) &&& 255)) 11 ((vc >>> (0 &&& 31)) &&& 255)) 12 ((vd >>> (24 &&& 31)) &&& 255))))] H := hP
  have hD : va_D A [(h0, .inr (16, [h0_0, .ref bs, .int 12, h0_3, h0_4, h0_5, h0_6, h0_7, h0_8, h0_9, h0_10, h0_11, h0_12, h0_13, h0_14, h0_15, h0_16, h0_17, h0_18, h0_19, h0_20, h0_21, h0_22, h0_23, h0_24, h0_25, h0_26, h0_27, h0_28, h0_29, h0_30, h0_31, h0_32, h0_33, h0_34, h0_35, h0_36, h0_37, h0_38, h0_39, h0_40, h0_41, h0_42, h0_43, h0_44, h0_45, h0_46, h0_47, h0_48, h0_49, h0_50, h0_51, h0_52, h0_53, h0_54, h0_55])), (bs, .inl (cI, 16400, .inl (upd (upd (upd (upd (upd (upd (upd (upd (upd (upd (upd (upd (upd f 0 ((va >>> (24 &&& 31)) &&& 255)) 1 ((va >>> (16 &&& 31)) &&& 255)) 2 ((va >>> (8 &&& 31)) &&& 255)) 3 ((va >>> (0 &&& 31)) &&& 255)) 4 ((vb >>> (24 &&& 31)) &&& 255)) 5 ((vb >>> (16 &&& 31)) &&& 255)) 6 ((vb >>> (8 &&& 31)) &&& 255)) 7 ((vb >>> (0 &&& 31)) &&& 255)) 8 ((vc >>> (24 &&& 31)) &&& 255)) 9 ((vc >>> (16 &&& 31)) &&& 255)) 10 ((vc >>> (8 &&& 31)) &&& 255)) 11 ((vc >>> (0 &&& 31)) &&& 255)) 12 ((vd >>> (24 &&& 31)) &&& 255))))] := hD
  refine lv_aload_n hx hb d_ProofDeskModel_feed_99 rfl (lv_at hl 2 rfl) ?_
  refine lv_dup hx hb d_ProofDeskModel_feed_100 rfl ?_
  refine va_get (D := D) (ci := 16) (v := .int 12) (C := "ProofDeskModel") (T := F_ProofDeskModel) (N := 56) hx hb hts in_ProofDeskModel hown hK hP 0 rfl rfl 2 (by decide) (hts _ kw_2126) (fun _ h9 => h9) rfl d_ProofDeskModel_feed_101 ?_
  refine lv_iconst (v := 1) hx hb d_ProofDeskModel_feed_104 (by decide) ?_
  refine lv_iadd hx hb d_ProofDeskModel_feed_105 ?_
  refine zz_i (y := 13) (by decide +kernel) ?_
  refine va_put (D := D) (ci := 16) (v := .int 13) (ty := .int) (C := "ProofDeskModel") (T := F_ProofDeskModel) (N := 56) hx hb hts in_ProofDeskModel t_ProofDeskModel t_ProofDeskModel_ok n_ProofDeskModel hown hK hP hD hS 0 rfl rfl 2 (by decide) (hts _ kw_2126) (fun _ h9 => h9) rfl (by decide +kernel) rfl rfl (Nat.le_of_ble_eq_true rfl) d_ProofDeskModel_feed_106 (fun H locs hP hD hS => ?_)
  have hP : va_P D zcl [(h0, .inr (16, [h0_0, .ref bs, .int 13, h0_3, h0_4, h0_5, h0_6, h0_7, h0_8, h0_9, h0_10, h0_11, h0_12, h0_13, h0_14, h0_15, h0_16, h0_17, h0_18, h0_19, h0_20, h0_21, h0_22, h0_23, h0_24, h0_25, h0_26, h0_27, h0_28, h0_29, h0_30, h0_31, h0_32, h0_33, h0_34, h0_35, h0_36, h0_37, h0_38, h0_39, h0_40, h0_41, h0_42, h0_43, h0_44, h0_45, h0_46, h0_47, h0_48, h0_49, h0_50, h0_51, h0_52, h0_53, h0_54, h0_55])), (bs, .inl (cI, 16400, .inl (upd (upd (upd (upd (upd (upd (upd (upd (upd (upd (upd (upd (upd f 0 ((va >>> (24 &&& 31)) &&& 255)) 1 ((va >>> (16 &&& 31)) &&& 255)) 2 ((va >>> (8 &&& 31)) &&& 255)) 3 ((va >>> (0 &&& 31)) &&& 255)) 4 ((vb >>> (24 &&& 31)) &&& 255)) 5 ((vb >>> (16 &&& 31)) &&& 255)) 6 ((vb >>> (8 &&& 31)) &&& 255)) 7 ((vb >>> (0 &&& 31)) &&& 255)) 8 ((vc >>> (24 &&& 31)) &&& 255)) 9 ((vc >>> (16 &&& 31)) &&& 255)) 10 ((vc >>> (8 &&& 31)) &&& 255)) 11 ((vc >>> (0 &&& 31)) &&& 255)) 12 ((vd >>> (24 &&& 31)) &&& 255))))] H := hP
  have hD : va_D A [(h0, .inr (16, [h0_0, .ref bs, .int 13, h0_3, h0_4, h0_5, h0_6, h0_7, h0_8, h0_9, h0_10, h0_11, h0_12, h0_13, h0_14, h0_15, h0_16, h0_17, h0_18, h0_19, h0_20, h0_21, h0_22, h0_23, h0_24, h0_25, h0_26, h0_27, h0_28, h0_29, h0_30, h0_31, h0_32, h0_33, h0_34, h0_35, h0_36, h0_37, h0_38, h0_39, h0_40, h0_41, h0_42, h0_43, h0_44, h0_45, h0_46, h0_47, h0_48, h0_49, h0_50, h0_51, h0_52, h0_53, h0_54, h0_55])), (bs, .inl (cI, 16400, .inl (upd (upd (upd (upd (upd (upd (upd (upd (upd (upd (upd (upd (upd f 0 ((va >>> (24 &&& 31)) &&& 255)) 1 ((va >>> (16 &&& 31)) &&& 255)) 2 ((va >>> (8 &&& 31)) &&& 255)) 3 ((va >>> (0 &&& 31)) &&& 255)) 4 ((vb >>> (24 &&& 31)) &&& 255)) 5 ((vb >>> (16 &&& 31)) &&& 255)) 6 ((vb >>> (8 &&& 31)) &&& 255)) 7 ((vb >>> (0 &&& 31)) &&& 255)) 8 ((vc >>> (24 &&& 31)) &&& 255)) 9 ((vc >>> (16 &&& 31)) &&& 255)) 10 ((vc >>> (8 &&& 31)) &&& 255)) 11 ((vc >>> (0 &&& 31)) &&& 255)) 12 ((vd >>> (24 &&& 31)) &&& 255))))] := hD
  refine lv_iinc (k := 1) (v := 13) (lv' := [(6, .int 13), (7, .int vd), (0, .ref h0), (1, .int va), (2, .int vb), (3, .int vc), (4, .int vd), (5, .int ve)]) hx hb d_ProofDeskModel_feed_109 hl rfl (by decide +kernel) (by decide) rfl (fun ls hl => ?_)
  refine lv_goto hx hb d_ProofDeskModel_feed_112 rfl ?_
  refine lv_iload hx hb d_ProofDeskModel_feed_18 (lv_at hl 0 rfl) ?_
  refine lv_bipush (v := 20) hx hb d_ProofDeskModel_feed_20 (by decide) ?_
  have hc_43 : ¬ (20 : Int32) ≤ 13 := by decide +kernel
  refine lv_icmp_ge hx hb d_ProofDeskModel_feed_22 rfl (fun h => absurd h hc_43) (fun _ => ?_)
  refine lv_iload hx hb d_ProofDeskModel_feed_25 (lv_at hl 0 rfl) ?_
  refine lv_iconst (v := 4) hx hb d_ProofDeskModel_feed_27 (by decide) ?_
  have hc_44 : (4 : Int32) ≤ 13 := by decide +kernel
  refine lv_icmp_ge hx hb d_ProofDeskModel_feed_28 rfl (fun _ => ?_) (fun h => absurd hc_44 h)
  refine lv_iload hx hb d_ProofDeskModel_feed_35 (lv_at hl 0 rfl) ?_
  refine lv_bipush (v := 8) hx hb d_ProofDeskModel_feed_37 (by decide) ?_
  have hc_45 : (8 : Int32) ≤ 13 := by decide +kernel
  refine lv_icmp_ge hx hb d_ProofDeskModel_feed_39 rfl (fun _ => ?_) (fun h => absurd hc_45 h)
  refine lv_iload hx hb d_ProofDeskModel_feed_46 (lv_at hl 0 rfl) ?_
  refine lv_bipush (v := 12) hx hb d_ProofDeskModel_feed_48 (by decide) ?_
  have hc_46 : (12 : Int32) ≤ 13 := by decide +kernel
  refine lv_icmp_ge hx hb d_ProofDeskModel_feed_50 rfl (fun _ => ?_) (fun h => absurd hc_46 h)
  refine lv_iload hx hb d_ProofDeskModel_feed_57 (lv_at hl 0 rfl) ?_
  refine lv_bipush (v := 16) hx hb d_ProofDeskModel_feed_59 (by decide) ?_
  have hc_47 : ¬ (16 : Int32) ≤ 13 := by decide +kernel
  refine lv_icmp_ge hx hb d_ProofDeskModel_feed_61 rfl (fun h => absurd h hc_47) (fun _ => ?_)
  refine lv_iload hx hb d_ProofDeskModel_feed_64 (lv_at hl 6 rfl) ?_
  refine lv_goto hx hb d_ProofDeskModel_feed_66 rfl ?_
  refine lv_istore (lv' := [(7, .int vd), (6, .int 13), (0, .ref h0), (1, .int va), (2, .int vb), (3, .int vc), (4, .int vd), (5, .int ve)]) hx hb d_ProofDeskModel_feed_71 hl (by decide) rfl (fun ls hl => ?_)
  refine lv_aload_n hx hb d_ProofDeskModel_feed_73 rfl (lv_at hl 2 rfl) ?_
  refine va_get (D := D) (ci := 16) (v := .ref bs) (C := "ProofDeskModel") (T := F_ProofDeskModel) (N := 56) hx hb hts in_ProofDeskModel hown hK hP 0 rfl rfl 1 (by decide) (hts _ kw_2125) (fun _ h9 => h9) rfl d_ProofDeskModel_feed_74 ?_
  refine lv_aload_n hx hb d_ProofDeskModel_feed_77 rfl (lv_at hl 2 rfl) ?_
  refine va_get (D := D) (ci := 16) (v := .int 13) (C := "ProofDeskModel") (T := F_ProofDeskModel) (N := 56) hx hb hts in_ProofDeskModel hown hK hP 0 rfl rfl 2 (by decide) (hts _ kw_2126) (fun _ h9 => h9) rfl d_ProofDeskModel_feed_78 ?_
  refine lv_iload hx hb d_ProofDeskModel_feed_81 (lv_at hl 0 rfl) ?_
  refine lv_bipush (v := 24) hx hb d_ProofDeskModel_feed_83 (by decide) ?_
  refine lv_bipush (v := 8) hx hb d_ProofDeskModel_feed_85 (by decide) ?_
  refine lv_iload hx hb d_ProofDeskModel_feed_87 (lv_at hl 1 rfl) ?_
  refine lv_iconst (v := 4) hx hb d_ProofDeskModel_feed_89 (by decide) ?_
  refine lv_irem hx hb d_ProofDeskModel_feed_90 (by decide) ?_
  refine zz_i (y := 1) (by decide +kernel) ?_
  refine lv_imul hx hb d_ProofDeskModel_feed_91 ?_
  refine zz_i (y := 8) (by decide +kernel) ?_
  refine lv_isub hx hb d_ProofDeskModel_feed_92 ?_
  refine zz_i (y := 16) (by decide +kernel) ?_
  refine lv_ishr hx hb d_ProofDeskModel_feed_93 ?_
  refine lv_sipush (v := 255) hx hb d_ProofDeskModel_feed_94 (by decide) ?_
  refine lv_iand hx hb d_ProofDeskModel_feed_97 ?_
  refine zz_iast hx hb hK hP hD hS 1 0 rfl rfl (i := 13) (x := ((vd >>> (16 &&& 31)) &&& 255)) 13 (⟨by decide +kernel, by decide +kernel, by decide +kernel⟩) d_ProofDeskModel_feed_98 (fun H locs hP hD hS => ?_)
  have hP : va_P D zcl [(h0, .inr (16, [h0_0, .ref bs, .int 13, h0_3, h0_4, h0_5, h0_6, h0_7, h0_8, h0_9, h0_10, h0_11, h0_12, h0_13, h0_14, h0_15, h0_16, h0_17, h0_18, h0_19, h0_20, h0_21, h0_22, h0_23, h0_24, h0_25, h0_26, h0_27, h0_28, h0_29, h0_30, h0_31, h0_32, h0_33, h0_34, h0_35, h0_36, h0_37, h0_38, h0_39, h0_40, h0_41, h0_42, h0_43, h0_44, h0_45, h0_46, h0_47, h0_48, h0_49, h0_50, h0_51, h0_52, h0_53, h0_54, h0_55])), (bs, .inl (cI, 16400, .inl (upd (upd (upd (upd (upd (upd (upd (upd (upd (upd (upd (upd (upd (upd f 0 ((va >>> (24 &&& 31)) &&& 255)) 1 ((va >>> (16 &&& 31)) &&& 255)) 2 ((va >>> (8 &&& 31)) &&& 255)) 3 ((va >>> (0 &&& 31)) &&& 255)) 4 ((vb >>> (24 &&& 31)) &&& 255)) 5 ((vb >>> (16 &&& 31)) &&& 255)) 6 ((vb >>> (8 &&& 31)) &&& 255)) 7 ((vb >>> (0 &&& 31)) &&& 255)) 8 ((vc >>> (24 &&& 31)) &&& 255)) 9 ((vc >>> (16 &&& 31)) &&& 255)) 10 ((vc >>> (8 &&& 31)) &&& 255)) 11 ((vc >>> (0 &&& 31)) &&& 255)) 12 ((vd >>> (24 &&& 31)) &&& 255)) 13 ((vd >>> (16 &&& 31)) &&& 255))))] H := hP
  have hD : va_D A [(h0, .inr (16, [h0_0, .ref bs, .int 13, h0_3, h0_4, h0_5, h0_6, h0_7, h0_8, h0_9, h0_10, h0_11, h0_12, h0_13, h0_14, h0_15, h0_16, h0_17, h0_18, h0_19, h0_20, h0_21, h0_22, h0_23, h0_24, h0_25, h0_26, h0_27, h0_28, h0_29, h0_30, h0_31, h0_32, h0_33, h0_34, h0_35, h0_36, h0_37, h0_38, h0_39, h0_40, h0_41, h0_42, h0_43, h0_44, h0_45, h0_46, h0_47, h0_48, h0_49, h0_50, h0_51, h0_52, h0_53, h0_54, h0_55])), (bs, .inl (cI, 16400, .inl (upd (upd (upd (upd (upd (upd (upd (upd (upd (upd (upd (upd (upd (upd f 0 ((va >>> (24 &&& 31)) &&& 255)) 1 ((va >>> (16 &&& 31)) &&& 255)) 2 ((va >>> (8 &&& 31)) &&& 255)) 3 ((va >>> (0 &&& 31)) &&& 255)) 4 ((vb >>> (24 &&& 31)) &&& 255)) 5 ((vb >>> (16 &&& 31)) &&& 255)) 6 ((vb >>> (8 &&& 31)) &&& 255)) 7 ((vb >>> (0 &&& 31)) &&& 255)) 8 ((vc >>> (24 &&& 31)) &&& 255)) 9 ((vc >>> (16 &&& 31)) &&& 255)) 10 ((vc >>> (8 &&& 31)) &&& 255)) 11 ((vc >>> (0 &&& 31)) &&& 255)) 12 ((vd >>> (24 &&& 31)) &&& 255)) 13 ((vd >>> (16 &&& 31)) &&& 255))))] := hD
  refine lv_aload_n hx hb d_ProofDeskModel_feed_99 rfl (lv_at hl 2 rfl) ?_
  refine lv_dup hx hb d_ProofDeskModel_feed_100 rfl ?_
  refine va_get (D := D) (ci := 16) (v := .int 13) (C := "ProofDeskModel") (T := F_ProofDeskModel) (N := 56) hx hb hts in_ProofDeskModel hown hK hP 0 rfl rfl 2 (by decide) (hts _ kw_2126) (fun _ h9 => h9) rfl d_ProofDeskModel_feed_101 ?_
  refine lv_iconst (v := 1) hx hb d_ProofDeskModel_feed_104 (by decide) ?_
  refine lv_iadd hx hb d_ProofDeskModel_feed_105 ?_
  refine zz_i (y := 14) (by decide +kernel) ?_
  refine va_put (D := D) (ci := 16) (v := .int 14) (ty := .int) (C := "ProofDeskModel") (T := F_ProofDeskModel) (N := 56) hx hb hts in_ProofDeskModel t_ProofDeskModel t_ProofDeskModel_ok n_ProofDeskModel hown hK hP hD hS 0 rfl rfl 2 (by decide) (hts _ kw_2126) (fun _ h9 => h9) rfl (by decide +kernel) rfl rfl (Nat.le_of_ble_eq_true rfl) d_ProofDeskModel_feed_106 (fun H locs hP hD hS => ?_)
  have hP : va_P D zcl [(h0, .inr (16, [h0_0, .ref bs, .int 14, h0_3, h0_4, h0_5, h0_6, h0_7, h0_8, h0_9, h0_10, h0_11, h0_12, h0_13, h0_14, h0_15, h0_16, h0_17, h0_18, h0_19, h0_20, h0_21, h0_22, h0_23, h0_24, h0_25, h0_26, h0_27, h0_28, h0_29, h0_30, h0_31, h0_32, h0_33, h0_34, h0_35, h0_36, h0_37, h0_38, h0_39, h0_40, h0_41, h0_42, h0_43, h0_44, h0_45, h0_46, h0_47, h0_48, h0_49, h0_50, h0_51, h0_52, h0_53, h0_54, h0_55])), (bs, .inl (cI, 16400, .inl (upd (upd (upd (upd (upd (upd (upd (upd (upd (upd (upd (upd (upd (upd f 0 ((va >>> (24 &&& 31)) &&& 255)) 1 ((va >>> (16 &&& 31)) &&& 255)) 2 ((va >>> (8 &&& 31)) &&& 255)) 3 ((va >>> (0 &&& 31)) &&& 255)) 4 ((vb >>> (24 &&& 31)) &&& 255)) 5 ((vb >>> (16 &&& 31)) &&& 255)) 6 ((vb >>> (8 &&& 31)) &&& 255)) 7 ((vb >>> (0 &&& 31)) &&& 255)) 8 ((vc >>> (24 &&& 31)) &&& 255)) 9 ((vc >>> (16 &&& 31)) &&& 255)) 10 ((vc >>> (8 &&& 31)) &&& 255)) 11 ((vc >>> (0 &&& 31)) &&& 255)) 12 ((vd >>> (24 &&& 31)) &&& 255)) 13 ((vd >>> (16 &&& 31)) &&& 255))))] H := hP
  have hD : va_D A [(h0, .inr (16, [h0_0, .ref bs, .int 14, h0_3, h0_4, h0_5, h0_6, h0_7, h0_8, h0_9, h0_10, h0_11, h0_12, h0_13, h0_14, h0_15, h0_16, h0_17, h0_18, h0_19, h0_20, h0_21, h0_22, h0_23, h0_24, h0_25, h0_26, h0_27, h0_28, h0_29, h0_30, h0_31, h0_32, h0_33, h0_34, h0_35, h0_36, h0_37, h0_38, h0_39, h0_40, h0_41, h0_42, h0_43, h0_44, h0_45, h0_46, h0_47, h0_48, h0_49, h0_50, h0_51, h0_52, h0_53, h0_54, h0_55])), (bs, .inl (cI, 16400, .inl (upd (upd (upd (upd (upd (upd (upd (upd (upd (upd (upd (upd (upd (upd f 0 ((va >>> (24 &&& 31)) &&& 255)) 1 ((va >>> (16 &&& 31)) &&& 255)) 2 ((va >>> (8 &&& 31)) &&& 255)) 3 ((va >>> (0 &&& 31)) &&& 255)) 4 ((vb >>> (24 &&& 31)) &&& 255)) 5 ((vb >>> (16 &&& 31)) &&& 255)) 6 ((vb >>> (8 &&& 31)) &&& 255)) 7 ((vb >>> (0 &&& 31)) &&& 255)) 8 ((vc >>> (24 &&& 31)) &&& 255)) 9 ((vc >>> (16 &&& 31)) &&& 255)) 10 ((vc >>> (8 &&& 31)) &&& 255)) 11 ((vc >>> (0 &&& 31)) &&& 255)) 12 ((vd >>> (24 &&& 31)) &&& 255)) 13 ((vd >>> (16 &&& 31)) &&& 255))))] := hD
  refine lv_iinc (k := 1) (v := 14) (lv' := [(6, .int 14), (7, .int vd), (0, .ref h0), (1, .int va), (2, .int vb), (3, .int vc), (4, .int vd), (5, .int ve)]) hx hb d_ProofDeskModel_feed_109 hl rfl (by decide +kernel) (by decide) rfl (fun ls hl => ?_)
  refine lv_goto hx hb d_ProofDeskModel_feed_112 rfl ?_
  refine lv_iload hx hb d_ProofDeskModel_feed_18 (lv_at hl 0 rfl) ?_
  refine lv_bipush (v := 20) hx hb d_ProofDeskModel_feed_20 (by decide) ?_
  have hc_48 : ¬ (20 : Int32) ≤ 14 := by decide +kernel
  refine lv_icmp_ge hx hb d_ProofDeskModel_feed_22 rfl (fun h => absurd h hc_48) (fun _ => ?_)
  refine lv_iload hx hb d_ProofDeskModel_feed_25 (lv_at hl 0 rfl) ?_
  refine lv_iconst (v := 4) hx hb d_ProofDeskModel_feed_27 (by decide) ?_
  have hc_49 : (4 : Int32) ≤ 14 := by decide +kernel
  refine lv_icmp_ge hx hb d_ProofDeskModel_feed_28 rfl (fun _ => ?_) (fun h => absurd hc_49 h)
  refine lv_iload hx hb d_ProofDeskModel_feed_35 (lv_at hl 0 rfl) ?_
  refine lv_bipush (v := 8) hx hb d_ProofDeskModel_feed_37 (by decide) ?_
  have hc_50 : (8 : Int32) ≤ 14 := by decide +kernel
  refine lv_icmp_ge hx hb d_ProofDeskModel_feed_39 rfl (fun _ => ?_) (fun h => absurd hc_50 h)
  refine lv_iload hx hb d_ProofDeskModel_feed_46 (lv_at hl 0 rfl) ?_
  refine lv_bipush (v := 12) hx hb d_ProofDeskModel_feed_48 (by decide) ?_
  have hc_51 : (12 : Int32) ≤ 14 := by decide +kernel
  refine lv_icmp_ge hx hb d_ProofDeskModel_feed_50 rfl (fun _ => ?_) (fun h => absurd hc_51 h)
  refine lv_iload hx hb d_ProofDeskModel_feed_57 (lv_at hl 0 rfl) ?_
  refine lv_bipush (v := 16) hx hb d_ProofDeskModel_feed_59 (by decide) ?_
  have hc_52 : ¬ (16 : Int32) ≤ 14 := by decide +kernel
  refine lv_icmp_ge hx hb d_ProofDeskModel_feed_61 rfl (fun h => absurd h hc_52) (fun _ => ?_)
  refine lv_iload hx hb d_ProofDeskModel_feed_64 (lv_at hl 6 rfl) ?_
  refine lv_goto hx hb d_ProofDeskModel_feed_66 rfl ?_
  refine lv_istore (lv' := [(7, .int vd), (6, .int 14), (0, .ref h0), (1, .int va), (2, .int vb), (3, .int vc), (4, .int vd), (5, .int ve)]) hx hb d_ProofDeskModel_feed_71 hl (by decide) rfl (fun ls hl => ?_)
  refine lv_aload_n hx hb d_ProofDeskModel_feed_73 rfl (lv_at hl 2 rfl) ?_
  refine va_get (D := D) (ci := 16) (v := .ref bs) (C := "ProofDeskModel") (T := F_ProofDeskModel) (N := 56) hx hb hts in_ProofDeskModel hown hK hP 0 rfl rfl 1 (by decide) (hts _ kw_2125) (fun _ h9 => h9) rfl d_ProofDeskModel_feed_74 ?_
  refine lv_aload_n hx hb d_ProofDeskModel_feed_77 rfl (lv_at hl 2 rfl) ?_
  refine va_get (D := D) (ci := 16) (v := .int 14) (C := "ProofDeskModel") (T := F_ProofDeskModel) (N := 56) hx hb hts in_ProofDeskModel hown hK hP 0 rfl rfl 2 (by decide) (hts _ kw_2126) (fun _ h9 => h9) rfl d_ProofDeskModel_feed_78 ?_
  refine lv_iload hx hb d_ProofDeskModel_feed_81 (lv_at hl 0 rfl) ?_
  refine lv_bipush (v := 24) hx hb d_ProofDeskModel_feed_83 (by decide) ?_
  refine lv_bipush (v := 8) hx hb d_ProofDeskModel_feed_85 (by decide) ?_
  refine lv_iload hx hb d_ProofDeskModel_feed_87 (lv_at hl 1 rfl) ?_
  refine lv_iconst (v := 4) hx hb d_ProofDeskModel_feed_89 (by decide) ?_
  refine lv_irem hx hb d_ProofDeskModel_feed_90 (by decide) ?_
  refine zz_i (y := 2) (by decide +kernel) ?_
  refine lv_imul hx hb d_ProofDeskModel_feed_91 ?_
  refine zz_i (y := 16) (by decide +kernel) ?_
  refine lv_isub hx hb d_ProofDeskModel_feed_92 ?_
  refine zz_i (y := 8) (by decide +kernel) ?_
  refine lv_ishr hx hb d_ProofDeskModel_feed_93 ?_
  refine lv_sipush (v := 255) hx hb d_ProofDeskModel_feed_94 (by decide) ?_
  refine lv_iand hx hb d_ProofDeskModel_feed_97 ?_
  refine zz_iast hx hb hK hP hD hS 1 0 rfl rfl (i := 14) (x := ((vd >>> (8 &&& 31)) &&& 255)) 14 (⟨by decide +kernel, by decide +kernel, by decide +kernel⟩) d_ProofDeskModel_feed_98 (fun H locs hP hD hS => ?_)
  have hP : va_P D zcl [(h0, .inr (16, [h0_0, .ref bs, .int 14, h0_3, h0_4, h0_5, h0_6, h0_7, h0_8, h0_9, h0_10, h0_11, h0_12, h0_13, h0_14, h0_15, h0_16, h0_17, h0_18, h0_19, h0_20, h0_21, h0_22, h0_23, h0_24, h0_25, h0_26, h0_27, h0_28, h0_29, h0_30, h0_31, h0_32, h0_33, h0_34, h0_35, h0_36, h0_37, h0_38, h0_39, h0_40, h0_41, h0_42, h0_43, h0_44, h0_45, h0_46, h0_47, h0_48, h0_49, h0_50, h0_51, h0_52, h0_53, h0_54, h0_55])), (bs, .inl (cI, 16400, .inl (upd (upd (upd (upd (upd (upd (upd (upd (upd (upd (upd (upd (upd (upd (upd f 0 ((va >>> (24 &&& 31)) &&& 255)) 1 ((va >>> (16 &&& 31)) &&& 255)) 2 ((va >>> (8 &&& 31)) &&& 255)) 3 ((va >>> (0 &&& 31)) &&& 255)) 4 ((vb >>> (24 &&& 31)) &&& 255)) 5 ((vb >>> (16 &&& 31)) &&& 255)) 6 ((vb >>> (8 &&& 31)) &&& 255)) 7 ((vb >>> (0 &&& 31)) &&& 255)) 8 ((vc >>> (24 &&& 31)) &&& 255)) 9 ((vc >>> (16 &&& 31)) &&& 255)) 10 ((vc >>> (8 &&& 31)) &&& 255)) 11 ((vc >>> (0 &&& 31)) &&& 255)) 12 ((vd >>> (24 &&& 31)) &&& 255)) 13 ((vd >>> (16 &&& 31)) &&& 255)) 14 ((vd >>> (8 &&& 31)) &&& 255))))] H := hP
  have hD : va_D A [(h0, .inr (16, [h0_0, .ref bs, .int 14, h0_3, h0_4, h0_5, h0_6, h0_7, h0_8, h0_9, h0_10, h0_11, h0_12, h0_13, h0_14, h0_15, h0_16, h0_17, h0_18, h0_19, h0_20, h0_21, h0_22, h0_23, h0_24, h0_25, h0_26, h0_27, h0_28, h0_29, h0_30, h0_31, h0_32, h0_33, h0_34, h0_35, h0_36, h0_37, h0_38, h0_39, h0_40, h0_41, h0_42, h0_43, h0_44, h0_45, h0_46, h0_47, h0_48, h0_49, h0_50, h0_51, h0_52, h0_53, h0_54, h0_55])), (bs, .inl (cI, 16400, .inl (upd (upd (upd (upd (upd (upd (upd (upd (upd (upd (upd (upd (upd (upd (upd f 0 ((va >>> (24 &&& 31)) &&& 255)) 1 ((va >>> (16 &&& 31)) &&& 255)) 2 ((va >>> (8 &&& 31)) &&& 255)) 3 ((va >>> (0 &&& 31)) &&& 255)) 4 ((vb >>> (24 &&& 31)) &&& 255)) 5 ((vb >>> (16 &&& 31)) &&& 255)) 6 ((vb >>> (8 &&& 31)) &&& 255)) 7 ((vb >>> (0 &&& 31)) &&& 255)) 8 ((vc >>> (24 &&& 31)) &&& 255)) 9 ((vc >>> (16 &&& 31)) &&& 255)) 10 ((vc >>> (8 &&& 31)) &&& 255)) 11 ((vc >>> (0 &&& 31)) &&& 255)) 12 ((vd >>> (24 &&& 31)) &&& 255)) 13 ((vd >>> (16 &&& 31)) &&& 255)) 14 ((vd >>> (8 &&& 31)) &&& 255))))] := hD
  refine lv_aload_n hx hb d_ProofDeskModel_feed_99 rfl (lv_at hl 2 rfl) ?_
  refine lv_dup hx hb d_ProofDeskModel_feed_100 rfl ?_
  refine va_get (D := D) (ci := 16) (v := .int 14) (C := "ProofDeskModel") (T := F_ProofDeskModel) (N := 56) hx hb hts in_ProofDeskModel hown hK hP 0 rfl rfl 2 (by decide) (hts _ kw_2126) (fun _ h9 => h9) rfl d_ProofDeskModel_feed_101 ?_
  refine lv_iconst (v := 1) hx hb d_ProofDeskModel_feed_104 (by decide) ?_
  refine lv_iadd hx hb d_ProofDeskModel_feed_105 ?_
  refine zz_i (y := 15) (by decide +kernel) ?_
  refine va_put (D := D) (ci := 16) (v := .int 15) (ty := .int) (C := "ProofDeskModel") (T := F_ProofDeskModel) (N := 56) hx hb hts in_ProofDeskModel t_ProofDeskModel t_ProofDeskModel_ok n_ProofDeskModel hown hK hP hD hS 0 rfl rfl 2 (by decide) (hts _ kw_2126) (fun _ h9 => h9) rfl (by decide +kernel) rfl rfl (Nat.le_of_ble_eq_true rfl) d_ProofDeskModel_feed_106 (fun H locs hP hD hS => ?_)
  have hP : va_P D zcl [(h0, .inr (16, [h0_0, .ref bs, .int 15, h0_3, h0_4, h0_5, h0_6, h0_7, h0_8, h0_9, h0_10, h0_11, h0_12, h0_13, h0_14, h0_15, h0_16, h0_17, h0_18, h0_19, h0_20, h0_21, h0_22, h0_23, h0_24, h0_25, h0_26, h0_27, h0_28, h0_29, h0_30, h0_31, h0_32, h0_33, h0_34, h0_35, h0_36, h0_37, h0_38, h0_39, h0_40, h0_41, h0_42, h0_43, h0_44, h0_45, h0_46, h0_47, h0_48, h0_49, h0_50, h0_51, h0_52, h0_53, h0_54, h0_55])), (bs, .inl (cI, 16400, .inl (upd (upd (upd (upd (upd (upd (upd (upd (upd (upd (upd (upd (upd (upd (upd f 0 ((va >>> (24 &&& 31)) &&& 255)) 1 ((va >>> (16 &&& 31)) &&& 255)) 2 ((va >>> (8 &&& 31)) &&& 255)) 3 ((va >>> (0 &&& 31)) &&& 255)) 4 ((vb >>> (24 &&& 31)) &&& 255)) 5 ((vb >>> (16 &&& 31)) &&& 255)) 6 ((vb >>> (8 &&& 31)) &&& 255)) 7 ((vb >>> (0 &&& 31)) &&& 255)) 8 ((vc >>> (24 &&& 31)) &&& 255)) 9 ((vc >>> (16 &&& 31)) &&& 255)) 10 ((vc >>> (8 &&& 31)) &&& 255)) 11 ((vc >>> (0 &&& 31)) &&& 255)) 12 ((vd >>> (24 &&& 31)) &&& 255)) 13 ((vd >>> (16 &&& 31)) &&& 255)) 14 ((vd >>> (8 &&& 31)) &&& 255))))] H := hP
  have hD : va_D A [(h0, .inr (16, [h0_0, .ref bs, .int 15, h0_3, h0_4, h0_5, h0_6, h0_7, h0_8, h0_9, h0_10, h0_11, h0_12, h0_13, h0_14, h0_15, h0_16, h0_17, h0_18, h0_19, h0_20, h0_21, h0_22, h0_23, h0_24, h0_25, h0_26, h0_27, h0_28, h0_29, h0_30, h0_31, h0_32, h0_33, h0_34, h0_35, h0_36, h0_37, h0_38, h0_39, h0_40, h0_41, h0_42, h0_43, h0_44, h0_45, h0_46, h0_47, h0_48, h0_49, h0_50, h0_51, h0_52, h0_53, h0_54, h0_55])), (bs, .inl (cI, 16400, .inl (upd (upd (upd (upd (upd (upd (upd (upd (upd (upd (upd (upd (upd (upd (upd f 0 ((va >>> (24 &&& 31)) &&& 255)) 1 ((va >>> (16 &&& 31)) &&& 255)) 2 ((va >>> (8 &&& 31)) &&& 255)) 3 ((va >>> (0 &&& 31)) &&& 255)) 4 ((vb >>> (24 &&& 31)) &&& 255)) 5 ((vb >>> (16 &&& 31)) &&& 255)) 6 ((vb >>> (8 &&& 31)) &&& 255)) 7 ((vb >>> (0 &&& 31)) &&& 255)) 8 ((vc >>> (24 &&& 31)) &&& 255)) 9 ((vc >>> (16 &&& 31)) &&& 255)) 10 ((vc >>> (8 &&& 31)) &&& 255)) 11 ((vc >>> (0 &&& 31)) &&& 255)) 12 ((vd >>> (24 &&& 31)) &&& 255)) 13 ((vd >>> (16 &&& 31)) &&& 255)) 14 ((vd >>> (8 &&& 31)) &&& 255))))] := hD
  refine lv_iinc (k := 1) (v := 15) (lv' := [(6, .int 15), (7, .int vd), (0, .ref h0), (1, .int va), (2, .int vb), (3, .int vc), (4, .int vd), (5, .int ve)]) hx hb d_ProofDeskModel_feed_109 hl rfl (by decide +kernel) (by decide) rfl (fun ls hl => ?_)
  refine lv_goto hx hb d_ProofDeskModel_feed_112 rfl ?_
  refine lv_iload hx hb d_ProofDeskModel_feed_18 (lv_at hl 0 rfl) ?_
  refine lv_bipush (v := 20) hx hb d_ProofDeskModel_feed_20 (by decide) ?_
  have hc_53 : ¬ (20 : Int32) ≤ 15 := by decide +kernel
  refine lv_icmp_ge hx hb d_ProofDeskModel_feed_22 rfl (fun h => absurd h hc_53) (fun _ => ?_)
  refine lv_iload hx hb d_ProofDeskModel_feed_25 (lv_at hl 0 rfl) ?_
  refine lv_iconst (v := 4) hx hb d_ProofDeskModel_feed_27 (by decide) ?_
  have hc_54 : (4 : Int32) ≤ 15 := by decide +kernel
  refine lv_icmp_ge hx hb d_ProofDeskModel_feed_28 rfl (fun _ => ?_) (fun h => absurd hc_54 h)
  refine lv_iload hx hb d_ProofDeskModel_feed_35 (lv_at hl 0 rfl) ?_
  refine lv_bipush (v := 8) hx hb d_ProofDeskModel_feed_37 (by decide) ?_
  have hc_55 : (8 : Int32) ≤ 15 := by decide +kernel
  refine lv_icmp_ge hx hb d_ProofDeskModel_feed_39 rfl (fun _ => ?_) (fun h => absurd hc_55 h)
  refine lv_iload hx hb d_ProofDeskModel_feed_46 (lv_at hl 0 rfl) ?_
  refine lv_bipush (v := 12) hx hb d_ProofDeskModel_feed_48 (by decide) ?_
  have hc_56 : (12 : Int32) ≤ 15 := by decide +kernel
  refine lv_icmp_ge hx hb d_ProofDeskModel_feed_50 rfl (fun _ => ?_) (fun h => absurd hc_56 h)
  refine lv_iload hx hb d_ProofDeskModel_feed_57 (lv_at hl 0 rfl) ?_
  refine lv_bipush (v := 16) hx hb d_ProofDeskModel_feed_59 (by decide) ?_
  have hc_57 : ¬ (16 : Int32) ≤ 15 := by decide +kernel
  refine lv_icmp_ge hx hb d_ProofDeskModel_feed_61 rfl (fun h => absurd h hc_57) (fun _ => ?_)
  refine lv_iload hx hb d_ProofDeskModel_feed_64 (lv_at hl 6 rfl) ?_
  refine lv_goto hx hb d_ProofDeskModel_feed_66 rfl ?_
  refine lv_istore (lv' := [(7, .int vd), (6, .int 15), (0, .ref h0), (1, .int va), (2, .int vb), (3, .int vc), (4, .int vd), (5, .int ve)]) hx hb d_ProofDeskModel_feed_71 hl (by decide) rfl (fun ls hl => ?_)
  refine lv_aload_n hx hb d_ProofDeskModel_feed_73 rfl (lv_at hl 2 rfl) ?_
  refine va_get (D := D) (ci := 16) (v := .ref bs) (C := "ProofDeskModel") (T := F_ProofDeskModel) (N := 56) hx hb hts in_ProofDeskModel hown hK hP 0 rfl rfl 1 (by decide) (hts _ kw_2125) (fun _ h9 => h9) rfl d_ProofDeskModel_feed_74 ?_
  refine lv_aload_n hx hb d_ProofDeskModel_feed_77 rfl (lv_at hl 2 rfl) ?_
  refine va_get (D := D) (ci := 16) (v := .int 15) (C := "ProofDeskModel") (T := F_ProofDeskModel) (N := 56) hx hb hts in_ProofDeskModel hown hK hP 0 rfl rfl 2 (by decide) (hts _ kw_2126) (fun _ h9 => h9) rfl d_ProofDeskModel_feed_78 ?_
  refine lv_iload hx hb d_ProofDeskModel_feed_81 (lv_at hl 0 rfl) ?_
  refine lv_bipush (v := 24) hx hb d_ProofDeskModel_feed_83 (by decide) ?_
  refine lv_bipush (v := 8) hx hb d_ProofDeskModel_feed_85 (by decide) ?_
  refine lv_iload hx hb d_ProofDeskModel_feed_87 (lv_at hl 1 rfl) ?_
  refine lv_iconst (v := 4) hx hb d_ProofDeskModel_feed_89 (by decide) ?_
  refine lv_irem hx hb d_ProofDeskModel_feed_90 (by decide) ?_
  refine zz_i (y := 3) (by decide +kernel) ?_
  refine lv_imul hx hb d_ProofDeskModel_feed_91 ?_
  refine zz_i (y := 24) (by decide +kernel) ?_
  refine lv_isub hx hb d_ProofDeskModel_feed_92 ?_
  refine zz_i (y := 0) (by decide +kernel) ?_
  refine lv_ishr hx hb d_ProofDeskModel_feed_93 ?_
  refine lv_sipush (v := 255) hx hb d_ProofDeskModel_feed_94 (by decide) ?_
  refine lv_iand hx hb d_ProofDeskModel_feed_97 ?_
  refine zz_iast hx hb hK hP hD hS 1 0 rfl rfl (i := 15) (x := ((vd >>> (0 &&& 31)) &&& 255)) 15 (⟨by decide +kernel, by decide +kernel, by decide +kernel⟩) d_ProofDeskModel_feed_98 (fun H locs hP hD hS => ?_)
  have hP : va_P D zcl [(h0, .inr (16, [h0_0, .ref bs, .int 15, h0_3, h0_4, h0_5, h0_6, h0_7, h0_8, h0_9, h0_10, h0_11, h0_12, h0_13, h0_14, h0_15, h0_16, h0_17, h0_18, h0_19, h0_20, h0_21, h0_22, h0_23, h0_24, h0_25, h0_26, h0_27, h0_28, h0_29, h0_30, h0_31, h0_32, h0_33, h0_34, h0_35, h0_36, h0_37, h0_38, h0_39, h0_40, h0_41, h0_42, h0_43, h0_44, h0_45, h0_46, h0_47, h0_48, h0_49, h0_50, h0_51, h0_52, h0_53, h0_54, h0_55])), (bs, .inl (cI, 16400, .inl (upd (upd (upd (upd (upd (upd (upd (upd (upd (upd (upd (upd (upd (upd (upd (upd f 0 ((va >>> (24 &&& 31)) &&& 255)) 1 ((va >>> (16 &&& 31)) &&& 255)) 2 ((va >>> (8 &&& 31)) &&& 255)) 3 ((va >>> (0 &&& 31)) &&& 255)) 4 ((vb >>> (24 &&& 31)) &&& 255)) 5 ((vb >>> (16 &&& 31)) &&& 255)) 6 ((vb >>> (8 &&& 31)) &&& 255)) 7 ((vb >>> (0 &&& 31)) &&& 255)) 8 ((vc >>> (24 &&& 31)) &&& 255)) 9 ((vc >>> (16 &&& 31)) &&& 255)) 10 ((vc >>> (8 &&& 31)) &&& 255)) 11 ((vc >>> (0 &&& 31)) &&& 255)) 12 ((vd >>> (24 &&& 31)) &&& 255)) 13 ((vd >>> (16 &&& 31)) &&& 255)) 14 ((vd >>> (8 &&& 31)) &&& 255)) 15 ((vd >>> (0 &&& 31)) &&& 255))))] H := hP
  have hD : va_D A [(h0, .inr (16, [h0_0, .ref bs, .int 15, h0_3, h0_4, h0_5, h0_6, h0_7, h0_8, h0_9, h0_10, h0_11, h0_12, h0_13, h0_14, h0_15, h0_16, h0_17, h0_18, h0_19, h0_20, h0_21, h0_22, h0_23, h0_24, h0_25, h0_26, h0_27, h0_28, h0_29, h0_30, h0_31, h0_32, h0_33, h0_34, h0_35, h0_36, h0_37, h0_38, h0_39, h0_40, h0_41, h0_42, h0_43, h0_44, h0_45, h0_46, h0_47, h0_48, h0_49, h0_50, h0_51, h0_52, h0_53, h0_54, h0_55])), (bs, .inl (cI, 16400, .inl (upd (upd (upd (upd (upd (upd (upd (upd (upd (upd (upd (upd (upd (upd (upd (upd f 0 ((va >>> (24 &&& 31)) &&& 255)) 1 ((va >>> (16 &&& 31)) &&& 255)) 2 ((va >>> (8 &&& 31)) &&& 255)) 3 ((va >>> (0 &&& 31)) &&& 255)) 4 ((vb >>> (24 &&& 31)) &&& 255)) 5 ((vb >>> (16 &&& 31)) &&& 255)) 6 ((vb >>> (8 &&& 31)) &&& 255)) 7 ((vb >>> (0 &&& 31)) &&& 255)) 8 ((vc >>> (24 &&& 31)) &&& 255)) 9 ((vc >>> (16 &&& 31)) &&& 255)) 10 ((vc >>> (8 &&& 31)) &&& 255)) 11 ((vc >>> (0 &&& 31)) &&& 255)) 12 ((vd >>> (24 &&& 31)) &&& 255)) 13 ((vd >>> (16 &&& 31)) &&& 255)) 14 ((vd >>> (8 &&& 31)) &&& 255)) 15 ((vd >>> (0 &&& 31)) &&& 255))))] := hD
  refine lv_aload_n hx hb d_ProofDeskModel_feed_99 rfl (lv_at hl 2 rfl) ?_
  refine lv_dup hx hb d_ProofDeskModel_feed_100 rfl ?_
  refine va_get (D := D) (ci := 16) (v := .int 15) (C := "ProofDeskModel") (T := F_ProofDeskModel) (N := 56) hx hb hts in_ProofDeskModel hown hK hP 0 rfl rfl 2 (by decide) (hts _ kw_2126) (fun _ h9 => h9) rfl d_ProofDeskModel_feed_101 ?_
  refine lv_iconst (v := 1) hx hb d_ProofDeskModel_feed_104 (by decide) ?_
  refine lv_iadd hx hb d_ProofDeskModel_feed_105 ?_
  refine zz_i (y := 16) (by decide +kernel) ?_
  refine va_put (D := D) (ci := 16) (v := .int 16) (ty := .int) (C := "ProofDeskModel") (T := F_ProofDeskModel) (N := 56) hx hb hts in_ProofDeskModel t_ProofDeskModel t_ProofDeskModel_ok n_ProofDeskModel hown hK hP hD hS 0 rfl rfl 2 (by decide) (hts _ kw_2126) (fun _ h9 => h9) rfl (by decide +kernel) rfl rfl (Nat.le_of_ble_eq_true rfl) d_ProofDeskModel_feed_106 (fun H locs hP hD hS => ?_)
  have hP : va_P D zcl [(h0, .inr (16, [h0_0, .ref bs, .int 16, h0_3, h0_4, h0_5, h0_6, h0_7, h0_8, h0_9, h0_10, h0_11, h0_12, h0_13, h0_14, h0_15, h0_16, h0_17, h0_18, h0_19, h0_20, h0_21, h0_22, h0_23, h0_24, h0_25, h0_26, h0_27, h0_28, h0_29, h0_30, h0_31, h0_32, h0_33, h0_34, h0_35, h0_36, h0_37, h0_38, h0_39, h0_40, h0_41, h0_42, h0_43, h0_44, h0_45, h0_46, h0_47, h0_48, h0_49, h0_50, h0_51, h0_52, h0_53, h0_54, h0_55])), (bs, .inl (cI, 16400, .inl (upd (upd (upd (upd (upd (upd (upd (upd (upd (upd (upd (upd (upd (upd (upd (upd f 0 ((va >>> (24 &&& 31)) &&& 255)) 1 ((va >>> (16 &&& 31)) &&& 255)) 2 ((va >>> (8 &&& 31)) &&& 255)) 3 ((va >>> (0 &&& 31)) &&& 255)) 4 ((vb >>> (24 &&& 31)) &&& 255)) 5 ((vb >>> (16 &&& 31)) &&& 255)) 6 ((vb >>> (8 &&& 31)) &&& 255)) 7 ((vb >>> (0 &&& 31)) &&& 255)) 8 ((vc >>> (24 &&& 31)) &&& 255)) 9 ((vc >>> (16 &&& 31)) &&& 255)) 10 ((vc >>> (8 &&& 31)) &&& 255)) 11 ((vc >>> (0 &&& 31)) &&& 255)) 12 ((vd >>> (24 &&& 31)) &&& 255)) 13 ((vd >>> (16 &&& 31)) &&& 255)) 14 ((vd >>> (8 &&& 31)) &&& 255)) 15 ((vd >>> (0 &&& 31)) &&& 255))))] H := hP
  have hD : va_D A [(h0, .inr (16, [h0_0, .ref bs, .int 16, h0_3, h0_4, h0_5, h0_6, h0_7, h0_8, h0_9, h0_10, h0_11, h0_12, h0_13, h0_14, h0_15, h0_16, h0_17, h0_18, h0_19, h0_20, h0_21, h0_22, h0_23, h0_24, h0_25, h0_26, h0_27, h0_28, h0_29, h0_30, h0_31, h0_32, h0_33, h0_34, h0_35, h0_36, h0_37, h0_38, h0_39, h0_40, h0_41, h0_42, h0_43, h0_44, h0_45, h0_46, h0_47, h0_48, h0_49, h0_50, h0_51, h0_52, h0_53, h0_54, h0_55])), (bs, .inl (cI, 16400, .inl (upd (upd (upd (upd (upd (upd (upd (upd (upd (upd (upd (upd (upd (upd (upd (upd f 0 ((va >>> (24 &&& 31)) &&& 255)) 1 ((va >>> (16 &&& 31)) &&& 255)) 2 ((va >>> (8 &&& 31)) &&& 255)) 3 ((va >>> (0 &&& 31)) &&& 255)) 4 ((vb >>> (24 &&& 31)) &&& 255)) 5 ((vb >>> (16 &&& 31)) &&& 255)) 6 ((vb >>> (8 &&& 31)) &&& 255)) 7 ((vb >>> (0 &&& 31)) &&& 255)) 8 ((vc >>> (24 &&& 31)) &&& 255)) 9 ((vc >>> (16 &&& 31)) &&& 255)) 10 ((vc >>> (8 &&& 31)) &&& 255)) 11 ((vc >>> (0 &&& 31)) &&& 255)) 12 ((vd >>> (24 &&& 31)) &&& 255)) 13 ((vd >>> (16 &&& 31)) &&& 255)) 14 ((vd >>> (8 &&& 31)) &&& 255)) 15 ((vd >>> (0 &&& 31)) &&& 255))))] := hD
  refine lv_iinc (k := 1) (v := 16) (lv' := [(6, .int 16), (7, .int vd), (0, .ref h0), (1, .int va), (2, .int vb), (3, .int vc), (4, .int vd), (5, .int ve)]) hx hb d_ProofDeskModel_feed_109 hl rfl (by decide +kernel) (by decide) rfl (fun ls hl => ?_)
  refine lv_goto hx hb d_ProofDeskModel_feed_112 rfl ?_
  refine lv_iload hx hb d_ProofDeskModel_feed_18 (lv_at hl 0 rfl) ?_
  refine lv_bipush (v := 20) hx hb d_ProofDeskModel_feed_20 (by decide) ?_
  have hc_58 : ¬ (20 : Int32) ≤ 16 := by decide +kernel
  refine lv_icmp_ge hx hb d_ProofDeskModel_feed_22 rfl (fun h => absurd h hc_58) (fun _ => ?_)
  refine lv_iload hx hb d_ProofDeskModel_feed_25 (lv_at hl 0 rfl) ?_
  refine lv_iconst (v := 4) hx hb d_ProofDeskModel_feed_27 (by decide) ?_
  have hc_59 : (4 : Int32) ≤ 16 := by decide +kernel
  refine lv_icmp_ge hx hb d_ProofDeskModel_feed_28 rfl (fun _ => ?_) (fun h => absurd hc_59 h)
  refine lv_iload hx hb d_ProofDeskModel_feed_35 (lv_at hl 0 rfl) ?_
  refine lv_bipush (v := 8) hx hb d_ProofDeskModel_feed_37 (by decide) ?_
  have hc_60 : (8 : Int32) ≤ 16 := by decide +kernel
  refine lv_icmp_ge hx hb d_ProofDeskModel_feed_39 rfl (fun _ => ?_) (fun h => absurd hc_60 h)
  refine lv_iload hx hb d_ProofDeskModel_feed_46 (lv_at hl 0 rfl) ?_
  refine lv_bipush (v := 12) hx hb d_ProofDeskModel_feed_48 (by decide) ?_
  have hc_61 : (12 : Int32) ≤ 16 := by decide +kernel
  refine lv_icmp_ge hx hb d_ProofDeskModel_feed_50 rfl (fun _ => ?_) (fun h => absurd hc_61 h)
  refine lv_iload hx hb d_ProofDeskModel_feed_57 (lv_at hl 0 rfl) ?_
  refine lv_bipush (v := 16) hx hb d_ProofDeskModel_feed_59 (by decide) ?_
  have hc_62 : (16 : Int32) ≤ 16 := by decide +kernel
  refine lv_icmp_ge hx hb d_ProofDeskModel_feed_61 rfl (fun _ => ?_) (fun h => absurd hc_62 h)
  refine lv_iload hx hb d_ProofDeskModel_feed_69 (lv_at hl 7 rfl) ?_
  refine lv_istore (lv' := [(7, .int ve), (6, .int 16), (0, .ref h0), (1, .int va), (2, .int vb), (3, .int vc), (4, .int vd), (5, .int ve)]) hx hb d_ProofDeskModel_feed_71 hl (by decide) rfl (fun ls hl => ?_)
  refine lv_aload_n hx hb d_ProofDeskModel_feed_73 rfl (lv_at hl 2 rfl) ?_
  refine va_get (D := D) (ci := 16) (v := .ref bs) (C := "ProofDeskModel") (T := F_ProofDeskModel) (N := 56) hx hb hts in_ProofDeskModel hown hK hP 0 rfl rfl 1 (by decide) (hts _ kw_2125) (fun _ h9 => h9) rfl d_ProofDeskModel_feed_74 ?_
  refine lv_aload_n hx hb d_ProofDeskModel_feed_77 rfl (lv_at hl 2 rfl) ?_
  refine va_get (D := D) (ci := 16) (v := .int 16) (C := "ProofDeskModel") (T := F_ProofDeskModel) (N := 56) hx hb hts in_ProofDeskModel hown hK hP 0 rfl rfl 2 (by decide) (hts _ kw_2126) (fun _ h9 => h9) rfl d_ProofDeskModel_feed_78 ?_
  refine lv_iload hx hb d_ProofDeskModel_feed_81 (lv_at hl 0 rfl) ?_
  refine lv_bipush (v := 24) hx hb d_ProofDeskModel_feed_83 (by decide) ?_
  refine lv_bipush (v := 8) hx hb d_ProofDeskModel_feed_85 (by decide) ?_
  refine lv_iload hx hb d_ProofDeskModel_feed_87 (lv_at hl 1 rfl) ?_
  refine lv_iconst (v := 4) hx hb d_ProofDeskModel_feed_89 (by decide) ?_
  refine lv_irem hx hb d_ProofDeskModel_feed_90 (by decide) ?_
  refine zz_i (y := 0) (by decide +kernel) ?_
  refine lv_imul hx hb d_ProofDeskModel_feed_91 ?_
  refine zz_i (y := 0) (by decide +kernel) ?_
  refine lv_isub hx hb d_ProofDeskModel_feed_92 ?_
  refine zz_i (y := 24) (by decide +kernel) ?_
  refine lv_ishr hx hb d_ProofDeskModel_feed_93 ?_
  refine lv_sipush (v := 255) hx hb d_ProofDeskModel_feed_94 (by decide) ?_
  refine lv_iand hx hb d_ProofDeskModel_feed_97 ?_
  refine zz_iast hx hb hK hP hD hS 1 0 rfl rfl (i := 16) (x := ((ve >>> (24 &&& 31)) &&& 255)) 16 (⟨by decide +kernel, by decide +kernel, by decide +kernel⟩) d_ProofDeskModel_feed_98 (fun H locs hP hD hS => ?_)
  have hP : va_P D zcl [(h0, .inr (16, [h0_0, .ref bs, .int 16, h0_3, h0_4, h0_5, h0_6, h0_7, h0_8, h0_9, h0_10, h0_11, h0_12, h0_13, h0_14, h0_15, h0_16, h0_17, h0_18, h0_19, h0_20, h0_21, h0_22, h0_23, h0_24, h0_25, h0_26, h0_27, h0_28, h0_29, h0_30, h0_31, h0_32, h0_33, h0_34, h0_35, h0_36, h0_37, h0_38, h0_39, h0_40, h0_41, h0_42, h0_43, h0_44, h0_45, h0_46, h0_47, h0_48, h0_49, h0_50, h0_51, h0_52, h0_53, h0_54, h0_55])), (bs, .inl (cI, 16400, .inl (upd (upd (upd (upd (upd (upd (upd (upd (upd (upd (upd (upd (upd (upd (upd (upd (upd f 0 ((va >>> (24 &&& 31)) &&& 255)) 1 ((va >>> (16 &&& 31)) &&& 255)) 2 ((va >>> (8 &&& 31)) &&& 255)) 3 ((va >>> (0 &&& 31)) &&& 255)) 4 ((vb >>> (24 &&& 31)) &&& 255)) 5 ((vb >>> (16 &&& 31)) &&& 255)) 6 ((vb >>> (8 &&& 31)) &&& 255)) 7 ((vb >>> (0 &&& 31)) &&& 255)) 8 ((vc >>> (24 &&& 31)) &&& 255)) 9 ((vc >>> (16 &&& 31)) &&& 255)) 10 ((vc >>> (8 &&& 31)) &&& 255)) 11 ((vc >>> (0 &&& 31)) &&& 255)) 12 ((vd >>> (24 &&& 31)) &&& 255)) 13 ((vd >>> (16 &&& 31)) &&& 255)) 14 ((vd >>> (8 &&& 31)) &&& 255)) 15 ((vd >>> (0 &&& 31)) &&& 255)) 16 ((ve >>> (24 &&& 31)) &&& 255))))] H := hP
  have hD : va_D A [(h0, .inr (16, [h0_0, .ref bs, .int 16, h0_3, h0_4, h0_5, h0_6, h0_7, h0_8, h0_9, h0_10, h0_11, h0_12, h0_13, h0_14, h0_15, h0_16, h0_17, h0_18, h0_19, h0_20, h0_21, h0_22, h0_23, h0_24, h0_25, h0_26, h0_27, h0_28, h0_29, h0_30, h0_31, h0_32, h0_33, h0_34, h0_35, h0_36, h0_37, h0_38, h0_39, h0_40, h0_41, h0_42, h0_43, h0_44, h0_45, h0_46, h0_47, h0_48, h0_49, h0_50, h0_51, h0_52, h0_53, h0_54, h0_55])), (bs, .inl (cI, 16400, .inl (upd (upd (upd (upd (upd (upd (upd (upd (upd (upd (upd (upd (upd (upd (upd (upd (upd f 0 ((va >>> (24 &&& 31)) &&& 255)) 1 ((va >>> (16 &&& 31)) &&& 255)) 2 ((va >>> (8 &&& 31)) &&& 255)) 3 ((va >>> (0 &&& 31)) &&& 255)) 4 ((vb >>> (24 &&& 31)) &&& 255)) 5 ((vb >>> (16 &&& 31)) &&& 255)) 6 ((vb >>> (8 &&& 31)) &&& 255)) 7 ((vb >>> (0 &&& 31)) &&& 255)) 8 ((vc >>> (24 &&& 31)) &&& 255)) 9 ((vc >>> (16 &&& 31)) &&& 255)) 10 ((vc >>> (8 &&& 31)) &&& 255)) 11 ((vc >>> (0 &&& 31)) &&& 255)) 12 ((vd >>> (24 &&& 31)) &&& 255)) 13 ((vd >>> (16 &&& 31)) &&& 255)) 14 ((vd >>> (8 &&& 31)) &&& 255)) 15 ((vd >>> (0 &&& 31)) &&& 255)) 16 ((ve >>> (24 &&& 31)) &&& 255))))] := hD
  refine lv_aload_n hx hb d_ProofDeskModel_feed_99 rfl (lv_at hl 2 rfl) ?_
  refine lv_dup hx hb d_ProofDeskModel_feed_100 rfl ?_
  refine va_get (D := D) (ci := 16) (v := .int 16) (C := "ProofDeskModel") (T := F_ProofDeskModel) (N := 56) hx hb hts in_ProofDeskModel hown hK hP 0 rfl rfl 2 (by decide) (hts _ kw_2126) (fun _ h9 => h9) rfl d_ProofDeskModel_feed_101 ?_
  refine lv_iconst (v := 1) hx hb d_ProofDeskModel_feed_104 (by decide) ?_
  refine lv_iadd hx hb d_ProofDeskModel_feed_105 ?_
  refine zz_i (y := 17) (by decide +kernel) ?_
  refine va_put (D := D) (ci := 16) (v := .int 17) (ty := .int) (C := "ProofDeskModel") (T := F_ProofDeskModel) (N := 56) hx hb hts in_ProofDeskModel t_ProofDeskModel t_ProofDeskModel_ok n_ProofDeskModel hown hK hP hD hS 0 rfl rfl 2 (by decide) (hts _ kw_2126) (fun _ h9 => h9) rfl (by decide +kernel) rfl rfl (Nat.le_of_ble_eq_true rfl) d_ProofDeskModel_feed_106 (fun H locs hP hD hS => ?_)
  have hP : va_P D zcl [(h0, .inr (16, [h0_0, .ref bs, .int 17, h0_3, h0_4, h0_5, h0_6, h0_7, h0_8, h0_9, h0_10, h0_11, h0_12, h0_13, h0_14, h0_15, h0_16, h0_17, h0_18, h0_19, h0_20, h0_21, h0_22, h0_23, h0_24, h0_25, h0_26, h0_27, h0_28, h0_29, h0_30, h0_31, h0_32, h0_33, h0_34, h0_35, h0_36, h0_37, h0_38, h0_39, h0_40, h0_41, h0_42, h0_43, h0_44, h0_45, h0_46, h0_47, h0_48, h0_49, h0_50, h0_51, h0_52, h0_53, h0_54, h0_55])), (bs, .inl (cI, 16400, .inl (upd (upd (upd (upd (upd (upd (upd (upd (upd (upd (upd (upd (upd (upd (upd (upd (upd f 0 ((va >>> (24 &&& 31)) &&& 255)) 1 ((va >>> (16 &&& 31)) &&& 255)) 2 ((va >>> (8 &&& 31)) &&& 255)) 3 ((va >>> (0 &&& 31)) &&& 255)) 4 ((vb >>> (24 &&& 31)) &&& 255)) 5 ((vb >>> (16 &&& 31)) &&& 255)) 6 ((vb >>> (8 &&& 31)) &&& 255)) 7 ((vb >>> (0 &&& 31)) &&& 255)) 8 ((vc >>> (24 &&& 31)) &&& 255)) 9 ((vc >>> (16 &&& 31)) &&& 255)) 10 ((vc >>> (8 &&& 31)) &&& 255)) 11 ((vc >>> (0 &&& 31)) &&& 255)) 12 ((vd >>> (24 &&& 31)) &&& 255)) 13 ((vd >>> (16 &&& 31)) &&& 255)) 14 ((vd >>> (8 &&& 31)) &&& 255)) 15 ((vd >>> (0 &&& 31)) &&& 255)) 16 ((ve >>> (24 &&& 31)) &&& 255))))] H := hP
  have hD : va_D A [(h0, .inr (16, [h0_0, .ref bs, .int 17, h0_3, h0_4, h0_5, h0_6, h0_7, h0_8, h0_9, h0_10, h0_11, h0_12, h0_13, h0_14, h0_15, h0_16, h0_17, h0_18, h0_19, h0_20, h0_21, h0_22, h0_23, h0_24, h0_25, h0_26, h0_27, h0_28, h0_29, h0_30, h0_31, h0_32, h0_33, h0_34, h0_35, h0_36, h0_37, h0_38, h0_39, h0_40, h0_41, h0_42, h0_43, h0_44, h0_45, h0_46, h0_47, h0_48, h0_49, h0_50, h0_51, h0_52, h0_53, h0_54, h0_55])), (bs, .inl (cI, 16400, .inl (upd (upd (upd (upd (upd (upd (upd (upd (upd (upd (upd (upd (upd (upd (upd (upd (upd f 0 ((va >>> (24 &&& 31)) &&& 255)) 1 ((va >>> (16 &&& 31)) &&& 255)) 2 ((va >>> (8 &&& 31)) &&& 255)) 3 ((va >>> (0 &&& 31)) &&& 255)) 4 ((vb >>> (24 &&& 31)) &&& 255)) 5 ((vb >>> (16 &&& 31)) &&& 255)) 6 ((vb >>> (8 &&& 31)) &&& 255)) 7 ((vb >>> (0 &&& 31)) &&& 255)) 8 ((vc >>> (24 &&& 31)) &&& 255)) 9 ((vc >>> (16 &&& 31)) &&& 255)) 10 ((vc >>> (8 &&& 31)) &&& 255)) 11 ((vc >>> (0 &&& 31)) &&& 255)) 12 ((vd >>> (24 &&& 31)) &&& 255)) 13 ((vd >>> (16 &&& 31)) &&& 255)) 14 ((vd >>> (8 &&& 31)) &&& 255)) 15 ((vd >>> (0 &&& 31)) &&& 255)) 16 ((ve >>> (24 &&& 31)) &&& 255))))] := hD
  refine lv_iinc (k := 1) (v := 17) (lv' := [(6, .int 17), (7, .int ve), (0, .ref h0), (1, .int va), (2, .int vb), (3, .int vc), (4, .int vd), (5, .int ve)]) hx hb d_ProofDeskModel_feed_109 hl rfl (by decide +kernel) (by decide) rfl (fun ls hl => ?_)
  refine lv_goto hx hb d_ProofDeskModel_feed_112 rfl ?_
  refine lv_iload hx hb d_ProofDeskModel_feed_18 (lv_at hl 0 rfl) ?_
  refine lv_bipush (v := 20) hx hb d_ProofDeskModel_feed_20 (by decide) ?_
  have hc_63 : ¬ (20 : Int32) ≤ 17 := by decide +kernel
  refine lv_icmp_ge hx hb d_ProofDeskModel_feed_22 rfl (fun h => absurd h hc_63) (fun _ => ?_)
  refine lv_iload hx hb d_ProofDeskModel_feed_25 (lv_at hl 0 rfl) ?_
  refine lv_iconst (v := 4) hx hb d_ProofDeskModel_feed_27 (by decide) ?_
  have hc_64 : (4 : Int32) ≤ 17 := by decide +kernel
  refine lv_icmp_ge hx hb d_ProofDeskModel_feed_28 rfl (fun _ => ?_) (fun h => absurd hc_64 h)
  refine lv_iload hx hb d_ProofDeskModel_feed_35 (lv_at hl 0 rfl) ?_
  refine lv_bipush (v := 8) hx hb d_ProofDeskModel_feed_37 (by decide) ?_
  have hc_65 : (8 : Int32) ≤ 17 := by decide +kernel
  refine lv_icmp_ge hx hb d_ProofDeskModel_feed_39 rfl (fun _ => ?_) (fun h => absurd hc_65 h)
  refine lv_iload hx hb d_ProofDeskModel_feed_46 (lv_at hl 0 rfl) ?_
  refine lv_bipush (v := 12) hx hb d_ProofDeskModel_feed_48 (by decide) ?_
  have hc_66 : (12 : Int32) ≤ 17 := by decide +kernel
  refine lv_icmp_ge hx hb d_ProofDeskModel_feed_50 rfl (fun _ => ?_) (fun h => absurd hc_66 h)
  refine lv_iload hx hb d_ProofDeskModel_feed_57 (lv_at hl 0 rfl) ?_
  refine lv_bipush (v := 16) hx hb d_ProofDeskModel_feed_59 (by decide) ?_
  have hc_67 : (16 : Int32) ≤ 17 := by decide +kernel
  refine lv_icmp_ge hx hb d_ProofDeskModel_feed_61 rfl (fun _ => ?_) (fun h => absurd hc_67 h)
  refine lv_iload hx hb d_ProofDeskModel_feed_69 (lv_at hl 7 rfl) ?_
  refine lv_istore (lv' := [(7, .int ve), (6, .int 17), (0, .ref h0), (1, .int va), (2, .int vb), (3, .int vc), (4, .int vd), (5, .int ve)]) hx hb d_ProofDeskModel_feed_71 hl (by decide) rfl (fun ls hl => ?_)
  refine lv_aload_n hx hb d_ProofDeskModel_feed_73 rfl (lv_at hl 2 rfl) ?_
  refine va_get (D := D) (ci := 16) (v := .ref bs) (C := "ProofDeskModel") (T := F_ProofDeskModel) (N := 56) hx hb hts in_ProofDeskModel hown hK hP 0 rfl rfl 1 (by decide) (hts _ kw_2125) (fun _ h9 => h9) rfl d_ProofDeskModel_feed_74 ?_
  refine lv_aload_n hx hb d_ProofDeskModel_feed_77 rfl (lv_at hl 2 rfl) ?_
  refine va_get (D := D) (ci := 16) (v := .int 17) (C := "ProofDeskModel") (T := F_ProofDeskModel) (N := 56) hx hb hts in_ProofDeskModel hown hK hP 0 rfl rfl 2 (by decide) (hts _ kw_2126) (fun _ h9 => h9) rfl d_ProofDeskModel_feed_78 ?_
  refine lv_iload hx hb d_ProofDeskModel_feed_81 (lv_at hl 0 rfl) ?_
  refine lv_bipush (v := 24) hx hb d_ProofDeskModel_feed_83 (by decide) ?_
  refine lv_bipush (v := 8) hx hb d_ProofDeskModel_feed_85 (by decide) ?_
  refine lv_iload hx hb d_ProofDeskModel_feed_87 (lv_at hl 1 rfl) ?_
  refine lv_iconst (v := 4) hx hb d_ProofDeskModel_feed_89 (by decide) ?_
  refine lv_irem hx hb d_ProofDeskModel_feed_90 (by decide) ?_
  refine zz_i (y := 1) (by decide +kernel) ?_
  refine lv_imul hx hb d_ProofDeskModel_feed_91 ?_
  refine zz_i (y := 8) (by decide +kernel) ?_
  refine lv_isub hx hb d_ProofDeskModel_feed_92 ?_
  refine zz_i (y := 16) (by decide +kernel) ?_
  refine lv_ishr hx hb d_ProofDeskModel_feed_93 ?_
  refine lv_sipush (v := 255) hx hb d_ProofDeskModel_feed_94 (by decide) ?_
  refine lv_iand hx hb d_ProofDeskModel_feed_97 ?_
  refine zz_iast hx hb hK hP hD hS 1 0 rfl rfl (i := 17) (x := ((ve >>> (16 &&& 31)) &&& 255)) 17 (⟨by decide +kernel, by decide +kernel, by decide +kernel⟩) d_ProofDeskModel_feed_98 (fun H locs hP hD hS => ?_)
  have hP : va_P D zcl [(h0, .inr (16, [h0_0, .ref bs, .int 17, h0_3, h0_4, h0_5, h0_6, h0_7, h0_8, h0_9, h0_10, h0_11, h0_12, h0_13, h0_14, h0_15, h0_16, h0_17, h0_18, h0_19, h0_20, h0_21, h0_22, h0_23, h0_24, h0_25, h0_26, h0_27, h0_28, h0_29, h0_30, h0_31, h0_32, h0_33, h0_34, h0_35, h0_36, h0_37, h0_38, h0_39, h0_40, h0_41, h0_42, h0_43, h0_44, h0_45, h0_46, h0_47, h0_48, h0_49, h0_50, h0_51, h0_52, h0_53, h0_54, h0_55])), (bs, .inl (cI, 16400, .inl (upd (upd (upd (upd (upd (upd (upd (upd (upd (upd (upd (upd (upd (upd (upd (upd (upd (upd f 0 ((va >>> (24 &&& 31)) &&& 255)) 1 ((va >>> (16 &&& 31)) &&& 255)) 2 ((va >>> (8 &&& 31)) &&& 255)) 3 ((va >>> (0 &&& 31)) &&& 255)) 4 ((vb >>> (24 &&& 31)) &&& 255)) 5 ((vb >>> (16 &&& 31)) &&& 255)) 6 ((vb >>> (8 &&& 31)) &&& 255)) 7 ((vb >>> (0 &&& 31)) &&& 255)) 8 ((vc >>> (24 &&& 31)) &&& 255)) 9 ((vc >>> (16 &&& 31)) &&& 255)) 10 ((vc >>> (8 &&& 31)) &&& 255)) 11 ((vc >>> (0 &&& 31)) &&& 255)) 12 ((vd >>> (24 &&& 31)) &&& 255)) 13 ((vd >>> (16 &&& 31)) &&& 255)) 14 ((vd >>> (8 &&& 31)) &&& 255)) 15 ((vd >>> (0 &&& 31)) &&& 255)) 16 ((ve >>> (24 &&& 31)) &&& 255)) 17 ((ve >>> (16 &&& 31)) &&& 255))))] H := hP
  have hD : va_D A [(h0, .inr (16, [h0_0, .ref bs, .int 17, h0_3, h0_4, h0_5, h0_6, h0_7, h0_8, h0_9, h0_10, h0_11, h0_12, h0_13, h0_14, h0_15, h0_16, h0_17, h0_18, h0_19, h0_20, h0_21, h0_22, h0_23, h0_24, h0_25, h0_26, h0_27, h0_28, h0_29, h0_30, h0_31, h0_32, h0_33, h0_34, h0_35, h0_36, h0_37, h0_38, h0_39, h0_40, h0_41, h0_42, h0_43, h0_44, h0_45, h0_46, h0_47, h0_48, h0_49, h0_50, h0_51, h0_52, h0_53, h0_54, h0_55])), (bs, .inl (cI, 16400, .inl (upd (upd (upd (upd (upd (upd (upd (upd (upd (upd (upd (upd (upd (upd (upd (upd (upd (upd f 0 ((va >>> (24 &&& 31)) &&& 255)) 1 ((va >>> (16 &&& 31)) &&& 255)) 2 ((va >>> (8 &&& 31)) &&& 255)) 3 ((va >>> (0 &&& 31)) &&& 255)) 4 ((vb >>> (24 &&& 31)) &&& 255)) 5 ((vb >>> (16 &&& 31)) &&& 255)) 6 ((vb >>> (8 &&& 31)) &&& 255)) 7 ((vb >>> (0 &&& 31)) &&& 255)) 8 ((vc >>> (24 &&& 31)) &&& 255)) 9 ((vc >>> (16 &&& 31)) &&& 255)) 10 ((vc >>> (8 &&& 31)) &&& 255)) 11 ((vc >>> (0 &&& 31)) &&& 255)) 12 ((vd >>> (24 &&& 31)) &&& 255)) 13 ((vd >>> (16 &&& 31)) &&& 255)) 14 ((vd >>> (8 &&& 31)) &&& 255)) 15 ((vd >>> (0 &&& 31)) &&& 255)) 16 ((ve >>> (24 &&& 31)) &&& 255)) 17 ((ve >>> (16 &&& 31)) &&& 255))))] := hD
  refine lv_aload_n hx hb d_ProofDeskModel_feed_99 rfl (lv_at hl 2 rfl) ?_
  refine lv_dup hx hb d_ProofDeskModel_feed_100 rfl ?_
  refine va_get (D := D) (ci := 16) (v := .int 17) (C := "ProofDeskModel") (T := F_ProofDeskModel) (N := 56) hx hb hts in_ProofDeskModel hown hK hP 0 rfl rfl 2 (by decide) (hts _ kw_2126) (fun _ h9 => h9) rfl d_ProofDeskModel_feed_101 ?_
  refine lv_iconst (v := 1) hx hb d_ProofDeskModel_feed_104 (by decide) ?_
  refine lv_iadd hx hb d_ProofDeskModel_feed_105 ?_
  refine zz_i (y := 18) (by decide +kernel) ?_
  refine va_put (D := D) (ci := 16) (v := .int 18) (ty := .int) (C := "ProofDeskModel") (T := F_ProofDeskModel) (N := 56) hx hb hts in_ProofDeskModel t_ProofDeskModel t_ProofDeskModel_ok n_ProofDeskModel hown hK hP hD hS 0 rfl rfl 2 (by decide) (hts _ kw_2126) (fun _ h9 => h9) rfl (by decide +kernel) rfl rfl (Nat.le_of_ble_eq_true rfl) d_ProofDeskModel_feed_106 (fun H locs hP hD hS => ?_)
  have hP : va_P D zcl [(h0, .inr (16, [h0_0, .ref bs, .int 18, h0_3, h0_4, h0_5, h0_6, h0_7, h0_8, h0_9, h0_10, h0_11, h0_12, h0_13, h0_14, h0_15, h0_16, h0_17, h0_18, h0_19, h0_20, h0_21, h0_22, h0_23, h0_24, h0_25, h0_26, h0_27, h0_28, h0_29, h0_30, h0_31, h0_32, h0_33, h0_34, h0_35, h0_36, h0_37, h0_38, h0_39, h0_40, h0_41, h0_42, h0_43, h0_44, h0_45, h0_46, h0_47, h0_48, h0_49, h0_50, h0_51, h0_52, h0_53, h0_54, h0_55])), (bs, .inl (cI, 16400, .inl (upd (upd (upd (upd (upd (upd (upd (upd (upd (upd (upd (upd (upd (upd (upd (upd (upd (upd f 0 ((va >>> (24 &&& 31)) &&& 255)) 1 ((va >>> (16 &&& 31)) &&& 255)) 2 ((va >>> (8 &&& 31)) &&& 255)) 3 ((va >>> (0 &&& 31)) &&& 255)) 4 ((vb >>> (24 &&& 31)) &&& 255)) 5 ((vb >>> (16 &&& 31)) &&& 255)) 6 ((vb >>> (8 &&& 31)) &&& 255)) 7 ((vb >>> (0 &&& 31)) &&& 255)) 8 ((vc >>> (24 &&& 31)) &&& 255)) 9 ((vc >>> (16 &&& 31)) &&& 255)) 10 ((vc >>> (8 &&& 31)) &&& 255)) 11 ((vc >>> (0 &&& 31)) &&& 255)) 12 ((vd >>> (24 &&& 31)) &&& 255)) 13 ((vd >>> (16 &&& 31)) &&& 255)) 14 ((vd >>> (8 &&& 31)) &&& 255)) 15 ((vd >>> (0 &&& 31)) &&& 255)) 16 ((ve >>> (24 &&& 31)) &&& 255)) 17 ((ve >>> (16 &&& 31)) &&& 255))))] H := hP
  have hD : va_D A [(h0, .inr (16, [h0_0, .ref bs, .int 18, h0_3, h0_4, h0_5, h0_6, h0_7, h0_8, h0_9, h0_10, h0_11, h0_12, h0_13, h0_14, h0_15, h0_16, h0_17, h0_18, h0_19, h0_20, h0_21, h0_22, h0_23, h0_24, h0_25, h0_26, h0_27, h0_28, h0_29, h0_30, h0_31, h0_32, h0_33, h0_34, h0_35, h0_36, h0_37, h0_38, h0_39, h0_40, h0_41, h0_42, h0_43, h0_44, h0_45, h0_46, h0_47, h0_48, h0_49, h0_50, h0_51, h0_52, h0_53, h0_54, h0_55])), (bs, .inl (cI, 16400, .inl (upd (upd (upd (upd (upd (upd (upd (upd (upd (upd (upd (upd (upd (upd (upd (upd (upd (upd f 0 ((va >>> (24 &&& 31)) &&& 255)) 1 ((va >>> (16 &&& 31)) &&& 255)) 2 ((va >>> (8 &&& 31)) &&& 255)) 3 ((va >>> (0 &&& 31)) &&& 255)) 4 ((vb >>> (24 &&& 31)) &&& 255)) 5 ((vb >>> (16 &&& 31)) &&& 255)) 6 ((vb >>> (8 &&& 31)) &&& 255)) 7 ((vb >>> (0 &&& 31)) &&& 255)) 8 ((vc >>> (24 &&& 31)) &&& 255)) 9 ((vc >>> (16 &&& 31)) &&& 255)) 10 ((vc >>> (8 &&& 31)) &&& 255)) 11 ((vc >>> (0 &&& 31)) &&& 255)) 12 ((vd >>> (24 &&& 31)) &&& 255)) 13 ((vd >>> (16 &&& 31)) &&& 255)) 14 ((vd >>> (8 &&& 31)) &&& 255)) 15 ((vd >>> (0 &&& 31)) &&& 255)) 16 ((ve >>> (24 &&& 31)) &&& 255)) 17 ((ve >>> (16 &&& 31)) &&& 255))))] := hD
  refine lv_iinc (k := 1) (v := 18) (lv' := [(6, .int 18), (7, .int ve), (0, .ref h0), (1, .int va), (2, .int vb), (3, .int vc), (4, .int vd), (5, .int ve)]) hx hb d_ProofDeskModel_feed_109 hl rfl (by decide +kernel) (by decide) rfl (fun ls hl => ?_)
  refine lv_goto hx hb d_ProofDeskModel_feed_112 rfl ?_
  refine lv_iload hx hb d_ProofDeskModel_feed_18 (lv_at hl 0 rfl) ?_
  refine lv_bipush (v := 20) hx hb d_ProofDeskModel_feed_20 (by decide) ?_
  have hc_68 : ¬ (20 : Int32) ≤ 18 := by decide +kernel
  refine lv_icmp_ge hx hb d_ProofDeskModel_feed_22 rfl (fun h => absurd h hc_68) (fun _ => ?_)
  refine lv_iload hx hb d_ProofDeskModel_feed_25 (lv_at hl 0 rfl) ?_
  refine lv_iconst (v := 4) hx hb d_ProofDeskModel_feed_27 (by decide) ?_
  have hc_69 : (4 : Int32) ≤ 18 := by decide +kernel
  refine lv_icmp_ge hx hb d_ProofDeskModel_feed_28 rfl (fun _ => ?_) (fun h => absurd hc_69 h)
  refine lv_iload hx hb d_ProofDeskModel_feed_35 (lv_at hl 0 rfl) ?_
  refine lv_bipush (v := 8) hx hb d_ProofDeskModel_feed_37 (by decide) ?_
  have hc_70 : (8 : Int32) ≤ 18 := by decide +kernel
  refine lv_icmp_ge hx hb d_ProofDeskModel_feed_39 rfl (fun _ => ?_) (fun h => absurd hc_70 h)
  refine lv_iload hx hb d_ProofDeskModel_feed_46 (lv_at hl 0 rfl) ?_
  refine lv_bipush (v := 12) hx hb d_ProofDeskModel_feed_48 (by decide) ?_
  have hc_71 : (12 : Int32) ≤ 18 := by decide +kernel
  refine lv_icmp_ge hx hb d_ProofDeskModel_feed_50 rfl (fun _ => ?_) (fun h => absurd hc_71 h)
  refine lv_iload hx hb d_ProofDeskModel_feed_57 (lv_at hl 0 rfl) ?_
  refine lv_bipush (v := 16) hx hb d_ProofDeskModel_feed_59 (by decide) ?_
  have hc_72 : (16 : Int32) ≤ 18 := by decide +kernel
  refine lv_icmp_ge hx hb d_ProofDeskModel_feed_61 rfl (fun _ => ?_) (fun h => absurd hc_72 h)
  refine lv_iload hx hb d_ProofDeskModel_feed_69 (lv_at hl 7 rfl) ?_
  refine lv_istore (lv' := [(7, .int ve), (6, .int 18), (0, .ref h0), (1, .int va), (2, .int vb), (3, .int vc), (4, .int vd), (5, .int ve)]) hx hb d_ProofDeskModel_feed_71 hl (by decide) rfl (fun ls hl => ?_)
  refine lv_aload_n hx hb d_ProofDeskModel_feed_73 rfl (lv_at hl 2 rfl) ?_
  refine va_get (D := D) (ci := 16) (v := .ref bs) (C := "ProofDeskModel") (T := F_ProofDeskModel) (N := 56) hx hb hts in_ProofDeskModel hown hK hP 0 rfl rfl 1 (by decide) (hts _ kw_2125) (fun _ h9 => h9) rfl d_ProofDeskModel_feed_74 ?_
  refine lv_aload_n hx hb d_ProofDeskModel_feed_77 rfl (lv_at hl 2 rfl) ?_
  refine va_get (D := D) (ci := 16) (v := .int 18) (C := "ProofDeskModel") (T := F_ProofDeskModel) (N := 56) hx hb hts in_ProofDeskModel hown hK hP 0 rfl rfl 2 (by decide) (hts _ kw_2126) (fun _ h9 => h9) rfl d_ProofDeskModel_feed_78 ?_
  refine lv_iload hx hb d_ProofDeskModel_feed_81 (lv_at hl 0 rfl) ?_
  refine lv_bipush (v := 24) hx hb d_ProofDeskModel_feed_83 (by decide) ?_
  refine lv_bipush (v := 8) hx hb d_ProofDeskModel_feed_85 (by decide) ?_
  refine lv_iload hx hb d_ProofDeskModel_feed_87 (lv_at hl 1 rfl) ?_
  refine lv_iconst (v := 4) hx hb d_ProofDeskModel_feed_89 (by decide) ?_
  refine lv_irem hx hb d_ProofDeskModel_feed_90 (by decide) ?_
  refine zz_i (y := 2) (by decide +kernel) ?_
  refine lv_imul hx hb d_ProofDeskModel_feed_91 ?_
  refine zz_i (y := 16) (by decide +kernel) ?_
  refine lv_isub hx hb d_ProofDeskModel_feed_92 ?_
  refine zz_i (y := 8) (by decide +kernel) ?_
  refine lv_ishr hx hb d_ProofDeskModel_feed_93 ?_
  refine lv_sipush (v := 255) hx hb d_ProofDeskModel_feed_94 (by decide) ?_
  refine lv_iand hx hb d_ProofDeskModel_feed_97 ?_
  refine zz_iast hx hb hK hP hD hS 1 0 rfl rfl (i := 18) (x := ((ve >>> (8 &&& 31)) &&& 255)) 18 (⟨by decide +kernel, by decide +kernel, by decide +kernel⟩) d_ProofDeskModel_feed_98 (fun H locs hP hD hS => ?_)
  have hP : va_P D zcl [(h0, .inr (16, [h0_0, .ref bs, .int 18, h0_3, h0_4, h0_5, h0_6, h0_7, h0_8, h0_9, h0_10, h0_11, h0_12, h0_13, h0_14, h0_15, h0_16, h0_17, h0_18, h0_19, h0_20, h0_21, h0_22, h0_23, h0_24, h0_25, h0_26, h0_27, h0_28, h0_29, h0_30, h0_31, h0_32, h0_33, h0_34, h0_35, h0_36, h0_37, h0_38, h0_39, h0_40, h0_41, h0_42, h0_43, h0_44, h0_45, h0_46, h0_47, h0_48, h0_49, h0_50, h0_51, h0_52, h0_53, h0_54, h0_55])), (bs, .inl (cI, 16400, .inl (upd (upd (upd (upd (upd (upd (upd (upd (upd (upd (upd (upd (upd (upd (upd (upd (upd (upd (upd f 0 ((va >>> (24 &&& 31)) &&& 255)) 1 ((va >>> (16 &&& 31)) &&& 255)) 2 ((va >>> (8 &&& 31)) &&& 255)) 3 ((va >>> (0 &&& 31)) &&& 255)) 4 ((vb >>> (24 &&& 31)) &&& 255)) 5 ((vb >>> (16 &&& 31)) &&& 255)) 6 ((vb >>> (8 &&& 31)) &&& 255)) 7 ((vb >>> (0 &&& 31)) &&& 255)) 8 ((vc >>> (24 &&& 31)) &&& 255)) 9 ((vc >>> (16 &&& 31)) &&& 255)) 10 ((vc >>> (8 &&& 31)) &&& 255)) 11 ((vc >>> (0 &&& 31)) &&& 255)) 12 ((vd >>> (24 &&& 31)) &&& 255)) 13 ((vd >>> (16 &&& 31)) &&& 255)) 14 ((vd >>> (8 &&& 31)) &&& 255)) 15 ((vd >>> (0 &&& 31)) &&& 255)) 16 ((ve >>> (24 &&& 31)) &&& 255)) 17 ((ve >>> (16 &&& 31)) &&& 255)) 18 ((ve >>> (8 &&& 31)) &&& 255))))] H := hP
  have hD : va_D A [(h0, .inr (16, [h0_0, .ref bs, .int 18, h0_3, h0_4, h0_5, h0_6, h0_7, h0_8, h0_9, h0_10, h0_11, h0_12, h0_13, h0_14, h0_15, h0_16, h0_17, h0_18, h0_19, h0_20, h0_21, h0_22, h0_23, h0_24, h0_25, h0_26, h0_27, h0_28, h0_29, h0_30, h0_31, h0_32, h0_33, h0_34, h0_35, h0_36, h0_37, h0_38, h0_39, h0_40, h0_41, h0_42, h0_43, h0_44, h0_45, h0_46, h0_47, h0_48, h0_49, h0_50, h0_51, h0_52, h0_53, h0_54, h0_55])), (bs, .inl (cI, 16400, .inl (upd (upd (upd (upd (upd (upd (upd (upd (upd (upd (upd (upd (upd (upd (upd (upd (upd (upd (upd f 0 ((va >>> (24 &&& 31)) &&& 255)) 1 ((va >>> (16 &&& 31)) &&& 255)) 2 ((va >>> (8 &&& 31)) &&& 255)) 3 ((va >>> (0 &&& 31)) &&& 255)) 4 ((vb >>> (24 &&& 31)) &&& 255)) 5 ((vb >>> (16 &&& 31)) &&& 255)) 6 ((vb >>> (8 &&& 31)) &&& 255)) 7 ((vb >>> (0 &&& 31)) &&& 255)) 8 ((vc >>> (24 &&& 31)) &&& 255)) 9 ((vc >>> (16 &&& 31)) &&& 255)) 10 ((vc >>> (8 &&& 31)) &&& 255)) 11 ((vc >>> (0 &&& 31)) &&& 255)) 12 ((vd >>> (24 &&& 31)) &&& 255)) 13 ((vd >>> (16 &&& 31)) &&& 255)) 14 ((vd >>> (8 &&& 31)) &&& 255)) 15 ((vd >>> (0 &&& 31)) &&& 255)) 16 ((ve >>> (24 &&& 31)) &&& 255)) 17 ((ve >>> (16 &&& 31)) &&& 255)) 18 ((ve >>> (8 &&& 31)) &&& 255))))] := hD
  refine lv_aload_n hx hb d_ProofDeskModel_feed_99 rfl (lv_at hl 2 rfl) ?_
  refine lv_dup hx hb d_ProofDeskModel_feed_100 rfl ?_
  refine va_get (D := D) (ci := 16) (v := .int 18) (C := "ProofDeskModel") (T := F_ProofDeskModel) (N := 56) hx hb hts in_ProofDeskModel hown hK hP 0 rfl rfl 2 (by decide) (hts _ kw_2126) (fun _ h9 => h9) rfl d_ProofDeskModel_feed_101 ?_
  refine lv_iconst (v := 1) hx hb d_ProofDeskModel_feed_104 (by decide) ?_
  refine lv_iadd hx hb d_ProofDeskModel_feed_105 ?_
  refine zz_i (y := 19) (by decide +kernel) ?_
  refine va_put (D := D) (ci := 16) (v := .int 19) (ty := .int) (C := "ProofDeskModel") (T := F_ProofDeskModel) (N := 56) hx hb hts in_ProofDeskModel t_ProofDeskModel t_ProofDeskModel_ok n_ProofDeskModel hown hK hP hD hS 0 rfl rfl 2 (by decide) (hts _ kw_2126) (fun _ h9 => h9) rfl (by decide +kernel) rfl rfl (Nat.le_of_ble_eq_true rfl) d_ProofDeskModel_feed_106 (fun H locs hP hD hS => ?_)
  have hP : va_P D zcl [(h0, .inr (16, [h0_0, .ref bs, .int 19, h0_3, h0_4, h0_5, h0_6, h0_7, h0_8, h0_9, h0_10, h0_11, h0_12, h0_13, h0_14, h0_15, h0_16, h0_17, h0_18, h0_19, h0_20, h0_21, h0_22, h0_23, h0_24, h0_25, h0_26, h0_27, h0_28, h0_29, h0_30, h0_31, h0_32, h0_33, h0_34, h0_35, h0_36, h0_37, h0_38, h0_39, h0_40, h0_41, h0_42, h0_43, h0_44, h0_45, h0_46, h0_47, h0_48, h0_49, h0_50, h0_51, h0_52, h0_53, h0_54, h0_55])), (bs, .inl (cI, 16400, .inl (upd (upd (upd (upd (upd (upd (upd (upd (upd (upd (upd (upd (upd (upd (upd (upd (upd (upd (upd f 0 ((va >>> (24 &&& 31)) &&& 255)) 1 ((va >>> (16 &&& 31)) &&& 255)) 2 ((va >>> (8 &&& 31)) &&& 255)) 3 ((va >>> (0 &&& 31)) &&& 255)) 4 ((vb >>> (24 &&& 31)) &&& 255)) 5 ((vb >>> (16 &&& 31)) &&& 255)) 6 ((vb >>> (8 &&& 31)) &&& 255)) 7 ((vb >>> (0 &&& 31)) &&& 255)) 8 ((vc >>> (24 &&& 31)) &&& 255)) 9 ((vc >>> (16 &&& 31)) &&& 255)) 10 ((vc >>> (8 &&& 31)) &&& 255)) 11 ((vc >>> (0 &&& 31)) &&& 255)) 12 ((vd >>> (24 &&& 31)) &&& 255)) 13 ((vd >>> (16 &&& 31)) &&& 255)) 14 ((vd >>> (8 &&& 31)) &&& 255)) 15 ((vd >>> (0 &&& 31)) &&& 255)) 16 ((ve >>> (24 &&& 31)) &&& 255)) 17 ((ve >>> (16 &&& 31)) &&& 255)) 18 ((ve >>> (8 &&& 31)) &&& 255))))] H := hP
  have hD : va_D A [(h0, .inr (16, [h0_0, .ref bs, .int 19, h0_3, h0_4, h0_5, h0_6, h0_7, h0_8, h0_9, h0_10, h0_11, h0_12, h0_13, h0_14, h0_15, h0_16, h0_17, h0_18, h0_19, h0_20, h0_21, h0_22, h0_23, h0_24, h0_25, h0_26, h0_27, h0_28, h0_29, h0_30, h0_31, h0_32, h0_33, h0_34, h0_35, h0_36, h0_37, h0_38, h0_39, h0_40, h0_41, h0_42, h0_43, h0_44, h0_45, h0_46, h0_47, h0_48, h0_49, h0_50, h0_51, h0_52, h0_53, h0_54, h0_55])), (bs, .inl (cI, 16400, .inl (upd (upd (upd (upd (upd (upd (upd (upd (upd (upd (upd (upd (upd (upd (upd (upd (upd (upd (upd f 0 ((va >>> (24 &&& 31)) &&& 255)) 1 ((va >>> (16 &&& 31)) &&& 255)) 2 ((va >>> (8 &&& 31)) &&& 255)) 3 ((va >>> (0 &&& 31)) &&& 255)) 4 ((vb >>> (24 &&& 31)) &&& 255)) 5 ((vb >>> (16 &&& 31)) &&& 255)) 6 ((vb >>> (8 &&& 31)) &&& 255)) 7 ((vb >>> (0 &&& 31)) &&& 255)) 8 ((vc >>> (24 &&& 31)) &&& 255)) 9 ((vc >>> (16 &&& 31)) &&& 255)) 10 ((vc >>> (8 &&& 31)) &&& 255)) 11 ((vc >>> (0 &&& 31)) &&& 255)) 12 ((vd >>> (24 &&& 31)) &&& 255)) 13 ((vd >>> (16 &&& 31)) &&& 255)) 14 ((vd >>> (8 &&& 31)) &&& 255)) 15 ((vd >>> (0 &&& 31)) &&& 255)) 16 ((ve >>> (24 &&& 31)) &&& 255)) 17 ((ve >>> (16 &&& 31)) &&& 255)) 18 ((ve >>> (8 &&& 31)) &&& 255))))] := hD
  refine lv_iinc (k := 1) (v := 19) (lv' := [(6, .int 19), (7, .int ve), (0, .ref h0), (1, .int va), (2, .int vb), (3, .int vc), (4, .int vd), (5, .int ve)]) hx hb d_ProofDeskModel_feed_109 hl rfl (by decide +kernel) (by decide) rfl (fun ls hl => ?_)
  refine lv_goto hx hb d_ProofDeskModel_feed_112 rfl ?_
  refine lv_iload hx hb d_ProofDeskModel_feed_18 (lv_at hl 0 rfl) ?_
  refine lv_bipush (v := 20) hx hb d_ProofDeskModel_feed_20 (by decide) ?_
  have hc_73 : ¬ (20 : Int32) ≤ 19 := by decide +kernel
  refine lv_icmp_ge hx hb d_ProofDeskModel_feed_22 rfl (fun h => absurd h hc_73) (fun _ => ?_)
  refine lv_iload hx hb d_ProofDeskModel_feed_25 (lv_at hl 0 rfl) ?_
  refine lv_iconst (v := 4) hx hb d_ProofDeskModel_feed_27 (by decide) ?_
  have hc_74 : (4 : Int32) ≤ 19 := by decide +kernel
  refine lv_icmp_ge hx hb d_ProofDeskModel_feed_28 rfl (fun _ => ?_) (fun h => absurd hc_74 h)
  refine lv_iload hx hb d_ProofDeskModel_feed_35 (lv_at hl 0 rfl) ?_
  refine lv_bipush (v := 8) hx hb d_ProofDeskModel_feed_37 (by decide) ?_
  have hc_75 : (8 : Int32) ≤ 19 := by decide +kernel
  refine lv_icmp_ge hx hb d_ProofDeskModel_feed_39 rfl (fun _ => ?_) (fun h => absurd hc_75 h)
  refine lv_iload hx hb d_ProofDeskModel_feed_46 (lv_at hl 0 rfl) ?_
  refine lv_bipush (v := 12) hx hb d_ProofDeskModel_feed_48 (by decide) ?_
  have hc_76 : (12 : Int32) ≤ 19 := by decide +kernel
  refine lv_icmp_ge hx hb d_ProofDeskModel_feed_50 rfl (fun _ => ?_) (fun h => absurd hc_76 h)
  refine lv_iload hx hb d_ProofDeskModel_feed_57 (lv_at hl 0 rfl) ?_
  refine lv_bipush (v := 16) hx hb d_ProofDeskModel_feed_59 (by decide) ?_
  have hc_77 : (16 : Int32) ≤ 19 := by decide +kernel
  refine lv_icmp_ge hx hb d_ProofDeskModel_feed_61 rfl (fun _ => ?_) (fun h => absurd hc_77 h)
  refine lv_iload hx hb d_ProofDeskModel_feed_69 (lv_at hl 7 rfl) ?_
  refine lv_istore (lv' := [(7, .int ve), (6, .int 19), (0, .ref h0), (1, .int va), (2, .int vb), (3, .int vc), (4, .int vd), (5, .int ve)]) hx hb d_ProofDeskModel_feed_71 hl (by decide) rfl (fun ls hl => ?_)
  refine lv_aload_n hx hb d_ProofDeskModel_feed_73 rfl (lv_at hl 2 rfl) ?_
  refine va_get (D := D) (ci := 16) (v := .ref bs) (C := "ProofDeskModel") (T := F_ProofDeskModel) (N := 56) hx hb hts in_ProofDeskModel hown hK hP 0 rfl rfl 1 (by decide) (hts _ kw_2125) (fun _ h9 => h9) rfl d_ProofDeskModel_feed_74 ?_
  refine lv_aload_n hx hb d_ProofDeskModel_feed_77 rfl (lv_at hl 2 rfl) ?_
  refine va_get (D := D) (ci := 16) (v := .int 19) (C := "ProofDeskModel") (T := F_ProofDeskModel) (N := 56) hx hb hts in_ProofDeskModel hown hK hP 0 rfl rfl 2 (by decide) (hts _ kw_2126) (fun _ h9 => h9) rfl d_ProofDeskModel_feed_78 ?_
  refine lv_iload hx hb d_ProofDeskModel_feed_81 (lv_at hl 0 rfl) ?_
  refine lv_bipush (v := 24) hx hb d_ProofDeskModel_feed_83 (by decide) ?_
  refine lv_bipush (v := 8) hx hb d_ProofDeskModel_feed_85 (by decide) ?_
  refine lv_iload hx hb d_ProofDeskModel_feed_87 (lv_at hl 1 rfl) ?_
  refine lv_iconst (v := 4) hx hb d_ProofDeskModel_feed_89 (by decide) ?_
  refine lv_irem hx hb d_ProofDeskModel_feed_90 (by decide) ?_
  refine zz_i (y := 3) (by decide +kernel) ?_
  refine lv_imul hx hb d_ProofDeskModel_feed_91 ?_
  refine zz_i (y := 24) (by decide +kernel) ?_
  refine lv_isub hx hb d_ProofDeskModel_feed_92 ?_
  refine zz_i (y := 0) (by decide +kernel) ?_
  refine lv_ishr hx hb d_ProofDeskModel_feed_93 ?_
  refine lv_sipush (v := 255) hx hb d_ProofDeskModel_feed_94 (by decide) ?_
  refine lv_iand hx hb d_ProofDeskModel_feed_97 ?_
  refine zz_iast hx hb hK hP hD hS 1 0 rfl rfl (i := 19) (x := ((ve >>> (0 &&& 31)) &&& 255)) 19 (⟨by decide +kernel, by decide +kernel, by decide +kernel⟩) d_ProofDeskModel_feed_98 (fun H locs hP hD hS => ?_)
  have hP : va_P D zcl [(h0, .inr (16, [h0_0, .ref bs, .int 19, h0_3, h0_4, h0_5, h0_6, h0_7, h0_8, h0_9, h0_10, h0_11, h0_12, h0_13, h0_14, h0_15, h0_16, h0_17, h0_18, h0_19, h0_20, h0_21, h0_22, h0_23, h0_24, h0_25, h0_26, h0_27, h0_28, h0_29, h0_30, h0_31, h0_32, h0_33, h0_34, h0_35, h0_36, h0_37, h0_38, h0_39, h0_40, h0_41, h0_42, h0_43, h0_44, h0_45, h0_46, h0_47, h0_48, h0_49, h0_50, h0_51, h0_52, h0_53, h0_54, h0_55])), (bs, .inl (cI, 16400, .inl (upd (upd (upd (upd (upd (upd (upd (upd (upd (upd (upd (upd (upd (upd (upd (upd (upd (upd (upd (upd f 0 ((va >>> (24 &&& 31)) &&& 255)) 1 ((va >>> (16 &&& 31)) &&& 255)) 2 ((va >>> (8 &&& 31)) &&& 255)) 3 ((va >>> (0 &&& 31)) &&& 255)) 4 ((vb >>> (24 &&& 31)) &&& 255)) 5 ((vb >>> (16 &&& 31)) &&& 255)) 6 ((vb >>> (8 &&& 31)) &&& 255)) 7 ((vb >>> (0 &&& 31)) &&& 255)) 8 ((vc >>> (24 &&& 31)) &&& 255)) 9 ((vc >>> (16 &&& 31)) &&& 255)) 10 ((vc >>> (8 &&& 31)) &&& 255)) 11 ((vc >>> (0 &&& 31)) &&& 255)) 12 ((vd >>> (24 &&& 31)) &&& 255)) 13 ((vd >>> (16 &&& 31)) &&& 255)) 14 ((vd >>> (8 &&& 31)) &&& 255)) 15 ((vd >>> (0 &&& 31)) &&& 255)) 16 ((ve >>> (24 &&& 31)) &&& 255)) 17 ((ve >>> (16 &&& 31)) &&& 255)) 18 ((ve >>> (8 &&& 31)) &&& 255)) 19 ((ve >>> (0 &&& 31)) &&& 255))))] H := hP
  have hD : va_D A [(h0, .inr (16, [h0_0, .ref bs, .int 19, h0_3, h0_4, h0_5, h0_6, h0_7, h0_8, h0_9, h0_10, h0_11, h0_12, h0_13, h0_14, h0_15, h0_16, h0_17, h0_18, h0_19, h0_20, h0_21, h0_22, h0_23, h0_24, h0_25, h0_26, h0_27, h0_28, h0_29, h0_30, h0_31, h0_32, h0_33, h0_34, h0_35, h0_36, h0_37, h0_38, h0_39, h0_40, h0_41, h0_42, h0_43, h0_44, h0_45, h0_46, h0_47, h0_48, h0_49, h0_50, h0_51, h0_52, h0_53, h0_54, h0_55])), (bs, .inl (cI, 16400, .inl (upd (upd (upd (upd (upd (upd (upd (upd (upd (upd (upd (upd (upd (upd (upd (upd (upd (upd (upd (upd f 0 ((va >>> (24 &&& 31)) &&& 255)) 1 ((va >>> (16 &&& 31)) &&& 255)) 2 ((va >>> (8 &&& 31)) &&& 255)) 3 ((va >>> (0 &&& 31)) &&& 255)) 4 ((vb >>> (24 &&& 31)) &&& 255)) 5 ((vb >>> (16 &&& 31)) &&& 255)) 6 ((vb >>> (8 &&& 31)) &&& 255)) 7 ((vb >>> (0 &&& 31)) &&& 255)) 8 ((vc >>> (24 &&& 31)) &&& 255)) 9 ((vc >>> (16 &&& 31)) &&& 255)) 10 ((vc >>> (8 &&& 31)) &&& 255)) 11 ((vc >>> (0 &&& 31)) &&& 255)) 12 ((vd >>> (24 &&& 31)) &&& 255)) 13 ((vd >>> (16 &&& 31)) &&& 255)) 14 ((vd >>> (8 &&& 31)) &&& 255)) 15 ((vd >>> (0 &&& 31)) &&& 255)) 16 ((ve >>> (24 &&& 31)) &&& 255)) 17 ((ve >>> (16 &&& 31)) &&& 255)) 18 ((ve >>> (8 &&& 31)) &&& 255)) 19 ((ve >>> (0 &&& 31)) &&& 255))))] := hD
  refine lv_aload_n hx hb d_ProofDeskModel_feed_99 rfl (lv_at hl 2 rfl) ?_
  refine lv_dup hx hb d_ProofDeskModel_feed_100 rfl ?_
  refine va_get (D := D) (ci := 16) (v := .int 19) (C := "ProofDeskModel") (T := F_ProofDeskModel) (N := 56) hx hb hts in_ProofDeskModel hown hK hP 0 rfl rfl 2 (by decide) (hts _ kw_2126) (fun _ h9 => h9) rfl d_ProofDeskModel_feed_101 ?_
  refine lv_iconst (v := 1) hx hb d_ProofDeskModel_feed_104 (by decide) ?_
  refine lv_iadd hx hb d_ProofDeskModel_feed_105 ?_
  refine zz_i (y := 20) (by decide +kernel) ?_
  refine va_put (D := D) (ci := 16) (v := .int 20) (ty := .int) (C := "ProofDeskModel") (T := F_ProofDeskModel) (N := 56) hx hb hts in_ProofDeskModel t_ProofDeskModel t_ProofDeskModel_ok n_ProofDeskModel hown hK hP hD hS 0 rfl rfl 2 (by decide) (hts _ kw_2126) (fun _ h9 => h9) rfl (by decide +kernel) rfl rfl (Nat.le_of_ble_eq_true rfl) d_ProofDeskModel_feed_106 (fun H locs hP hD hS => ?_)
  have hP : va_P D zcl [(h0, .inr (16, [h0_0, .ref bs, .int 20, h0_3, h0_4, h0_5, h0_6, h0_7, h0_8, h0_9, h0_10, h0_11, h0_12, h0_13, h0_14, h0_15, h0_16, h0_17, h0_18, h0_19, h0_20, h0_21, h0_22, h0_23, h0_24, h0_25, h0_26, h0_27, h0_28, h0_29, h0_30, h0_31, h0_32, h0_33, h0_34, h0_35, h0_36, h0_37, h0_38, h0_39, h0_40, h0_41, h0_42, h0_43, h0_44, h0_45, h0_46, h0_47, h0_48, h0_49, h0_50, h0_51, h0_52, h0_53, h0_54, h0_55])), (bs, .inl (cI, 16400, .inl (upd (upd (upd (upd (upd (upd (upd (upd (upd (upd (upd (upd (upd (upd (upd (upd (upd (upd (upd (upd f 0 ((va >>> (24 &&& 31)) &&& 255)) 1 ((va >>> (16 &&& 31)) &&& 255)) 2 ((va >>> (8 &&& 31)) &&& 255)) 3 ((va >>> (0 &&& 31)) &&& 255)) 4 ((vb >>> (24 &&& 31)) &&& 255)) 5 ((vb >>> (16 &&& 31)) &&& 255)) 6 ((vb >>> (8 &&& 31)) &&& 255)) 7 ((vb >>> (0 &&& 31)) &&& 255)) 8 ((vc >>> (24 &&& 31)) &&& 255)) 9 ((vc >>> (16 &&& 31)) &&& 255)) 10 ((vc >>> (8 &&& 31)) &&& 255)) 11 ((vc >>> (0 &&& 31)) &&& 255)) 12 ((vd >>> (24 &&& 31)) &&& 255)) 13 ((vd >>> (16 &&& 31)) &&& 255)) 14 ((vd >>> (8 &&& 31)) &&& 255)) 15 ((vd >>> (0 &&& 31)) &&& 255)) 16 ((ve >>> (24 &&& 31)) &&& 255)) 17 ((ve >>> (16 &&& 31)) &&& 255)) 18 ((ve >>> (8 &&& 31)) &&& 255)) 19 ((ve >>> (0 &&& 31)) &&& 255))))] H := hP
  have hD : va_D A [(h0, .inr (16, [h0_0, .ref bs, .int 20, h0_3, h0_4, h0_5, h0_6, h0_7, h0_8, h0_9, h0_10, h0_11, h0_12, h0_13, h0_14, h0_15, h0_16, h0_17, h0_18, h0_19, h0_20, h0_21, h0_22, h0_23, h0_24, h0_25, h0_26, h0_27, h0_28, h0_29, h0_30, h0_31, h0_32, h0_33, h0_34, h0_35, h0_36, h0_37, h0_38, h0_39, h0_40, h0_41, h0_42, h0_43, h0_44, h0_45, h0_46, h0_47, h0_48, h0_49, h0_50, h0_51, h0_52, h0_53, h0_54, h0_55])), (bs, .inl (cI, 16400, .inl (upd (upd (upd (upd (upd (upd (upd (upd (upd (upd (upd (upd (upd (upd (upd (upd (upd (upd (upd (upd f 0 ((va >>> (24 &&& 31)) &&& 255)) 1 ((va >>> (16 &&& 31)) &&& 255)) 2 ((va >>> (8 &&& 31)) &&& 255)) 3 ((va >>> (0 &&& 31)) &&& 255)) 4 ((vb >>> (24 &&& 31)) &&& 255)) 5 ((vb >>> (16 &&& 31)) &&& 255)) 6 ((vb >>> (8 &&& 31)) &&& 255)) 7 ((vb >>> (0 &&& 31)) &&& 255)) 8 ((vc >>> (24 &&& 31)) &&& 255)) 9 ((vc >>> (16 &&& 31)) &&& 255)) 10 ((vc >>> (8 &&& 31)) &&& 255)) 11 ((vc >>> (0 &&& 31)) &&& 255)) 12 ((vd >>> (24 &&& 31)) &&& 255)) 13 ((vd >>> (16 &&& 31)) &&& 255)) 14 ((vd >>> (8 &&& 31)) &&& 255)) 15 ((vd >>> (0 &&& 31)) &&& 255)) 16 ((ve >>> (24 &&& 31)) &&& 255)) 17 ((ve >>> (16 &&& 31)) &&& 255)) 18 ((ve >>> (8 &&& 31)) &&& 255)) 19 ((ve >>> (0 &&& 31)) &&& 255))))] := hD
  refine lv_iinc (k := 1) (v := 20) (lv' := [(6, .int 20), (7, .int ve), (0, .ref h0), (1, .int va), (2, .int vb), (3, .int vc), (4, .int vd), (5, .int ve)]) hx hb d_ProofDeskModel_feed_109 hl rfl (by decide +kernel) (by decide) rfl (fun ls hl => ?_)
  refine lv_goto hx hb d_ProofDeskModel_feed_112 rfl ?_
  refine lv_iload hx hb d_ProofDeskModel_feed_18 (lv_at hl 0 rfl) ?_
  refine lv_bipush (v := 20) hx hb d_ProofDeskModel_feed_20 (by decide) ?_
  have hc_78 : (20 : Int32) ≤ 20 := by decide +kernel
  refine lv_icmp_ge hx hb d_ProofDeskModel_feed_22 rfl (fun _ => ?_) (fun h => absurd hc_78 h)
  refine lv_aload_n hx hb d_ProofDeskModel_feed_115 rfl (lv_at hl 2 rfl) ?_
  refine va_get (D := D) (ci := 16) (v := .int 20) (C := "ProofDeskModel") (T := F_ProofDeskModel) (N := 56) hx hb hts in_ProofDeskModel hown hK hP 0 rfl rfl 2 (by decide) (hts _ kw_2126) (fun _ h9 => h9) rfl d_ProofDeskModel_feed_116 ?_
  have hP9 := hP.sub (ws' := [(h0, .inr (16, [h0_0, .ref bs, .int 20, h0_3, h0_4, h0_5, h0_6, h0_7, h0_8, h0_9, h0_10, h0_11, h0_12, h0_13, h0_14, h0_15, h0_16, h0_17, h0_18, h0_19, h0_20, h0_21, h0_22, h0_23, h0_24, h0_25, h0_26, h0_27, h0_28, h0_29, h0_30, h0_31, h0_32, h0_33, h0_34, h0_35, h0_36, h0_37, h0_38, h0_39, h0_40, h0_41, h0_42, h0_43, h0_44, h0_45, h0_46, h0_47, h0_48, h0_49, h0_50, h0_51, h0_52, h0_53, h0_54, h0_55])), (bs, .inl (cI, 16400, .inl (upd (upd (upd (upd (upd (upd (upd (upd (upd (upd (upd (upd (upd (upd (upd (upd (upd (upd (upd (upd f 0 ((va >>> (24 &&& 31)) &&& 255)) 1 ((va >>> (16 &&& 31)) &&& 255)) 2 ((va >>> (8 &&& 31)) &&& 255)) 3 ((va >>> (0 &&& 31)) &&& 255)) 4 ((vb >>> (24 &&& 31)) &&& 255)) 5 ((vb >>> (16 &&& 31)) &&& 255)) 6 ((vb >>> (8 &&& 31)) &&& 255)) 7 ((vb >>> (0 &&& 31)) &&& 255)) 8 ((vc >>> (24 &&& 31)) &&& 255)) 9 ((vc >>> (16 &&& 31)) &&& 255)) 10 ((vc >>> (8 &&& 31)) &&& 255)) 11 ((vc >>> (0 &&& 31)) &&& 255)) 12 ((vd >>> (24 &&& 31)) &&& 255)) 13 ((vd >>> (16 &&& 31)) &&& 255)) 14 ((vd >>> (8 &&& 31)) &&& 255)) 15 ((vd >>> (0 &&& 31)) &&& 255)) 16 ((ve >>> (24 &&& 31)) &&& 255)) 17 ((ve >>> (16 &&& 31)) &&& 255)) 18 ((ve >>> (8 &&& 31)) &&& 255)) 19 ((ve >>> (0 &&& 31)) &&& 255))))]) [0, 1] rfl
  have hD9 := hD.sub (ws' := [(h0, .inr (16, [h0_0, .ref bs, .int 20, h0_3, h0_4, h0_5, h0_6, h0_7, h0_8, h0_9, h0_10, h0_11, h0_12, h0_13, h0_14, h0_15, h0_16, h0_17, h0_18, h0_19, h0_20, h0_21, h0_22, h0_23, h0_24, h0_25, h0_26, h0_27, h0_28, h0_29, h0_30, h0_31, h0_32, h0_33, h0_34, h0_35, h0_36, h0_37, h0_38, h0_39, h0_40, h0_41, h0_42, h0_43, h0_44, h0_45, h0_46, h0_47, h0_48, h0_49, h0_50, h0_51, h0_52, h0_53, h0_54, h0_55])), (bs, .inl (cI, 16400, .inl (upd (upd (upd (upd (upd (upd (upd (upd (upd (upd (upd (upd (upd (upd (upd (upd (upd (upd (upd (upd f 0 ((va >>> (24 &&& 31)) &&& 255)) 1 ((va >>> (16 &&& 31)) &&& 255)) 2 ((va >>> (8 &&& 31)) &&& 255)) 3 ((va >>> (0 &&& 31)) &&& 255)) 4 ((vb >>> (24 &&& 31)) &&& 255)) 5 ((vb >>> (16 &&& 31)) &&& 255)) 6 ((vb >>> (8 &&& 31)) &&& 255)) 7 ((vb >>> (0 &&& 31)) &&& 255)) 8 ((vc >>> (24 &&& 31)) &&& 255)) 9 ((vc >>> (16 &&& 31)) &&& 255)) 10 ((vc >>> (8 &&& 31)) &&& 255)) 11 ((vc >>> (0 &&& 31)) &&& 255)) 12 ((vd >>> (24 &&& 31)) &&& 255)) 13 ((vd >>> (16 &&& 31)) &&& 255)) 14 ((vd >>> (8 &&& 31)) &&& 255)) 15 ((vd >>> (0 &&& 31)) &&& 255)) 16 ((ve >>> (24 &&& 31)) &&& 255)) 17 ((ve >>> (16 &&& 31)) &&& 255)) 18 ((ve >>> (8 &&& 31)) &&& 255)) 19 ((ve >>> (0 &&& 31)) &&& 255))))]) [0, 1] (by decide +kernel) rfl
  refine W.widen (k := 0) (n := 0) (by omega) (by omega) ?_
  exact W.iret (v := 20) hx hb hr (fun t ht hW => ⟨⟨20, (), rfl, rfl, by rw [ht]; exact hP9, hD9⟩, hS.F ht⟩) hS.2.2 d_ProofDeskModel_feed_119
