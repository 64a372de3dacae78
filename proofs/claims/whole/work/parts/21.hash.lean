/-- 31 * sum + the next, from a on, n of them -/
def zhash (f : Nat → Int32) (a : Nat) : Nat → Int32
  | 0 => 0
  | n + 1 => 31 * zhash f a n + f (a + n)
set_option maxHeartbeats 2000000 in
set_option maxRecDepth 100000 in
theorem lp_bucketOf {p : Program} {l : Launch} {e : Env} {R : Room} {s : State} {m : MethodId} {args : Array Value} {below : List Frame} {meth : Method} {c : Code} {H0 : Heap} {cells slots : Nat} {Q : State → Prop} {A : Nat → Prop} {D : va_G} {cI cB cZ cS : ClassId} (hx : p.tables.exec = Jvm.exec) (hb : c.code = b_Names_bucketOf) (hts : ∀ w ∈ zw, w.before args s = true) (hN : zN s) (hown : s.vm.findClass "ProofDesk$Names" = some m.cls) (hK : va_K D zcl (zty cI cB cZ cS) s) (q : Nat) (n : Nat) (f : Nat → Int32) (a : Nat) (N : Nat) (hn : a + N ≤ n) (hM : n ≤ 33554432)
    (kk : ∀ (H : Heap) (locs : List Loc) (ls : Array Slot), va_P D zcl [(q, .inl (cB, n, .inl f))] H → va_D A [(q, .inl (cB, n, .inl f))] → va_S A H0 H locs → lv_has ls 5 [(4, .int (nI (a + N))), (3, .int (zhash f a N)), (0, .ref q), (1, .int (nI a)), (2, .int (nI (a + N)))] → W p l e R s m args below meth c H locs cells slots Q (F0 m 27 ls [])) :
    ∀ (d j : Nat) (H : Heap) (locs : List Loc) (ls : Array Slot), j + d = N → va_P D zcl [(q, .inl (cB, n, .inl f))] H → va_D A [(q, .inl (cB, n, .inl f))] → va_S A H0 H locs → lv_has ls 5 [(4, .int (nI (a + j))), (3, .int (zhash f a j)), (0, .ref q), (1, .int (nI a)), (2, .int (nI (a + N)))] → W p l e R s m args below meth c H locs cells slots Q (F0 m 5 ls []) := by
  intro d
  induction d with
  | zero =>
    intro j H locs ls hj hP hD hS hl
    obtain rfl : N = j := by omega
    have hl : lv_has ls 5 [(4, .int (nI (a + N))), (3, .int (zhash f a N)), (0, .ref q), (1, .int (nI a)), (2, .int (nI (a + N)))] := hl
    refine lv_iload hx hb d_Names_bucketOf_5 (lv_at hl 0 rfl) ?_
    refine lv_iload_n hx hb d_Names_bucketOf_7 rfl (lv_at hl 4 rfl) ?_
    have hc_1 : ((nI (a + N)) : Int32) ≤ (nI (a + N)) := nI_le (by omega) (by omega)
    refine lv_icmp_ge hx hb d_Names_bucketOf_8 rfl (fun _ => ?_) (fun h => absurd hc_1 h)
    exact kk H locs ls hP hD hS hl
  | succ d ih =>
    intro j H locs ls hj hP hD hS hl
    have hl : lv_has ls 5 [(4, .int (nI (a + j))), (3, .int (zhash f a j)), (0, .ref q), (1, .int (nI a)), (2, .int (nI (a + N)))] := hl
    refine lv_iload hx hb d_Names_bucketOf_5 (lv_at hl 0 rfl) ?_
    refine lv_iload_n hx hb d_Names_bucketOf_7 rfl (lv_at hl 4 rfl) ?_
    have hc_1 : ¬ ((nI (a + N)) : Int32) ≤ (nI (a + j)) := nI_ge (by omega) (by omega)
    refine lv_icmp_ge hx hb d_Names_bucketOf_8 rfl (fun h => absurd h hc_1) (fun _ => ?_)
    refine lv_bipush (v := 31) hx hb d_Names_bucketOf_11 (by decide) ?_
    refine lv_iload_n hx hb d_Names_bucketOf_13 rfl (lv_at hl 1 rfl) ?_
    refine lv_imul hx hb d_Names_bucketOf_14 ?_
    refine lv_aload_n hx hb d_Names_bucketOf_15 rfl (lv_at hl 2 rfl) ?_
    refine lv_iload hx hb d_Names_bucketOf_16 (lv_at hl 0 rfl) ?_
    refine zz_bald (v := (f (a + j))) hx hb hK hP 0 1 rfl rfl (i := (nI (a + j))) (a + j) (zix_nI (by omega) (by omega)) (rfl) d_Names_bucketOf_18 ?_
    refine lv_iadd hx hb d_Names_bucketOf_19 ?_
    refine zz_i (y := zhash f a (j + 1)) (rfl) ?_
    refine lv_istore_n (lv' := [(3, .int (zhash f a (j + 1))), (4, .int (nI (a + j))), (0, .ref q), (1, .int (nI a)), (2, .int (nI (a + N)))]) hx hb d_Names_bucketOf_20 rfl hl (by decide) rfl (fun ls hl => ?_)
    refine lv_iinc (k := 1) (v := (nI (a + (j + 1)))) (lv' := [(4, .int (nI (a + (j + 1)))), (3, .int (zhash f a (j + 1))), (0, .ref q), (1, .int (nI a)), (2, .int (nI (a + N)))]) hx hb d_Names_bucketOf_21 hl rfl (nI_1 (a + j)) (by decide) rfl (fun ls hl => ?_)
    refine lv_goto hx hb d_Names_bucketOf_24 rfl ?_
    have hl : lv_has ls 5 [(4, .int (nI (a + (j + 1)))), (3, .int (zhash f a (j + 1))), (0, .ref q), (1, .int (nI a)), (2, .int (nI (a + N)))] := lv_sub hl [0, 1, 2, 3, 4] rfl
    exact ih (j + 1) H locs ls (by omega) hP hD hS hl
