/-! The program as functions: arrays, answers, room; what a block of code owes to its function. -/
abbrev Ar : Type := Nat × (Nat → Int32)
def Ar.n (a : Ar) : Nat := a.1
def Ar.f (a : Ar) : Nat → Int32 := a.2
def Ar.mk (n : Nat) (f : Nat → Int32) : Ar := (n, f)
/-- what a method's function gives: the state behind it, the answer, how many cells and slots it made -/
abbrev Res (S : Type) : Type := Option (S × Int32 × Nat × Nat)
def bnd {S T : Type} (x : Res S) (k : S → Int32 → Res T) : Res T :=
  match x with
  | none => none
  | some (z, a, i, j) => match k z a with
    | none => none
    | some (z', a', i', j') => some (z', a', i + i', j + j')
theorem bnd_some {S T : Type} {x : Res S} {k : S → Int32 → Res T} {z : T} {a : Int32} {i j : Nat} (h : bnd x k = some (z, a, i, j)) : ∃ z1 a1 i1 j1 i2 j2, x = some (z1, a1, i1, j1) ∧ k z1 a1 = some (z, a, i2, j2) ∧ i = i1 + i2 ∧ j = j1 + j2 := by
  cases x with
  | none => cases h
  | some y =>
    obtain ⟨z1, a1, i1, j1⟩ := y
    cases hk : k z1 a1 with
    | none => simp only [bnd, hk] at h; cases h
    | some y2 =>
      obtain ⟨z2, a2, i2, j2⟩ := y2
      simp only [bnd, hk, Option.some.injEq, Prod.mk.injEq] at h
      obtain ⟨rfl, rfl, rfl, rfl⟩ := h
      exact ⟨z1, a1, i1, j1, i2, j2, rfl, hk, rfl, rfl⟩
def tick {S : Type} (i j : Nat) (x : Res S) : Res S :=
  match x with
  | none => none
  | some (z, a, i', j') => some (z, a, i + i', j + j')
theorem tick_some {S : Type} {x : Res S} {z : S} {a : Int32} {i0 j0 i j : Nat} (h : tick i0 j0 x = some (z, a, i, j)) : ∃ i2 j2, x = some (z, a, i2, j2) ∧ i = i0 + i2 ∧ j = j0 + j2 := by
  cases x with
  | none => cases h
  | some y =>
    obtain ⟨z1, a1, i1, j1⟩ := y
    simp only [tick, Option.some.injEq, Prod.mk.injEq] at h
    obtain ⟨rfl, rfl, rfl, rfl⟩ := h
    exact ⟨i1, j1, rfl, rfl, rfl⟩
def chk {S : Type} (q : Prop) [Decidable q] (x : Res S) : Res S := if q then x else none
theorem chk_some {S : Type} {q : Prop} [Decidable q] {x : Res S} {y : S × Int32 × Nat × Nat} (h : chk q x = some y) : q ∧ x = some y := by
  by_cases hq : q
  · exact ⟨hq, by rw [chk, if_pos hq] at h; exact h⟩
  · rw [chk, if_neg hq] at h; cases h
theorem zpos {q : Prop} [i : Decidable q] {α : Type} {a b x : α} (hq : q) (h : ite q a b = x) : a = x := (if_pos hq).symm.trans h
theorem zneg {q : Prop} [i : Decidable q] {α : Type} {a b x : α} (hq : ¬ q) (h : ite q a b = x) : b = x := (if_neg hq).symm.trans h
theorem zend {S : Type} {z z' : S} {a a' : Int32} {i j i' j' : Nat} (h : (some (z, a, i, j) : Res S) = some (z', a', i', j')) : z = z' ∧ a = a' ∧ i = i' ∧ j = j' := by
  simp only [Option.some.injEq, Prod.mk.injEq] at h
  exact h
def zlp {α : Type} (G : α → α) (b : α) : Nat → α
  | 0 => b
  | n + 1 => G (zlp G b n)
abbrev zk (i : Int32) : Nat := i.toNatClampNeg
abbrev zin (i : Int32) (n : Nat) : Prop := ¬ i < 0 ∧ i.toNatClampNeg < n
theorem zin.ix {i : Int32} {n : Nat} (h : zin i n) : zix i (zk i) n := ⟨h.1, rfl, h.2⟩
/-- a truth value, as the machine keeps it -/
abbrev zb (v : Int32) : Prop := vp_nar .boolean v = v
theorem zb.nar {v : Int32} (h : zb v) : narrow .boolean (.int v) = .int v := by
  have h2 : narrow .boolean (.int v) = .int (vp_nar .boolean v) := rfl
  rw [h2, h]
def upN (V : Nat → Nat) (k q : Nat) : Nat → Nat := fun j => if j = k then q else V j
abbrev ZB (p : Program) (R : Room) (s : State) (m : MethodId) (args : Array Value) (meth : Method) (c : Code) (Qc : Array Value → State → Outcome → State → Prop) (A : Nat → Prop) (D : va_G) (cI cB cZ cS : ClassId) (MC MS FR LO : Nat) (code : ByteArray) (own : String) (maxL : Nat) (ret : Option FieldType) (Wf : (Nat → Nat) → va_W) (res : Option Value) : Prop :=
  (p.tables.exec = Jvm.exec) ∧
  (c.code = code) ∧
  (c.maxLocals = maxL) ∧
  (meth.sig.returnType = ret) ∧
  (meth.locks = false) ∧
  (∀ w ∈ zw, w.before args s = true) ∧
  (zN s) ∧
  (s.vm.findClass own = some m.cls) ∧
  (va_K D zcl (zty cI cB cZ cS) s) ∧
  (∀ q, s.heap.size ≤ q → A q) ∧
  (FR ≤ R.frames) ∧
  (LO ≤ R.locals) ∧
  (MC ≤ R.cells) ∧
  (MS ≤ R.slots) ∧
  (∀ (t : State) (H : Heap) (locs : List Loc) (V : Nat → Nat), t.heap = H → va_P D zcl (Wf V) H → va_D A (Wf V) → va_S A s.heap H locs → Qc args s (.returned res) t)
theorem znI {x : Int32} (h : ¬ x < 0) : nI (zk x) = x := by
  apply Int32.toInt_inj.mp
  have h0 : 0 ≤ x.toInt := by
    have h1 := Int32.not_lt.mp h
    rw [Int32.le_iff_toInt_le] at h1
    exact h1
  have h2 : x.toInt < 2 ^ 31 := Int32.toInt_lt x
  show (Int32.ofNat x.toInt.toNat).toInt = x.toInt
  rw [Int32.toInt_ofNat_of_lt (by omega)]
  omega
section zpure
variable {p : Program} {l : Launch} {e : Env} {R : Room} {s : State} {m : MethodId} {args : Array Value} {below : List Frame} {meth : Method} {c : Code} {H : Heap} {locs : List Loc} {cells slots : Nat} {Q : State → Prop} {Qc : Array Value → State → Outcome → State → Prop} {A : Nat → Prop} {D : va_G} {cI cB cZ cS : ClassId} {MC MS FR LO maxL pc : Nat} {code : ByteArray} {own : String} {Wf : (Nat → Nat) → va_W} {V : Nat → Nat} {ls : Array Slot} {rest st0 : List Value}
theorem zreti {v : Int32} (hC : ZB p R s m args meth c Qc A D cI cB cZ cS MC MS FR LO code own maxL (some .int) Wf (some (.int v))) (hP : va_P D zcl (Wf V) H) (hD : va_D A (Wf V)) (hS : va_S A s.heap H locs) (h1 : cells ≤ MC) (h2 : slots ≤ MS) (hdg : decode code pc = .ok (.ireturn, 1)) : W p l e R s m args below meth c H locs cells slots (MQ below Qc args s MC MS A) (F0 m pc ls [.int v]) :=
  W.widen h1 h2 (W.iret hC.1 hC.2.1 hC.2.2.2.1 (fun t ht _ => hC.2.2.2.2.2.2.2.2.2.2.2.2.2.2 t H locs V ht hP hD hS) hS.2.2 hdg hC.2.2.2.2.1)
theorem zretz {v : Int32} (hC : ZB p R s m args meth c Qc A D cI cB cZ cS MC MS FR LO code own maxL (some .boolean) Wf (some (.int v))) (hn : narrow .boolean (.int v) = .int v) (hP : va_P D zcl (Wf V) H) (hD : va_D A (Wf V)) (hS : va_S A s.heap H locs) (h1 : cells ≤ MC) (h2 : slots ≤ MS) (hdg : decode code pc = .ok (.ireturn, 1)) : W p l e R s m args below meth c H locs cells slots (MQ below Qc args s MC MS A) (F0 m pc ls [.int v]) :=
  W.widen h1 h2 (W.zret hC.1 hC.2.1 hC.2.2.2.1 hn (fun t ht _ => hC.2.2.2.2.2.2.2.2.2.2.2.2.2.2 t H locs V ht hP hD hS) hS.2.2 hdg hC.2.2.2.2.1)
theorem zretv (hC : ZB p R s m args meth c Qc A D cI cB cZ cS MC MS FR LO code own maxL none Wf none) (hP : va_P D zcl (Wf V) H) (hD : va_D A (Wf V)) (hS : va_S A s.heap H locs) (h1 : cells ≤ MC) (h2 : slots ≤ MS) (hdg : decode code pc = .ok (.return_, 1)) : W p l e R s m args below meth c H locs cells slots (MQ below Qc args s MC MS A) (F0 m pc ls []) :=
  W.widen h1 h2 (W.vret hC.1 hC.2.1 hC.2.2.2.1 (fun t ht _ => hC.2.2.2.2.2.2.2.2.2.2.2.2.2.2 t H locs V ht hP hD hS) hS.2.2 hdg hC.2.2.2.2.1)
/-- an end of a method, as its callers see it -/
abbrev zQi (r0 : Int32) (Wf : (Nat → Nat) → va_W) (D : va_G) (w0 : va_W) (sz : Nat) : Array Value → State → Outcome → State → Prop := va_Qi (fun (r' : Int32) (_ : Unit) => r' = r0) (fun _ t => ∃ V, va_P D zcl (Wf V) t.heap ∧ va_D (va_A w0 sz) (Wf V)) (va_A w0 sz)
abbrev zQv (Wf : (Nat → Nat) → va_W) (D : va_G) (w0 : va_W) (sz : Nat) : Array Value → State → Outcome → State → Prop := va_Qv (fun (_ : Unit) => True) (fun _ t => ∃ V, va_P D zcl (Wf V) t.heap ∧ va_D (va_A w0 sz) (Wf V)) (va_A w0 sz)
theorem zfree {w0 : va_W} (hD : va_D A w0) (hS : va_S A s.heap H locs) (hA : ∀ q, s.heap.size ≤ q → A q) : ∀ q, va_A w0 H.size q → A q := by
  intro q h
  rcases h with ⟨k, e, h⟩ | h
  · exact hD.2 k (q, e) h
  · exact hA q (Nat.le_trans hS.1 h)
theorem zci {w0 : va_W} {mc ms : Nat} {r0 : Int32} {a : Array Value} (hr : va_Run p l e R s m args below meth c H locs cells slots mc ms (F0 m pc ls st0) rest (zQi r0 Wf D w0 H.size a) (va_A w0 H.size)) (hD : va_D A w0) (hS : va_S A s.heap H locs) (hA : ∀ q, s.heap.size ≤ q → A q)
    (kk : ∀ (V : Nat → Nat) (H1 : Heap) (locs1 : List Loc), va_P D zcl (Wf V) H1 → va_D A (Wf V) → va_S A s.heap H1 locs1 → W p l e R s m args below meth c H1 locs1 (cells + mc) (slots + ms) Q (F0 m (pc + 3) ls (.int r0 :: rest))) : W p l e R s m args below meth c H locs cells slots Q (F0 m pc ls st0) := by
  have hF := zfree hD hS hA
  refine va_calli hr hS (fun q _ h => hF q h) hF (fun r' u t H1 locs1 ht hvm hp hB hz hk hS1 => ?_)
  obtain ⟨V, hP1, hD1⟩ := hB
  have hp : r' = r0 := hp
  subst hp
  exact kk V H1 locs1 (by rw [← ht]; exact hP1) (hD1.weaken (fun _ q _ h => hF q.1 h)) hS1
theorem zcv {w0 : va_W} {mc ms : Nat} {a : Array Value} (hr : va_Run p l e R s m args below meth c H locs cells slots mc ms (F0 m pc ls st0) rest (zQv Wf D w0 H.size a) (va_A w0 H.size)) (hD : va_D A w0) (hS : va_S A s.heap H locs) (hA : ∀ q, s.heap.size ≤ q → A q)
    (kk : ∀ (V : Nat → Nat) (H1 : Heap) (locs1 : List Loc), va_P D zcl (Wf V) H1 → va_D A (Wf V) → va_S A s.heap H1 locs1 → W p l e R s m args below meth c H1 locs1 (cells + mc) (slots + ms) Q (F0 m (pc + 3) ls rest)) : W p l e R s m args below meth c H locs cells slots Q (F0 m pc ls st0) := by
  have hF := zfree hD hS hA
  refine va_callv hr hS (fun q _ h => hF q h) hF (fun u t H1 locs1 ht hvm hp hB hz hk hS1 => ?_)
  obtain ⟨V, hP1, hD1⟩ := hB
  exact kk V H1 locs1 (by rw [← ht]; exact hP1) (hD1.weaken (fun _ q _ h => hF q.1 h)) hS1
/-- the copy that grows: the world, and the new array behind it -/
theorem zcopyI {ws : va_W} (hx : p.tables.exec = Jvm.exec) (hb : c.code = code) (hml : c.maxLocals = maxL) (hown : s.vm.findClass own = some m.cls) (hts : ∀ w ∈ zw, w.before args s = true) (hN : zN s) (hK : va_K D zcl (zty cI cB cZ cS) s) (hP : va_P D zcl ws H) (hD : va_D A ws) (hS : va_S A s.heap H locs) (hA : ∀ q, s.heap.size ≤ q → A q) (k0 : Nat) {a n : Nat} {f : Nat → Int32} (ha : ws[k0]? = some (a, .inl (cI, n, .inl f))) {L : Int32} (hL : ¬ L < 0) (hn : n < zk L) (hM : zk L ≤ 67108864) (hls : ls.size = maxL) {index : Nat}
    (cw : CallB R s args own index y_java_util_Arrays_copyOf2 b_java_util_Arrays_copyOf2 3 (some (.array .int)) (zc y_java_util_Arrays_copyOf2 b_java_util_Arrays_copyOf2 3 (some (.array .int))) { frames := 1, cells := 1, slots := zk L, locals := 40 } 1 (zk L) 2 ∧ (Cond.static y_java_util_Arrays_copyOf2).before args s = true) (hroom : 2 * (F0 m pc ls rest).monitorRoom + (rest.map fun v => v.category).sum ≤ 8) (hdg : decode code pc = .ok (.invokestatic index, 3)) (hkc : cells + 1 ≤ R.cells) (hks : slots + zk L ≤ R.slots)
    (kk : ∀ (q : Nat) (H1 : Heap) (locs1 : List Loc), va_P D zcl (ws ++ [(q, .inl (cI, zk L, .inl (zcp f n)))]) H1 → va_D A (ws ++ [(q, .inl (cI, zk L, .inl (zcp f n)))]) → va_S A s.heap H1 locs1 → W p l e R s m args below meth c H1 locs1 (cells + 1) (slots + zk L) Q (F0 m (pc + 3) ls (.ref q :: rest))) : W p l e R s m args below meth c H locs cells slots Q (F0 m pc ls (.int L :: .ref a :: rest)) := by
  have hM := c_copyOf_int l D cI cB cZ cS H.size a n f (zk L) hn hM
  rw [znI hL] at hM
  have hPc : va_P D zcl [(a, .inl (cI, n, .inl f))] H := fun k q hq => by
    cases k with
    | zero => exact hP k0 q (by rw [ha]; exact hq)
    | succ k => cases hq
  have hDc : va_D A [(a, .inl (cI, n, .inl f))] := ⟨fun i j p q hi hj _ => by
    cases i with
    | succ i => cases hi
    | zero => cases j with
      | succ j => cases hj
      | zero => rfl, fun k q hq => by
    cases k with
    | zero => exact hD.2 k0 q (by rw [ha]; exact hq)
    | succ k => cases hq⟩
  have hF := zfree (s := s) hDc hS hA
  refine va_callr (va_runS (As := [.ref a, .int L]) (rest := rest) ⟨hx, hb, hml, hown, hts⟩ hM cw (zPreS hPc hK hN hDc) rfl rfl hls rfl hroom hdg ⟨hkc, hks⟩) hS (fun q _ h => hF q h) hF (fun u ra t H1 locs1 ht hvm hp hB hz hk hS1 => ?_)
  obtain ⟨hP1, hD1⟩ := hB
  rw [ht] at hP1
  have hra : H.size ≤ ra := by
    rcases hD1.2 1 _ rfl with ⟨k, e, h⟩ | h
    · cases k with
      | zero =>
        have h2 : a = ra := congrArg Prod.fst (Option.some.inj h)
        exact absurd (hD1.1 0 1 _ _ rfl rfl h2) (by decide)
      | succ k => cases h
    · exact h
  have hPw : va_P D zcl ws H1 := by
    intro k q hq
    by_cases hk0 : k = k0
    · subst hk0
      have hq2 : q = (a, .inl (cI, n, .inl f)) := Option.some.inj (hq.symm.trans ha)
      subst hq2
      exact hP1 0 _ rfl
    · refine (hP k q hq).kept (hk q.1 (hP k q hq).lt (fun h => ?_))
      rcases h with ⟨k2, e, h⟩ | h
      · cases k2 with
        | zero =>
          have h2 : a = q.1 := congrArg Prod.fst (Option.some.inj h)
          exact hk0 (hD.1 k k0 q _ hq ha h2.symm)
        | succ k2 => cases h
      · have := (hP k q hq).lt
        omega
  refine kk ra H1 locs1 (va_P.app hPw (fun k q hq => ?_)) (va_D.app hD ⟨fun i j p q hi hj _ => ?_, fun k q hq => ?_⟩ (fun i j x y hx hy hxy => ?_)) hS1
  · cases k with
    | zero => exact hP1 1 q hq
    | succ k => cases hq
  · cases i with
    | succ i => cases hi
    | zero => cases j with
      | succ j => cases hj
      | zero => rfl
  · cases k with
    | zero => exact hF _ (hD1.2 1 q hq)
    | succ k => cases hq
  · cases j with
    | zero =>
      have h2 : ra = y.1 := congrArg Prod.fst (Option.some.inj hy)
      have := (hP i x hx).lt
      omega
    | succ j => cases hy
end zpure
