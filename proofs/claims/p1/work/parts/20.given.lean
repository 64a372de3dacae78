theorem zD_of {args : Array Value} {s : State} (hts : ∀ w ∈ zw, w.before args s = true) : ∃ D : va_G, ∀ (c : Nat) (q : vw_C), zcl[c]? = some q → u_Kn s q.1 q.2.1 q.2.2 (D.1 c) (D.2 c) := by
  have h : ∀ c : Nat, ∃ x : ClassId × (Nat → Nat), ∀ q : vw_C, zcl[c]? = some q → u_Kn s q.1 q.2.1 q.2.2 x.1 x.2 := fun c => match c with
    | 0 => by
      obtain ⟨cC, iS, h⟩ := u_known hts in_Pile (hts _ kw_40)
      exact ⟨(cC, iS), fun q hq => by cases hq; exact h⟩
    | 1 => by
      obtain ⟨cC, iS, h⟩ := u_known hts in_Ledger (hts _ kw_34)
      exact ⟨(cC, iS), fun q hq => by cases hq; exact h⟩
    | 2 => by
      obtain ⟨cC, iS, h⟩ := u_known hts in_Names (hts _ kw_87)
      exact ⟨(cC, iS), fun q hq => by cases hq; exact h⟩
    | 3 => by
      obtain ⟨cC, iS, h⟩ := u_known hts in_Lexer (hts _ kw_255)
      exact ⟨(cC, iS), fun q hq => by cases hq; exact h⟩
    | 4 => by
      obtain ⟨cC, iS, h⟩ := u_known hts in_Terms (hts _ kw_167)
      exact ⟨(cC, iS), fun q hq => by cases hq; exact h⟩
    | 5 => by
      obtain ⟨cC, iS, h⟩ := u_known hts in_Shelf (hts _ kw_165)
      exact ⟨(cC, iS), fun q hq => by cases hq; exact h⟩
    | 6 => by
      obtain ⟨cC, iS, h⟩ := u_known hts in_Parser (hts _ kw_292)
      exact ⟨(cC, iS), fun q hq => by cases hq; exact h⟩
    | 7 => by
      obtain ⟨cC, iS, h⟩ := u_known hts in_Reducer (hts _ kw_471)
      exact ⟨(cC, iS), fun q hq => by cases hq; exact h⟩
    | 8 => by
      obtain ⟨cC, iS, h⟩ := u_known hts in_Typer (hts _ kw_426)
      exact ⟨(cC, iS), fun q hq => by cases hq; exact h⟩
    | 9 => by
      obtain ⟨cC, iS, h⟩ := u_known hts in_Declarer (hts _ kw_424)
      exact ⟨(cC, iS), fun q hq => by cases hq; exact h⟩
    | 10 => by
      obtain ⟨cC, iS, h⟩ := u_known hts in_Printer (hts _ kw_371)
      exact ⟨(cC, iS), fun q hq => by cases hq; exact h⟩
    | 11 => by
      obtain ⟨cC, iS, h⟩ := u_known hts in_ProofDesk (hts _ kw_26)
      exact ⟨(cC, iS), fun q hq => by cases hq; exact h⟩
    | 12 => by
      obtain ⟨cC, iS, h⟩ := u_known hts in_MRows (hts _ kw_1734)
      exact ⟨(cC, iS), fun q hq => by cases hq; exact h⟩
    | 13 => by
      obtain ⟨cC, iS, h⟩ := u_known hts in_MGlobals (hts _ kw_1783)
      exact ⟨(cC, iS), fun q hq => by cases hq; exact h⟩
    | 14 => by
      obtain ⟨cC, iS, h⟩ := u_known hts in_MPlain (hts _ kw_1899)
      exact ⟨(cC, iS), fun q hq => by cases hq; exact h⟩
    | 15 => by
      obtain ⟨cC, iS, h⟩ := u_known hts in_MRules (hts _ kw_2016)
      exact ⟨(cC, iS), fun q hq => by cases hq; exact h⟩
    | 16 => by
      obtain ⟨cC, iS, h⟩ := u_known hts in_ProofDeskModel (hts _ kw_1715)
      exact ⟨(cC, iS), fun q hq => by cases hq; exact h⟩
    | c + 17 => ⟨(0, fun _ => 0), fun q hq => by simp at hq⟩
  obtain ⟨f, hf⟩ := Classical.axiomOfChoice h
  exact ⟨(fun c => (f c).1, fun c => (f c).2), fun c q hq => hf c q hq⟩
theorem ks_242 : (Jvm.Cond.stringRef "ProofDeskModel" (242 : Nat) "\x61xiom") ∈ lw_tbl := List.mem_append_right _ (List.mem_of_getElem? (i := 1722) (by decide +kernel))
theorem kx_242 : (Jvm.Cond.exactly (Jvm.Term.string "ProofDeskModel" (242 : Nat)) "java/lang/String") ∈ flatC (Jvm.Cond.and given_1 narrow_1) := by decide +kernel
theorem ks_244 : (Jvm.Cond.stringRef "ProofDeskModel" (244 : Nat) "def") ∈ lw_tbl := List.mem_append_right _ (List.mem_of_getElem? (i := 1723) (by decide +kernel))
theorem kx_244 : (Jvm.Cond.exactly (Jvm.Term.string "ProofDeskModel" (244 : Nat)) "java/lang/String") ∈ flatC (Jvm.Cond.and given_1 narrow_1) := by decide +kernel
theorem ks_246 : (Jvm.Cond.stringRef "ProofDeskModel" (246 : Nat) "lemma") ∈ lw_tbl := List.mem_append_right _ (List.mem_of_getElem? (i := 1724) (by decide +kernel))
theorem kx_246 : (Jvm.Cond.exactly (Jvm.Term.string "ProofDeskModel" (246 : Nat)) "java/lang/String") ∈ flatC (Jvm.Cond.and given_1 narrow_1) := by decide +kernel
theorem ks_248 : (Jvm.Cond.stringRef "ProofDeskModel" (248 : Nat) "data") ∈ lw_tbl := List.mem_append_right _ (List.mem_of_getElem? (i := 1725) (by decide +kernel))
theorem kx_248 : (Jvm.Cond.exactly (Jvm.Term.string "ProofDeskModel" (248 : Nat)) "java/lang/String") ∈ flatC (Jvm.Cond.and given_1 narrow_1) := by decide +kernel
theorem ks_250 : (Jvm.Cond.stringRef "ProofDeskModel" (250 : Nat) "check") ∈ lw_tbl := List.mem_append_right _ (List.mem_of_getElem? (i := 1726) (by decide +kernel))
theorem kx_250 : (Jvm.Cond.exactly (Jvm.Term.string "ProofDeskModel" (250 : Nat)) "java/lang/String") ∈ flatC (Jvm.Cond.and given_1 narrow_1) := by decide +kernel
theorem ks_252 : (Jvm.Cond.stringRef "ProofDeskModel" (252 : Nat) "norm") ∈ lw_tbl := List.mem_append_right _ (List.mem_of_getElem? (i := 1727) (by decide +kernel))
theorem kx_252 : (Jvm.Cond.exactly (Jvm.Term.string "ProofDeskModel" (252 : Nat)) "java/lang/String") ∈ flatC (Jvm.Cond.and given_1 narrow_1) := by decide +kernel
theorem ks_254 : (Jvm.Cond.stringRef "ProofDeskModel" (254 : Nat) "fun") ∈ lw_tbl := List.mem_append_right _ (List.mem_of_getElem? (i := 1728) (by decide +kernel))
theorem kx_254 : (Jvm.Cond.exactly (Jvm.Term.string "ProofDeskModel" (254 : Nat)) "java/lang/String") ∈ flatC (Jvm.Cond.and given_1 narrow_1) := by decide +kernel
theorem ks_256 : (Jvm.Cond.stringRef "ProofDeskModel" (256 : Nat) "all") ∈ lw_tbl := List.mem_append_right _ (List.mem_of_getElem? (i := 1729) (by decide +kernel))
theorem kx_256 : (Jvm.Cond.exactly (Jvm.Term.string "ProofDeskModel" (256 : Nat)) "java/lang/String") ∈ flatC (Jvm.Cond.and given_1 narrow_1) := by decide +kernel
theorem ks_258 : (Jvm.Cond.stringRef "ProofDeskModel" (258 : Nat) "let") ∈ lw_tbl := List.mem_append_right _ (List.mem_of_getElem? (i := 1730) (by decide +kernel))
theorem kx_258 : (Jvm.Cond.exactly (Jvm.Term.string "ProofDeskModel" (258 : Nat)) "java/lang/String") ∈ flatC (Jvm.Cond.and given_1 narrow_1) := by decide +kernel
theorem ks_260 : (Jvm.Cond.stringRef "ProofDeskModel" (260 : Nat) "in") ∈ lw_tbl := List.mem_append_right _ (List.mem_of_getElem? (i := 1731) (by decide +kernel))
theorem kx_260 : (Jvm.Cond.exactly (Jvm.Term.string "ProofDeskModel" (260 : Nat)) "java/lang/String") ∈ flatC (Jvm.Cond.and given_1 narrow_1) := by decide +kernel
theorem ks_262 : (Jvm.Cond.stringRef "ProofDeskModel" (262 : Nat) "rec") ∈ lw_tbl := List.mem_append_right _ (List.mem_of_getElem? (i := 1732) (by decide +kernel))
theorem kx_262 : (Jvm.Cond.exactly (Jvm.Term.string "ProofDeskModel" (262 : Nat)) "java/lang/String") ∈ flatC (Jvm.Cond.and given_1 narrow_1) := by decide +kernel
theorem k_over : (Jvm.Cond.arrayOver (Jvm.ClassFile.FieldType.object "java/lang/String")) ∈ lw_tbl := List.mem_append_right _ (List.mem_of_getElem? (i := 1721) (by decide +kernel))
theorem zAd_of {b : Nat} {s : State} (hts : ∀ w ∈ lw_tbl, w.before #[Value.ref b] s = true) (hs : ∀ w ∈ flatC (Jvm.Cond.and given_1 narrow_1), w.before #[Value.ref b] s = true) : ∃ ad : Nat → Nat, ∀ i : Nat, i < 11 → vk_R "ProofDeskModel" (zsi i) (zst i) (ad i) s ∧ ∃ cell : Cell, s.heap[ad i]? = some cell ∧ cell.vm.isStatics = false ∧ s.vm.findClass "java/lang/String" = some cell.cls := by
  have h : ∀ i : Nat, ∃ a : Nat, i < 11 → vk_R "ProofDeskModel" (zsi i) (zst i) a s ∧ ∃ cell : Cell, s.heap[a]? = some cell ∧ cell.vm.isStatics = false ∧ s.vm.findClass "java/lang/String" = some cell.cls := fun i => match i with
    | 0 => by
      obtain ⟨a, h⟩ := zStr (hts _ ks_242) (hs _ kx_242)
      exact ⟨a, fun _ => h⟩
    | 1 => by
      obtain ⟨a, h⟩ := zStr (hts _ ks_244) (hs _ kx_244)
      exact ⟨a, fun _ => h⟩
    | 2 => by
      obtain ⟨a, h⟩ := zStr (hts _ ks_246) (hs _ kx_246)
      exact ⟨a, fun _ => h⟩
    | 3 => by
      obtain ⟨a, h⟩ := zStr (hts _ ks_248) (hs _ kx_248)
      exact ⟨a, fun _ => h⟩
    | 4 => by
      obtain ⟨a, h⟩ := zStr (hts _ ks_250) (hs _ kx_250)
      exact ⟨a, fun _ => h⟩
    | 5 => by
      obtain ⟨a, h⟩ := zStr (hts _ ks_252) (hs _ kx_252)
      exact ⟨a, fun _ => h⟩
    | 6 => by
      obtain ⟨a, h⟩ := zStr (hts _ ks_254) (hs _ kx_254)
      exact ⟨a, fun _ => h⟩
    | 7 => by
      obtain ⟨a, h⟩ := zStr (hts _ ks_256) (hs _ kx_256)
      exact ⟨a, fun _ => h⟩
    | 8 => by
      obtain ⟨a, h⟩ := zStr (hts _ ks_258) (hs _ kx_258)
      exact ⟨a, fun _ => h⟩
    | 9 => by
      obtain ⟨a, h⟩ := zStr (hts _ ks_260) (hs _ kx_260)
      exact ⟨a, fun _ => h⟩
    | 10 => by
      obtain ⟨a, h⟩ := zStr (hts _ ks_262) (hs _ kx_262)
      exact ⟨a, fun _ => h⟩
    | i + 11 => ⟨0, fun h => absurd h (by omega)⟩
  exact Classical.axiomOfChoice h
