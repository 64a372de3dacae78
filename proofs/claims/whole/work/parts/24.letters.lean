def zletter (c : Int32) : Prop := (97 ≤ c.toInt ∧ c.toInt ≤ 122) ∨ (65 ≤ c.toInt ∧ c.toInt ≤ 90) ∨ c.toInt = 95
def zdigit (c : Int32) : Prop := 48 ≤ c.toInt ∧ c.toInt ≤ 57
theorem zlits : (97 : Int32).toInt = 97 ∧ (122 : Int32).toInt = 122 ∧ (65 : Int32).toInt = 65 ∧ (90 : Int32).toInt = 90 ∧ (95 : Int32).toInt = 95 ∧ (48 : Int32).toInt = 48 ∧ (57 : Int32).toInt = 57 := by decide
noncomputable def zbool (p : Prop) : Int32 := @ite _ p (Classical.propDecidable p) 1 0
theorem zbool_t {p : Prop} (h : p) : 1 = zbool p := (if_pos h).symm
theorem zbool_f {p : Prop} (h : ¬ p) : 0 = zbool p := (if_neg h).symm
theorem znl {x y : Int32} (h : ¬ x < y) : y ≤ x := Int32.not_lt.mp h
theorem zlt {x y : Int32} (h : x < y) : ¬ y ≤ x := Int32.not_le.mpr h
abbrev b_Lexer_isLetter : ByteArray := prog_4_method_5_code
abbrev y_Lexer_isLetter : MethodName := ⟨"ProofDesk$Lexer", "isLetter", "(I)Z"⟩
theorem d_Lexer_isLetter_0 : decode b_Lexer_isLetter 0 = .ok (.iload_n 0, 1) := by decide +kernel
theorem d_Lexer_isLetter_1 : decode b_Lexer_isLetter 1 = .ok (.bipush 97, 2) := by decide +kernel
theorem d_Lexer_isLetter_3 : decode b_Lexer_isLetter 3 = .ok (.if_icmp .lt 9, 3) := by decide +kernel
theorem d_Lexer_isLetter_12 : decode b_Lexer_isLetter 12 = .ok (.iload_n 0, 1) := by decide +kernel
theorem d_Lexer_isLetter_13 : decode b_Lexer_isLetter 13 = .ok (.bipush 65, 2) := by decide +kernel
theorem d_Lexer_isLetter_15 : decode b_Lexer_isLetter 15 = .ok (.if_icmp .lt 9, 3) := by decide +kernel
theorem d_Lexer_isLetter_24 : decode b_Lexer_isLetter 24 = .ok (.iload_n 0, 1) := by decide +kernel
theorem d_Lexer_isLetter_25 : decode b_Lexer_isLetter 25 = .ok (.bipush 95, 2) := by decide +kernel
theorem d_Lexer_isLetter_27 : decode b_Lexer_isLetter 27 = .ok (.if_icmp .ne 7, 3) := by decide +kernel
theorem d_Lexer_isLetter_34 : decode b_Lexer_isLetter 34 = .ok (.iconst 0, 1) := by decide +kernel
theorem d_Lexer_isLetter_35 : decode b_Lexer_isLetter 35 = .ok (.ireturn, 1) := by decide +kernel
theorem d_Lexer_isLetter_30 : decode b_Lexer_isLetter 30 = .ok (.iconst 1, 1) := by decide +kernel
theorem d_Lexer_isLetter_31 : decode b_Lexer_isLetter 31 = .ok (.goto 4, 3) := by decide +kernel
theorem d_Lexer_isLetter_18 : decode b_Lexer_isLetter 18 = .ok (.iload_n 0, 1) := by decide +kernel
theorem d_Lexer_isLetter_19 : decode b_Lexer_isLetter 19 = .ok (.bipush 90, 2) := by decide +kernel
theorem d_Lexer_isLetter_21 : decode b_Lexer_isLetter 21 = .ok (.if_icmp .le 9, 3) := by decide +kernel
theorem d_Lexer_isLetter_6 : decode b_Lexer_isLetter 6 = .ok (.iload_n 0, 1) := by decide +kernel
theorem d_Lexer_isLetter_7 : decode b_Lexer_isLetter 7 = .ok (.bipush 122, 2) := by decide +kernel
theorem d_Lexer_isLetter_9 : decode b_Lexer_isLetter 9 = .ok (.if_icmp .le 21, 3) := by decide +kernel
set_option maxHeartbeats 4000000 in
set_option maxRecDepth 100000 in
theorem g_Lexer_isLetter (l : Launch) (D : va_G) (cI cB cZ cS : ClassId) (sz : Nat) (ch : Int32) : Met l y_Lexer_isLetter (zc y_Lexer_isLetter b_Lexer_isLetter 1 (some .boolean)) ({ frames := 0, cells := 0, slots := 0, locals := 0 }) (zPc D (zty cI cB cZ cS) [] sz [.int ch]) (va_Qi (fun (r : Int32) (_ : Unit) => r = zbool (zletter ch)) (fun _ t => va_P D zcl [] t.heap ∧ va_D (va_A [] sz) []) (va_A [] sz)) 0 0 (va_A [] sz) := by
  refine Met.ofW (cc := b_Lexer_isLetter) (maxL := 1) (ret := (some .boolean)) (by decide) rfl ?_
  intro p e s m args below meth c s₁ B hml hv
  obtain ⟨rfl, hsz, hP, ⟨hK, hN⟩, hD0⟩ := hv
  have hx := B.exec
  have hb := B.bytes
  have hr := B.returns
  have hts0 := atoms_spec (ws := zc y_Lexer_isLetter b_Lexer_isLetter 1 (some .boolean)) B.pre
  have hts : ∀ w ∈ zw, w.before _ s = true := fun w hw => hts0 w (List.mem_cons_of_mem _ hw)
  have hown : s.vm.findClass "ProofDesk$Lexer" = some m.cls := findClass_of_methodNamed B.named
  have hlocks := B.notSynchronized
  subst hsz
  have hD := hD0.self (sz := s.heap.size)
  generalize hAe : va_A [] s.heap.size = A at hD ⊢
  have hA : ∀ q : Nat, s.heap.size ≤ q → A q := fun q h => by rw [← hAe]; exact Or.inr h
  have hS : va_S A s.heap s.heap [] := va_S.rf
  have hP : va_P D zcl [] s.heap := hP
  have hl := lv_entry ([.int ch]) (n := 1) (Nat.le_of_ble_eq_true rfl)
  rw [lg_entry_eq]
  generalize (lg_sl ([.int ch]) ++ List.replicate (1 - (lg_sl ([.int ch])).length) Slot.unset).toArray = ls at hl ⊢
  have hl : lv_has ls 1 [(0, .int ch)] := hl
  refine lv_iload_n hx hb d_Lexer_isLetter_0 rfl (lv_at hl 0 rfl) ?_
  refine lv_bipush (v := 97) hx hb d_Lexer_isLetter_1 (by decide) ?_
  refine lv_icmp_lt hx hb d_Lexer_isLetter_3 rfl (fun hc_1 => ?_) (fun hc_1 => ?_)
  · have hx9 := hx
    refine lv_iload_n hx hb d_Lexer_isLetter_12 rfl (lv_at hl 0 rfl) ?_
    refine lv_bipush (v := 65) hx hb d_Lexer_isLetter_13 (by decide) ?_
    refine lv_icmp_lt hx hb d_Lexer_isLetter_15 rfl (fun hc_2 => ?_) (fun hc_2 => ?_)
    · have hx9 := hx
      refine lv_iload_n hx hb d_Lexer_isLetter_24 rfl (lv_at hl 0 rfl) ?_
      refine lv_bipush (v := 95) hx hb d_Lexer_isLetter_25 (by decide) ?_
      refine lv_icmp_ne hx hb d_Lexer_isLetter_27 rfl (fun hc_3 => ?_) (fun hc_3 => ?_)
      · have hx9 := hx
        refine lv_iconst (v := 0) hx hb d_Lexer_isLetter_34 (by decide) ?_
        have hP9 := hP.sub (ws' := []) [] rfl
        have hD9 := hD.sub (ws' := []) [] (by decide +kernel) rfl
        refine W.widen (k := 0) (n := 0) (by omega) (by omega) ?_
        exact W.zret (v := 0) hx hb hr rfl (fun t ht hW => ⟨⟨0, (), rfl, by first | (refine zbool_t ?_; obtain ⟨k1, k2, k3, k4, k5, k6, k7⟩ := zlits; unfold zletter; simp only [Int32.lt_iff_toInt_lt, Int32.le_iff_toInt_le, ← Int32.toInt_inj, k1, k2, k3, k4, k5, k6, k7] at *; omega) | (refine zbool_f ?_; obtain ⟨k1, k2, k3, k4, k5, k6, k7⟩ := zlits; unfold zletter; simp only [Int32.lt_iff_toInt_lt, Int32.le_iff_toInt_le, ← Int32.toInt_inj, k1, k2, k3, k4, k5, k6, k7] at *; omega), by rw [ht]; exact hP9, hD9⟩, hS.F ht⟩) hS.2.2 d_Lexer_isLetter_35
      · have hx9 := hx
        refine lv_iconst (v := 1) hx hb d_Lexer_isLetter_30 (by decide) ?_
        refine lv_goto hx hb d_Lexer_isLetter_31 rfl ?_
        have hP9 := hP.sub (ws' := []) [] rfl
        have hD9 := hD.sub (ws' := []) [] (by decide +kernel) rfl
        refine W.widen (k := 0) (n := 0) (by omega) (by omega) ?_
        exact W.zret (v := 1) hx hb hr rfl (fun t ht hW => ⟨⟨1, (), rfl, by first | (refine zbool_t ?_; obtain ⟨k1, k2, k3, k4, k5, k6, k7⟩ := zlits; unfold zletter; simp only [Int32.lt_iff_toInt_lt, Int32.le_iff_toInt_le, ← Int32.toInt_inj, k1, k2, k3, k4, k5, k6, k7] at *; omega) | (refine zbool_f ?_; obtain ⟨k1, k2, k3, k4, k5, k6, k7⟩ := zlits; unfold zletter; simp only [Int32.lt_iff_toInt_lt, Int32.le_iff_toInt_le, ← Int32.toInt_inj, k1, k2, k3, k4, k5, k6, k7] at *; omega), by rw [ht]; exact hP9, hD9⟩, hS.F ht⟩) hS.2.2 d_Lexer_isLetter_35
    · have hx9 := hx
      refine lv_iload_n hx hb d_Lexer_isLetter_18 rfl (lv_at hl 0 rfl) ?_
      refine lv_bipush (v := 90) hx hb d_Lexer_isLetter_19 (by decide) ?_
      refine lv_icmp_le hx hb d_Lexer_isLetter_21 rfl (fun hc_4 => ?_) (fun hc_4 => ?_)
      · have hx9 := hx
        refine lv_iconst (v := 1) hx hb d_Lexer_isLetter_30 (by decide) ?_
        refine lv_goto hx hb d_Lexer_isLetter_31 rfl ?_
        have hP9 := hP.sub (ws' := []) [] rfl
        have hD9 := hD.sub (ws' := []) [] (by decide +kernel) rfl
        refine W.widen (k := 0) (n := 0) (by omega) (by omega) ?_
        exact W.zret (v := 1) hx hb hr rfl (fun t ht hW => ⟨⟨1, (), rfl, by first | (refine zbool_t ?_; obtain ⟨k1, k2, k3, k4, k5, k6, k7⟩ := zlits; unfold zletter; simp only [Int32.lt_iff_toInt_lt, Int32.le_iff_toInt_le, ← Int32.toInt_inj, k1, k2, k3, k4, k5, k6, k7] at *; omega) | (refine zbool_f ?_; obtain ⟨k1, k2, k3, k4, k5, k6, k7⟩ := zlits; unfold zletter; simp only [Int32.lt_iff_toInt_lt, Int32.le_iff_toInt_le, ← Int32.toInt_inj, k1, k2, k3, k4, k5, k6, k7] at *; omega), by rw [ht]; exact hP9, hD9⟩, hS.F ht⟩) hS.2.2 d_Lexer_isLetter_35
      · have hx9 := hx
        refine lv_iload_n hx hb d_Lexer_isLetter_24 rfl (lv_at hl 0 rfl) ?_
        refine lv_bipush (v := 95) hx hb d_Lexer_isLetter_25 (by decide) ?_
        refine lv_icmp_ne hx hb d_Lexer_isLetter_27 rfl (fun hc_5 => ?_) (fun hc_5 => ?_)
        · have hx9 := hx
          refine lv_iconst (v := 0) hx hb d_Lexer_isLetter_34 (by decide) ?_
          have hP9 := hP.sub (ws' := []) [] rfl
          have hD9 := hD.sub (ws' := []) [] (by decide +kernel) rfl
          refine W.widen (k := 0) (n := 0) (by omega) (by omega) ?_
          exact W.zret (v := 0) hx hb hr rfl (fun t ht hW => ⟨⟨0, (), rfl, by first | (refine zbool_t ?_; obtain ⟨k1, k2, k3, k4, k5, k6, k7⟩ := zlits; unfold zletter; simp only [Int32.lt_iff_toInt_lt, Int32.le_iff_toInt_le, ← Int32.toInt_inj, k1, k2, k3, k4, k5, k6, k7] at *; omega) | (refine zbool_f ?_; obtain ⟨k1, k2, k3, k4, k5, k6, k7⟩ := zlits; unfold zletter; simp only [Int32.lt_iff_toInt_lt, Int32.le_iff_toInt_le, ← Int32.toInt_inj, k1, k2, k3, k4, k5, k6, k7] at *; omega), by rw [ht]; exact hP9, hD9⟩, hS.F ht⟩) hS.2.2 d_Lexer_isLetter_35
        · have hx9 := hx
          refine lv_iconst (v := 1) hx hb d_Lexer_isLetter_30 (by decide) ?_
          refine lv_goto hx hb d_Lexer_isLetter_31 rfl ?_
          have hP9 := hP.sub (ws' := []) [] rfl
          have hD9 := hD.sub (ws' := []) [] (by decide +kernel) rfl
          refine W.widen (k := 0) (n := 0) (by omega) (by omega) ?_
          exact W.zret (v := 1) hx hb hr rfl (fun t ht hW => ⟨⟨1, (), rfl, by first | (refine zbool_t ?_; obtain ⟨k1, k2, k3, k4, k5, k6, k7⟩ := zlits; unfold zletter; simp only [Int32.lt_iff_toInt_lt, Int32.le_iff_toInt_le, ← Int32.toInt_inj, k1, k2, k3, k4, k5, k6, k7] at *; omega) | (refine zbool_f ?_; obtain ⟨k1, k2, k3, k4, k5, k6, k7⟩ := zlits; unfold zletter; simp only [Int32.lt_iff_toInt_lt, Int32.le_iff_toInt_le, ← Int32.toInt_inj, k1, k2, k3, k4, k5, k6, k7] at *; omega), by rw [ht]; exact hP9, hD9⟩, hS.F ht⟩) hS.2.2 d_Lexer_isLetter_35
  · have hx9 := hx
    refine lv_iload_n hx hb d_Lexer_isLetter_6 rfl (lv_at hl 0 rfl) ?_
    refine lv_bipush (v := 122) hx hb d_Lexer_isLetter_7 (by decide) ?_
    refine lv_icmp_le hx hb d_Lexer_isLetter_9 rfl (fun hc_6 => ?_) (fun hc_6 => ?_)
    · have hx9 := hx
      refine lv_iconst (v := 1) hx hb d_Lexer_isLetter_30 (by decide) ?_
      refine lv_goto hx hb d_Lexer_isLetter_31 rfl ?_
      have hP9 := hP.sub (ws' := []) [] rfl
      have hD9 := hD.sub (ws' := []) [] (by decide +kernel) rfl
      refine W.widen (k := 0) (n := 0) (by omega) (by omega) ?_
      exact W.zret (v := 1) hx hb hr rfl (fun t ht hW => ⟨⟨1, (), rfl, by first | (refine zbool_t ?_; obtain ⟨k1, k2, k3, k4, k5, k6, k7⟩ := zlits; unfold zletter; simp only [Int32.lt_iff_toInt_lt, Int32.le_iff_toInt_le, ← Int32.toInt_inj, k1, k2, k3, k4, k5, k6, k7] at *; omega) | (refine zbool_f ?_; obtain ⟨k1, k2, k3, k4, k5, k6, k7⟩ := zlits; unfold zletter; simp only [Int32.lt_iff_toInt_lt, Int32.le_iff_toInt_le, ← Int32.toInt_inj, k1, k2, k3, k4, k5, k6, k7] at *; omega), by rw [ht]; exact hP9, hD9⟩, hS.F ht⟩) hS.2.2 d_Lexer_isLetter_35
    · have hx9 := hx
      refine lv_iload_n hx hb d_Lexer_isLetter_12 rfl (lv_at hl 0 rfl) ?_
      refine lv_bipush (v := 65) hx hb d_Lexer_isLetter_13 (by decide) ?_
      refine lv_icmp_lt hx hb d_Lexer_isLetter_15 rfl (fun hc_7 => ?_) (fun hc_7 => ?_)
      · have hx9 := hx
        refine lv_iload_n hx hb d_Lexer_isLetter_24 rfl (lv_at hl 0 rfl) ?_
        refine lv_bipush (v := 95) hx hb d_Lexer_isLetter_25 (by decide) ?_
        refine lv_icmp_ne hx hb d_Lexer_isLetter_27 rfl (fun hc_8 => ?_) (fun hc_8 => ?_)
        · have hx9 := hx
          refine lv_iconst (v := 0) hx hb d_Lexer_isLetter_34 (by decide) ?_
          have hP9 := hP.sub (ws' := []) [] rfl
          have hD9 := hD.sub (ws' := []) [] (by decide +kernel) rfl
          refine W.widen (k := 0) (n := 0) (by omega) (by omega) ?_
          exact W.zret (v := 0) hx hb hr rfl (fun t ht hW => ⟨⟨0, (), rfl, by first | (refine zbool_t ?_; obtain ⟨k1, k2, k3, k4, k5, k6, k7⟩ := zlits; unfold zletter; simp only [Int32.lt_iff_toInt_lt, Int32.le_iff_toInt_le, ← Int32.toInt_inj, k1, k2, k3, k4, k5, k6, k7] at *; omega) | (refine zbool_f ?_; obtain ⟨k1, k2, k3, k4, k5, k6, k7⟩ := zlits; unfold zletter; simp only [Int32.lt_iff_toInt_lt, Int32.le_iff_toInt_le, ← Int32.toInt_inj, k1, k2, k3, k4, k5, k6, k7] at *; omega), by rw [ht]; exact hP9, hD9⟩, hS.F ht⟩) hS.2.2 d_Lexer_isLetter_35
        · have hx9 := hx
          refine lv_iconst (v := 1) hx hb d_Lexer_isLetter_30 (by decide) ?_
          refine lv_goto hx hb d_Lexer_isLetter_31 rfl ?_
          have hP9 := hP.sub (ws' := []) [] rfl
          have hD9 := hD.sub (ws' := []) [] (by decide +kernel) rfl
          refine W.widen (k := 0) (n := 0) (by omega) (by omega) ?_
          exact W.zret (v := 1) hx hb hr rfl (fun t ht hW => ⟨⟨1, (), rfl, by first | (refine zbool_t ?_; obtain ⟨k1, k2, k3, k4, k5, k6, k7⟩ := zlits; unfold zletter; simp only [Int32.lt_iff_toInt_lt, Int32.le_iff_toInt_le, ← Int32.toInt_inj, k1, k2, k3, k4, k5, k6, k7] at *; omega) | (refine zbool_f ?_; obtain ⟨k1, k2, k3, k4, k5, k6, k7⟩ := zlits; unfold zletter; simp only [Int32.lt_iff_toInt_lt, Int32.le_iff_toInt_le, ← Int32.toInt_inj, k1, k2, k3, k4, k5, k6, k7] at *; omega), by rw [ht]; exact hP9, hD9⟩, hS.F ht⟩) hS.2.2 d_Lexer_isLetter_35
      · have hx9 := hx
        refine lv_iload_n hx hb d_Lexer_isLetter_18 rfl (lv_at hl 0 rfl) ?_
        refine lv_bipush (v := 90) hx hb d_Lexer_isLetter_19 (by decide) ?_
        refine lv_icmp_le hx hb d_Lexer_isLetter_21 rfl (fun hc_9 => ?_) (fun hc_9 => ?_)
        · have hx9 := hx
          refine lv_iconst (v := 1) hx hb d_Lexer_isLetter_30 (by decide) ?_
          refine lv_goto hx hb d_Lexer_isLetter_31 rfl ?_
          have hP9 := hP.sub (ws' := []) [] rfl
          have hD9 := hD.sub (ws' := []) [] (by decide +kernel) rfl
          refine W.widen (k := 0) (n := 0) (by omega) (by omega) ?_
          exact W.zret (v := 1) hx hb hr rfl (fun t ht hW => ⟨⟨1, (), rfl, by first | (refine zbool_t ?_; obtain ⟨k1, k2, k3, k4, k5, k6, k7⟩ := zlits; unfold zletter; simp only [Int32.lt_iff_toInt_lt, Int32.le_iff_toInt_le, ← Int32.toInt_inj, k1, k2, k3, k4, k5, k6, k7] at *; omega) | (refine zbool_f ?_; obtain ⟨k1, k2, k3, k4, k5, k6, k7⟩ := zlits; unfold zletter; simp only [Int32.lt_iff_toInt_lt, Int32.le_iff_toInt_le, ← Int32.toInt_inj, k1, k2, k3, k4, k5, k6, k7] at *; omega), by rw [ht]; exact hP9, hD9⟩, hS.F ht⟩) hS.2.2 d_Lexer_isLetter_35
        · have hx9 := hx
          refine lv_iload_n hx hb d_Lexer_isLetter_24 rfl (lv_at hl 0 rfl) ?_
          refine lv_bipush (v := 95) hx hb d_Lexer_isLetter_25 (by decide) ?_
          refine lv_icmp_ne hx hb d_Lexer_isLetter_27 rfl (fun hc_10 => ?_) (fun hc_10 => ?_)
          · have hx9 := hx
            refine lv_iconst (v := 0) hx hb d_Lexer_isLetter_34 (by decide) ?_
            have hP9 := hP.sub (ws' := []) [] rfl
            have hD9 := hD.sub (ws' := []) [] (by decide +kernel) rfl
            refine W.widen (k := 0) (n := 0) (by omega) (by omega) ?_
            exact W.zret (v := 0) hx hb hr rfl (fun t ht hW => ⟨⟨0, (), rfl, by first | (refine zbool_t ?_; obtain ⟨k1, k2, k3, k4, k5, k6, k7⟩ := zlits; unfold zletter; simp only [Int32.lt_iff_toInt_lt, Int32.le_iff_toInt_le, ← Int32.toInt_inj, k1, k2, k3, k4, k5, k6, k7] at *; omega) | (refine zbool_f ?_; obtain ⟨k1, k2, k3, k4, k5, k6, k7⟩ := zlits; unfold zletter; simp only [Int32.lt_iff_toInt_lt, Int32.le_iff_toInt_le, ← Int32.toInt_inj, k1, k2, k3, k4, k5, k6, k7] at *; omega), by rw [ht]; exact hP9, hD9⟩, hS.F ht⟩) hS.2.2 d_Lexer_isLetter_35
          · have hx9 := hx
            refine lv_iconst (v := 1) hx hb d_Lexer_isLetter_30 (by decide) ?_
            refine lv_goto hx hb d_Lexer_isLetter_31 rfl ?_
            have hP9 := hP.sub (ws' := []) [] rfl
            have hD9 := hD.sub (ws' := []) [] (by decide +kernel) rfl
            refine W.widen (k := 0) (n := 0) (by omega) (by omega) ?_
            exact W.zret (v := 1) hx hb hr rfl (fun t ht hW => ⟨⟨1, (), rfl, by first | (refine zbool_t ?_; obtain ⟨k1, k2, k3, k4, k5, k6, k7⟩ := zlits; unfold zletter; simp only [Int32.lt_iff_toInt_lt, Int32.le_iff_toInt_le, ← Int32.toInt_inj, k1, k2, k3, k4, k5, k6, k7] at *; omega) | (refine zbool_f ?_; obtain ⟨k1, k2, k3, k4, k5, k6, k7⟩ := zlits; unfold zletter; simp only [Int32.lt_iff_toInt_lt, Int32.le_iff_toInt_le, ← Int32.toInt_inj, k1, k2, k3, k4, k5, k6, k7] at *; omega), by rw [ht]; exact hP9, hD9⟩, hS.F ht⟩) hS.2.2 d_Lexer_isLetter_35
abbrev b_Lexer_isDigit : ByteArray := prog_4_method_6_code
abbrev y_Lexer_isDigit : MethodName := ⟨"ProofDesk$Lexer", "isDigit", "(I)Z"⟩
theorem d_Lexer_isDigit_0 : decode b_Lexer_isDigit 0 = .ok (.iload_n 0, 1) := by decide +kernel
theorem d_Lexer_isDigit_1 : decode b_Lexer_isDigit 1 = .ok (.bipush 48, 2) := by decide +kernel
theorem d_Lexer_isDigit_3 : decode b_Lexer_isDigit 3 = .ok (.if_icmp .lt 13, 3) := by decide +kernel
theorem d_Lexer_isDigit_16 : decode b_Lexer_isDigit 16 = .ok (.iconst 0, 1) := by decide +kernel
theorem d_Lexer_isDigit_17 : decode b_Lexer_isDigit 17 = .ok (.ireturn, 1) := by decide +kernel
theorem d_Lexer_isDigit_6 : decode b_Lexer_isDigit 6 = .ok (.iload_n 0, 1) := by decide +kernel
theorem d_Lexer_isDigit_7 : decode b_Lexer_isDigit 7 = .ok (.bipush 57, 2) := by decide +kernel
theorem d_Lexer_isDigit_9 : decode b_Lexer_isDigit 9 = .ok (.if_icmp .gt 7, 3) := by decide +kernel
theorem d_Lexer_isDigit_12 : decode b_Lexer_isDigit 12 = .ok (.iconst 1, 1) := by decide +kernel
theorem d_Lexer_isDigit_13 : decode b_Lexer_isDigit 13 = .ok (.goto 4, 3) := by decide +kernel
set_option maxHeartbeats 4000000 in
set_option maxRecDepth 100000 in
theorem g_Lexer_isDigit (l : Launch) (D : va_G) (cI cB cZ cS : ClassId) (sz : Nat) (ch : Int32) : Met l y_Lexer_isDigit (zc y_Lexer_isDigit b_Lexer_isDigit 1 (some .boolean)) ({ frames := 0, cells := 0, slots := 0, locals := 0 }) (zPc D (zty cI cB cZ cS) [] sz [.int ch]) (va_Qi (fun (r : Int32) (_ : Unit) => r = zbool (zdigit ch)) (fun _ t => va_P D zcl [] t.heap ∧ va_D (va_A [] sz) []) (va_A [] sz)) 0 0 (va_A [] sz) := by
  refine Met.ofW (cc := b_Lexer_isDigit) (maxL := 1) (ret := (some .boolean)) (by decide) rfl ?_
  intro p e s m args below meth c s₁ B hml hv
  obtain ⟨rfl, hsz, hP, ⟨hK, hN⟩, hD0⟩ := hv
  have hx := B.exec
  have hb := B.bytes
  have hr := B.returns
  have hts0 := atoms_spec (ws := zc y_Lexer_isDigit b_Lexer_isDigit 1 (some .boolean)) B.pre
  have hts : ∀ w ∈ zw, w.before _ s = true := fun w hw => hts0 w (List.mem_cons_of_mem _ hw)
  have hown : s.vm.findClass "ProofDesk$Lexer" = some m.cls := findClass_of_methodNamed B.named
  have hlocks := B.notSynchronized
  subst hsz
  have hD := hD0.self (sz := s.heap.size)
  generalize hAe : va_A [] s.heap.size = A at hD ⊢
  have hA : ∀ q : Nat, s.heap.size ≤ q → A q := fun q h => by rw [← hAe]; exact Or.inr h
  have hS : va_S A s.heap s.heap [] := va_S.rf
  have hP : va_P D zcl [] s.heap := hP
  have hl := lv_entry ([.int ch]) (n := 1) (Nat.le_of_ble_eq_true rfl)
  rw [lg_entry_eq]
  generalize (lg_sl ([.int ch]) ++ List.replicate (1 - (lg_sl ([.int ch])).length) Slot.unset).toArray = ls at hl ⊢
  have hl : lv_has ls 1 [(0, .int ch)] := hl
  refine lv_iload_n hx hb d_Lexer_isDigit_0 rfl (lv_at hl 0 rfl) ?_
  refine lv_bipush (v := 48) hx hb d_Lexer_isDigit_1 (by decide) ?_
  refine lv_icmp_lt hx hb d_Lexer_isDigit_3 rfl (fun hc_1 => ?_) (fun hc_1 => ?_)
  · have hx9 := hx
    refine lv_iconst (v := 0) hx hb d_Lexer_isDigit_16 (by decide) ?_
    have hP9 := hP.sub (ws' := []) [] rfl
    have hD9 := hD.sub (ws' := []) [] (by decide +kernel) rfl
    refine W.widen (k := 0) (n := 0) (by omega) (by omega) ?_
    exact W.zret (v := 0) hx hb hr rfl (fun t ht hW => ⟨⟨0, (), rfl, by first | (refine zbool_t ?_; obtain ⟨k1, k2, k3, k4, k5, k6, k7⟩ := zlits; unfold zdigit; simp only [Int32.lt_iff_toInt_lt, Int32.le_iff_toInt_le, ← Int32.toInt_inj, k1, k2, k3, k4, k5, k6, k7] at *; omega) | (refine zbool_f ?_; obtain ⟨k1, k2, k3, k4, k5, k6, k7⟩ := zlits; unfold zdigit; simp only [Int32.lt_iff_toInt_lt, Int32.le_iff_toInt_le, ← Int32.toInt_inj, k1, k2, k3, k4, k5, k6, k7] at *; omega), by rw [ht]; exact hP9, hD9⟩, hS.F ht⟩) hS.2.2 d_Lexer_isDigit_17
  · have hx9 := hx
    refine lv_iload_n hx hb d_Lexer_isDigit_6 rfl (lv_at hl 0 rfl) ?_
    refine lv_bipush (v := 57) hx hb d_Lexer_isDigit_7 (by decide) ?_
    refine lv_icmp_gt hx hb d_Lexer_isDigit_9 rfl (fun hc_2 => ?_) (fun hc_2 => ?_)
    · have hx9 := hx
      refine lv_iconst (v := 0) hx hb d_Lexer_isDigit_16 (by decide) ?_
      have hP9 := hP.sub (ws' := []) [] rfl
      have hD9 := hD.sub (ws' := []) [] (by decide +kernel) rfl
      refine W.widen (k := 0) (n := 0) (by omega) (by omega) ?_
      exact W.zret (v := 0) hx hb hr rfl (fun t ht hW => ⟨⟨0, (), rfl, by first | (refine zbool_t ?_; obtain ⟨k1, k2, k3, k4, k5, k6, k7⟩ := zlits; unfold zdigit; simp only [Int32.lt_iff_toInt_lt, Int32.le_iff_toInt_le, ← Int32.toInt_inj, k1, k2, k3, k4, k5, k6, k7] at *; omega) | (refine zbool_f ?_; obtain ⟨k1, k2, k3, k4, k5, k6, k7⟩ := zlits; unfold zdigit; simp only [Int32.lt_iff_toInt_lt, Int32.le_iff_toInt_le, ← Int32.toInt_inj, k1, k2, k3, k4, k5, k6, k7] at *; omega), by rw [ht]; exact hP9, hD9⟩, hS.F ht⟩) hS.2.2 d_Lexer_isDigit_17
    · have hx9 := hx
      refine lv_iconst (v := 1) hx hb d_Lexer_isDigit_12 (by decide) ?_
      refine lv_goto hx hb d_Lexer_isDigit_13 rfl ?_
      have hP9 := hP.sub (ws' := []) [] rfl
      have hD9 := hD.sub (ws' := []) [] (by decide +kernel) rfl
      refine W.widen (k := 0) (n := 0) (by omega) (by omega) ?_
      exact W.zret (v := 1) hx hb hr rfl (fun t ht hW => ⟨⟨1, (), rfl, by first | (refine zbool_t ?_; obtain ⟨k1, k2, k3, k4, k5, k6, k7⟩ := zlits; unfold zdigit; simp only [Int32.lt_iff_toInt_lt, Int32.le_iff_toInt_le, ← Int32.toInt_inj, k1, k2, k3, k4, k5, k6, k7] at *; omega) | (refine zbool_f ?_; obtain ⟨k1, k2, k3, k4, k5, k6, k7⟩ := zlits; unfold zdigit; simp only [Int32.lt_iff_toInt_lt, Int32.le_iff_toInt_le, ← Int32.toInt_inj, k1, k2, k3, k4, k5, k6, k7] at *; omega), by rw [ht]; exact hP9, hD9⟩, hS.F ht⟩) hS.2.2 d_Lexer_isDigit_17
abbrev b_ProofDeskModel_isLetter : ByteArray := prog_14_method_5_code
abbrev y_ProofDeskModel_isLetter : MethodName := ⟨"ProofDeskModel", "isLetter", "(I)Z"⟩
theorem d_ProofDeskModel_isLetter_0 : decode b_ProofDeskModel_isLetter 0 = .ok (.iload_n 0, 1) := by decide +kernel
theorem d_ProofDeskModel_isLetter_1 : decode b_ProofDeskModel_isLetter 1 = .ok (.bipush 97, 2) := by decide +kernel
theorem d_ProofDeskModel_isLetter_3 : decode b_ProofDeskModel_isLetter 3 = .ok (.if_icmp .lt 9, 3) := by decide +kernel
theorem d_ProofDeskModel_isLetter_12 : decode b_ProofDeskModel_isLetter 12 = .ok (.iload_n 0, 1) := by decide +kernel
theorem d_ProofDeskModel_isLetter_13 : decode b_ProofDeskModel_isLetter 13 = .ok (.bipush 65, 2) := by decide +kernel
theorem d_ProofDeskModel_isLetter_15 : decode b_ProofDeskModel_isLetter 15 = .ok (.if_icmp .lt 9, 3) := by decide +kernel
theorem d_ProofDeskModel_isLetter_24 : decode b_ProofDeskModel_isLetter 24 = .ok (.iload_n 0, 1) := by decide +kernel
theorem d_ProofDeskModel_isLetter_25 : decode b_ProofDeskModel_isLetter 25 = .ok (.bipush 95, 2) := by decide +kernel
theorem d_ProofDeskModel_isLetter_27 : decode b_ProofDeskModel_isLetter 27 = .ok (.if_icmp .ne 7, 3) := by decide +kernel
theorem d_ProofDeskModel_isLetter_34 : decode b_ProofDeskModel_isLetter 34 = .ok (.iconst 0, 1) := by decide +kernel
theorem d_ProofDeskModel_isLetter_35 : decode b_ProofDeskModel_isLetter 35 = .ok (.ireturn, 1) := by decide +kernel
theorem d_ProofDeskModel_isLetter_30 : decode b_ProofDeskModel_isLetter 30 = .ok (.iconst 1, 1) := by decide +kernel
theorem d_ProofDeskModel_isLetter_31 : decode b_ProofDeskModel_isLetter 31 = .ok (.goto 4, 3) := by decide +kernel
theorem d_ProofDeskModel_isLetter_18 : decode b_ProofDeskModel_isLetter 18 = .ok (.iload_n 0, 1) := by decide +kernel
theorem d_ProofDeskModel_isLetter_19 : decode b_ProofDeskModel_isLetter 19 = .ok (.bipush 90, 2) := by decide +kernel
theorem d_ProofDeskModel_isLetter_21 : decode b_ProofDeskModel_isLetter 21 = .ok (.if_icmp .le 9, 3) := by decide +kernel
theorem d_ProofDeskModel_isLetter_6 : decode b_ProofDeskModel_isLetter 6 = .ok (.iload_n 0, 1) := by decide +kernel
theorem d_ProofDeskModel_isLetter_7 : decode b_ProofDeskModel_isLetter 7 = .ok (.bipush 122, 2) := by decide +kernel
theorem d_ProofDeskModel_isLetter_9 : decode b_ProofDeskModel_isLetter 9 = .ok (.if_icmp .le 21, 3) := by decide +kernel
set_option maxHeartbeats 4000000 in
set_option maxRecDepth 100000 in
theorem e_isLetter (l : Launch) (D : va_G) (cI cB cZ cS : ClassId) (sz : Nat) (ch : Int32) : Met l y_ProofDeskModel_isLetter (zc y_ProofDeskModel_isLetter b_ProofDeskModel_isLetter 1 (some .boolean)) ({ frames := 0, cells := 0, slots := 0, locals := 0 }) (zPc D (zty cI cB cZ cS) [] sz [.int ch]) (va_Qi (fun (r : Int32) (_ : Unit) => r = zbool (zletter ch)) (fun _ t => va_P D zcl [] t.heap ∧ va_D (va_A [] sz) []) (va_A [] sz)) 0 0 (va_A [] sz) := by
  refine Met.ofW (cc := b_ProofDeskModel_isLetter) (maxL := 1) (ret := (some .boolean)) (by decide) rfl ?_
  intro p e s m args below meth c s₁ B hml hv
  obtain ⟨rfl, hsz, hP, ⟨hK, hN⟩, hD0⟩ := hv
  have hx := B.exec
  have hb := B.bytes
  have hr := B.returns
  have hts0 := atoms_spec (ws := zc y_ProofDeskModel_isLetter b_ProofDeskModel_isLetter 1 (some .boolean)) B.pre
  have hts : ∀ w ∈ zw, w.before _ s = true := fun w hw => hts0 w (List.mem_cons_of_mem _ hw)
  have hown : s.vm.findClass "ProofDeskModel" = some m.cls := findClass_of_methodNamed B.named
  have hlocks := B.notSynchronized
  subst hsz
  have hD := hD0.self (sz := s.heap.size)
  generalize hAe : va_A [] s.heap.size = A at hD ⊢
  have hA : ∀ q : Nat, s.heap.size ≤ q → A q := fun q h => by rw [← hAe]; exact Or.inr h
  have hS : va_S A s.heap s.heap [] := va_S.rf
  have hP : va_P D zcl [] s.heap := hP
  have hl := lv_entry ([.int ch]) (n := 1) (Nat.le_of_ble_eq_true rfl)
  rw [lg_entry_eq]
  generalize (lg_sl ([.int ch]) ++ List.replicate (1 - (lg_sl ([.int ch])).length) Slot.unset).toArray = ls at hl ⊢
  have hl : lv_has ls 1 [(0, .int ch)] := hl
  refine lv_iload_n hx hb d_ProofDeskModel_isLetter_0 rfl (lv_at hl 0 rfl) ?_
  refine lv_bipush (v := 97) hx hb d_ProofDeskModel_isLetter_1 (by decide) ?_
  refine lv_icmp_lt hx hb d_ProofDeskModel_isLetter_3 rfl (fun hc_1 => ?_) (fun hc_1 => ?_)
  · have hx9 := hx
    refine lv_iload_n hx hb d_ProofDeskModel_isLetter_12 rfl (lv_at hl 0 rfl) ?_
    refine lv_bipush (v := 65) hx hb d_ProofDeskModel_isLetter_13 (by decide) ?_
    refine lv_icmp_lt hx hb d_ProofDeskModel_isLetter_15 rfl (fun hc_2 => ?_) (fun hc_2 => ?_)
    · have hx9 := hx
      refine lv_iload_n hx hb d_ProofDeskModel_isLetter_24 rfl (lv_at hl 0 rfl) ?_
      refine lv_bipush (v := 95) hx hb d_ProofDeskModel_isLetter_25 (by decide) ?_
      refine lv_icmp_ne hx hb d_ProofDeskModel_isLetter_27 rfl (fun hc_3 => ?_) (fun hc_3 => ?_)
      · have hx9 := hx
        refine lv_iconst (v := 0) hx hb d_ProofDeskModel_isLetter_34 (by decide) ?_
        have hP9 := hP.sub (ws' := []) [] rfl
        have hD9 := hD.sub (ws' := []) [] (by decide +kernel) rfl
        refine W.widen (k := 0) (n := 0) (by omega) (by omega) ?_
        exact W.zret (v := 0) hx hb hr rfl (fun t ht hW => ⟨⟨0, (), rfl, by first | (refine zbool_t ?_; obtain ⟨k1, k2, k3, k4, k5, k6, k7⟩ := zlits; unfold zletter; simp only [Int32.lt_iff_toInt_lt, Int32.le_iff_toInt_le, ← Int32.toInt_inj, k1, k2, k3, k4, k5, k6, k7] at *; omega) | (refine zbool_f ?_; obtain ⟨k1, k2, k3, k4, k5, k6, k7⟩ := zlits; unfold zletter; simp only [Int32.lt_iff_toInt_lt, Int32.le_iff_toInt_le, ← Int32.toInt_inj, k1, k2, k3, k4, k5, k6, k7] at *; omega), by rw [ht]; exact hP9, hD9⟩, hS.F ht⟩) hS.2.2 d_ProofDeskModel_isLetter_35
      · have hx9 := hx
        refine lv_iconst (v := 1) hx hb d_ProofDeskModel_isLetter_30 (by decide) ?_
        refine lv_goto hx hb d_ProofDeskModel_isLetter_31 rfl ?_
        have hP9 := hP.sub (ws' := []) [] rfl
        have hD9 := hD.sub (ws' := []) [] (by decide +kernel) rfl
        refine W.widen (k := 0) (n := 0) (by omega) (by omega) ?_
        exact W.zret (v := 1) hx hb hr rfl (fun t ht hW => ⟨⟨1, (), rfl, by first | (refine zbool_t ?_; obtain ⟨k1, k2, k3, k4, k5, k6, k7⟩ := zlits; unfold zletter; simp only [Int32.lt_iff_toInt_lt, Int32.le_iff_toInt_le, ← Int32.toInt_inj, k1, k2, k3, k4, k5, k6, k7] at *; omega) | (refine zbool_f ?_; obtain ⟨k1, k2, k3, k4, k5, k6, k7⟩ := zlits; unfold zletter; simp only [Int32.lt_iff_toInt_lt, Int32.le_iff_toInt_le, ← Int32.toInt_inj, k1, k2, k3, k4, k5, k6, k7] at *; omega), by rw [ht]; exact hP9, hD9⟩, hS.F ht⟩) hS.2.2 d_ProofDeskModel_isLetter_35
    · have hx9 := hx
      refine lv_iload_n hx hb d_ProofDeskModel_isLetter_18 rfl (lv_at hl 0 rfl) ?_
      refine lv_bipush (v := 90) hx hb d_ProofDeskModel_isLetter_19 (by decide) ?_
      refine lv_icmp_le hx hb d_ProofDeskModel_isLetter_21 rfl (fun hc_4 => ?_) (fun hc_4 => ?_)
      · have hx9 := hx
        refine lv_iconst (v := 1) hx hb d_ProofDeskModel_isLetter_30 (by decide) ?_
        refine lv_goto hx hb d_ProofDeskModel_isLetter_31 rfl ?_
        have hP9 := hP.sub (ws' := []) [] rfl
        have hD9 := hD.sub (ws' := []) [] (by decide +kernel) rfl
        refine W.widen (k := 0) (n := 0) (by omega) (by omega) ?_
        exact W.zret (v := 1) hx hb hr rfl (fun t ht hW => ⟨⟨1, (), rfl, by first | (refine zbool_t ?_; obtain ⟨k1, k2, k3, k4, k5, k6, k7⟩ := zlits; unfold zletter; simp only [Int32.lt_iff_toInt_lt, Int32.le_iff_toInt_le, ← Int32.toInt_inj, k1, k2, k3, k4, k5, k6, k7] at *; omega) | (refine zbool_f ?_; obtain ⟨k1, k2, k3, k4, k5, k6, k7⟩ := zlits; unfold zletter; simp only [Int32.lt_iff_toInt_lt, Int32.le_iff_toInt_le, ← Int32.toInt_inj, k1, k2, k3, k4, k5, k6, k7] at *; omega), by rw [ht]; exact hP9, hD9⟩, hS.F ht⟩) hS.2.2 d_ProofDeskModel_isLetter_35
      · have hx9 := hx
        refine lv_iload_n hx hb d_ProofDeskModel_isLetter_24 rfl (lv_at hl 0 rfl) ?_
        refine lv_bipush (v := 95) hx hb d_ProofDeskModel_isLetter_25 (by decide) ?_
        refine lv_icmp_ne hx hb d_ProofDeskModel_isLetter_27 rfl (fun hc_5 => ?_) (fun hc_5 => ?_)
        · have hx9 := hx
          refine lv_iconst (v := 0) hx hb d_ProofDeskModel_isLetter_34 (by decide) ?_
          have hP9 := hP.sub (ws' := []) [] rfl
          have hD9 := hD.sub (ws' := []) [] (by decide +kernel) rfl
          refine W.widen (k := 0) (n := 0) (by omega) (by omega) ?_
          exact W.zret (v := 0) hx hb hr rfl (fun t ht hW => ⟨⟨0, (), rfl, by first | (refine zbool_t ?_; obtain ⟨k1, k2, k3, k4, k5, k6, k7⟩ := zlits; unfold zletter; simp only [Int32.lt_iff_toInt_lt, Int32.le_iff_toInt_le, ← Int32.toInt_inj, k1, k2, k3, k4, k5, k6, k7] at *; omega) | (refine zbool_f ?_; obtain ⟨k1, k2, k3, k4, k5, k6, k7⟩ := zlits; unfold zletter; simp only [Int32.lt_iff_toInt_lt, Int32.le_iff_toInt_le, ← Int32.toInt_inj, k1, k2, k3, k4, k5, k6, k7] at *; omega), by rw [ht]; exact hP9, hD9⟩, hS.F ht⟩) hS.2.2 d_ProofDeskModel_isLetter_35
        · have hx9 := hx
          refine lv_iconst (v := 1) hx hb d_ProofDeskModel_isLetter_30 (by decide) ?_
          refine lv_goto hx hb d_ProofDeskModel_isLetter_31 rfl ?_
          have hP9 := hP.sub (ws' := []) [] rfl
          have hD9 := hD.sub (ws' := []) [] (by decide +kernel) rfl
          refine W.widen (k := 0) (n := 0) (by omega) (by omega) ?_
          exact W.zret (v := 1) hx hb hr rfl (fun t ht hW => ⟨⟨1, (), rfl, by first | (refine zbool_t ?_; obtain ⟨k1, k2, k3, k4, k5, k6, k7⟩ := zlits; unfold zletter; simp only [Int32.lt_iff_toInt_lt, Int32.le_iff_toInt_le, ← Int32.toInt_inj, k1, k2, k3, k4, k5, k6, k7] at *; omega) | (refine zbool_f ?_; obtain ⟨k1, k2, k3, k4, k5, k6, k7⟩ := zlits; unfold zletter; simp only [Int32.lt_iff_toInt_lt, Int32.le_iff_toInt_le, ← Int32.toInt_inj, k1, k2, k3, k4, k5, k6, k7] at *; omega), by rw [ht]; exact hP9, hD9⟩, hS.F ht⟩) hS.2.2 d_ProofDeskModel_isLetter_35
  · have hx9 := hx
    refine lv_iload_n hx hb d_ProofDeskModel_isLetter_6 rfl (lv_at hl 0 rfl) ?_
    refine lv_bipush (v := 122) hx hb d_ProofDeskModel_isLetter_7 (by decide) ?_
    refine lv_icmp_le hx hb d_ProofDeskModel_isLetter_9 rfl (fun hc_6 => ?_) (fun hc_6 => ?_)
    · have hx9 := hx
      refine lv_iconst (v := 1) hx hb d_ProofDeskModel_isLetter_30 (by decide) ?_
      refine lv_goto hx hb d_ProofDeskModel_isLetter_31 rfl ?_
      have hP9 := hP.sub (ws' := []) [] rfl
      have hD9 := hD.sub (ws' := []) [] (by decide +kernel) rfl
      refine W.widen (k := 0) (n := 0) (by omega) (by omega) ?_
      exact W.zret (v := 1) hx hb hr rfl (fun t ht hW => ⟨⟨1, (), rfl, by first | (refine zbool_t ?_; obtain ⟨k1, k2, k3, k4, k5, k6, k7⟩ := zlits; unfold zletter; simp only [Int32.lt_iff_toInt_lt, Int32.le_iff_toInt_le, ← Int32.toInt_inj, k1, k2, k3, k4, k5, k6, k7] at *; omega) | (refine zbool_f ?_; obtain ⟨k1, k2, k3, k4, k5, k6, k7⟩ := zlits; unfold zletter; simp only [Int32.lt_iff_toInt_lt, Int32.le_iff_toInt_le, ← Int32.toInt_inj, k1, k2, k3, k4, k5, k6, k7] at *; omega), by rw [ht]; exact hP9, hD9⟩, hS.F ht⟩) hS.2.2 d_ProofDeskModel_isLetter_35
    · have hx9 := hx
      refine lv_iload_n hx hb d_ProofDeskModel_isLetter_12 rfl (lv_at hl 0 rfl) ?_
      refine lv_bipush (v := 65) hx hb d_ProofDeskModel_isLetter_13 (by decide) ?_
      refine lv_icmp_lt hx hb d_ProofDeskModel_isLetter_15 rfl (fun hc_7 => ?_) (fun hc_7 => ?_)
      · have hx9 := hx
        refine lv_iload_n hx hb d_ProofDeskModel_isLetter_24 rfl (lv_at hl 0 rfl) ?_
        refine lv_bipush (v := 95) hx hb d_ProofDeskModel_isLetter_25 (by decide) ?_
        refine lv_icmp_ne hx hb d_ProofDeskModel_isLetter_27 rfl (fun hc_8 => ?_) (fun hc_8 => ?_)
        · have hx9 := hx
          refine lv_iconst (v := 0) hx hb d_ProofDeskModel_isLetter_34 (by decide) ?_
          have hP9 := hP.sub (ws' := []) [] rfl
          have hD9 := hD.sub (ws' := []) [] (by decide +kernel) rfl
          refine W.widen (k := 0) (n := 0) (by omega) (by omega) ?_
          exact W.zret (v := 0) hx hb hr rfl (fun t ht hW => ⟨⟨0, (), rfl, by first | (refine zbool_t ?_; obtain ⟨k1, k2, k3, k4, k5, k6, k7⟩ := zlits; unfold zletter; simp only [Int32.lt_iff_toInt_lt, Int32.le_iff_toInt_le, ← Int32.toInt_inj, k1, k2, k3, k4, k5, k6, k7] at *; omega) | (refine zbool_f ?_; obtain ⟨k1, k2, k3, k4, k5, k6, k7⟩ := zlits; unfold zletter; simp only [Int32.lt_iff_toInt_lt, Int32.le_iff_toInt_le, ← Int32.toInt_inj, k1, k2, k3, k4, k5, k6, k7] at *; omega), by rw [ht]; exact hP9, hD9⟩, hS.F ht⟩) hS.2.2 d_ProofDeskModel_isLetter_35
        · have hx9 := hx
          refine lv_iconst (v := 1) hx hb d_ProofDeskModel_isLetter_30 (by decide) ?_
          refine lv_goto hx hb d_ProofDeskModel_isLetter_31 rfl ?_
          have hP9 := hP.sub (ws' := []) [] rfl
          have hD9 := hD.sub (ws' := []) [] (by decide +kernel) rfl
          refine W.widen (k := 0) (n := 0) (by omega) (by omega) ?_
          exact W.zret (v := 1) hx hb hr rfl (fun t ht hW => ⟨⟨1, (), rfl, by first | (refine zbool_t ?_; obtain ⟨k1, k2, k3, k4, k5, k6, k7⟩ := zlits; unfold zletter; simp only [Int32.lt_iff_toInt_lt, Int32.le_iff_toInt_le, ← Int32.toInt_inj, k1, k2, k3, k4, k5, k6, k7] at *; omega) | (refine zbool_f ?_; obtain ⟨k1, k2, k3, k4, k5, k6, k7⟩ := zlits; unfold zletter; simp only [Int32.lt_iff_toInt_lt, Int32.le_iff_toInt_le, ← Int32.toInt_inj, k1, k2, k3, k4, k5, k6, k7] at *; omega), by rw [ht]; exact hP9, hD9⟩, hS.F ht⟩) hS.2.2 d_ProofDeskModel_isLetter_35
      · have hx9 := hx
        refine lv_iload_n hx hb d_ProofDeskModel_isLetter_18 rfl (lv_at hl 0 rfl) ?_
        refine lv_bipush (v := 90) hx hb d_ProofDeskModel_isLetter_19 (by decide) ?_
        refine lv_icmp_le hx hb d_ProofDeskModel_isLetter_21 rfl (fun hc_9 => ?_) (fun hc_9 => ?_)
        · have hx9 := hx
          refine lv_iconst (v := 1) hx hb d_ProofDeskModel_isLetter_30 (by decide) ?_
          refine lv_goto hx hb d_ProofDeskModel_isLetter_31 rfl ?_
          have hP9 := hP.sub (ws' := []) [] rfl
          have hD9 := hD.sub (ws' := []) [] (by decide +kernel) rfl
          refine W.widen (k := 0) (n := 0) (by omega) (by omega) ?_
          exact W.zret (v := 1) hx hb hr rfl (fun t ht hW => ⟨⟨1, (), rfl, by first | (refine zbool_t ?_; obtain ⟨k1, k2, k3, k4, k5, k6, k7⟩ := zlits; unfold zletter; simp only [Int32.lt_iff_toInt_lt, Int32.le_iff_toInt_le, ← Int32.toInt_inj, k1, k2, k3, k4, k5, k6, k7] at *; omega) | (refine zbool_f ?_; obtain ⟨k1, k2, k3, k4, k5, k6, k7⟩ := zlits; unfold zletter; simp only [Int32.lt_iff_toInt_lt, Int32.le_iff_toInt_le, ← Int32.toInt_inj, k1, k2, k3, k4, k5, k6, k7] at *; omega), by rw [ht]; exact hP9, hD9⟩, hS.F ht⟩) hS.2.2 d_ProofDeskModel_isLetter_35
        · have hx9 := hx
          refine lv_iload_n hx hb d_ProofDeskModel_isLetter_24 rfl (lv_at hl 0 rfl) ?_
          refine lv_bipush (v := 95) hx hb d_ProofDeskModel_isLetter_25 (by decide) ?_
          refine lv_icmp_ne hx hb d_ProofDeskModel_isLetter_27 rfl (fun hc_10 => ?_) (fun hc_10 => ?_)
          · have hx9 := hx
            refine lv_iconst (v := 0) hx hb d_ProofDeskModel_isLetter_34 (by decide) ?_
            have hP9 := hP.sub (ws' := []) [] rfl
            have hD9 := hD.sub (ws' := []) [] (by decide +kernel) rfl
            refine W.widen (k := 0) (n := 0) (by omega) (by omega) ?_
            exact W.zret (v := 0) hx hb hr rfl (fun t ht hW => ⟨⟨0, (), rfl, by first | (refine zbool_t ?_; obtain ⟨k1, k2, k3, k4, k5, k6, k7⟩ := zlits; unfold zletter; simp only [Int32.lt_iff_toInt_lt, Int32.le_iff_toInt_le, ← Int32.toInt_inj, k1, k2, k3, k4, k5, k6, k7] at *; omega) | (refine zbool_f ?_; obtain ⟨k1, k2, k3, k4, k5, k6, k7⟩ := zlits; unfold zletter; simp only [Int32.lt_iff_toInt_lt, Int32.le_iff_toInt_le, ← Int32.toInt_inj, k1, k2, k3, k4, k5, k6, k7] at *; omega), by rw [ht]; exact hP9, hD9⟩, hS.F ht⟩) hS.2.2 d_ProofDeskModel_isLetter_35
          · have hx9 := hx
            refine lv_iconst (v := 1) hx hb d_ProofDeskModel_isLetter_30 (by decide) ?_
            refine lv_goto hx hb d_ProofDeskModel_isLetter_31 rfl ?_
            have hP9 := hP.sub (ws' := []) [] rfl
            have hD9 := hD.sub (ws' := []) [] (by decide +kernel) rfl
            refine W.widen (k := 0) (n := 0) (by omega) (by omega) ?_
            exact W.zret (v := 1) hx hb hr rfl (fun t ht hW => ⟨⟨1, (), rfl, by first | (refine zbool_t ?_; obtain ⟨k1, k2, k3, k4, k5, k6, k7⟩ := zlits; unfold zletter; simp only [Int32.lt_iff_toInt_lt, Int32.le_iff_toInt_le, ← Int32.toInt_inj, k1, k2, k3, k4, k5, k6, k7] at *; omega) | (refine zbool_f ?_; obtain ⟨k1, k2, k3, k4, k5, k6, k7⟩ := zlits; unfold zletter; simp only [Int32.lt_iff_toInt_lt, Int32.le_iff_toInt_le, ← Int32.toInt_inj, k1, k2, k3, k4, k5, k6, k7] at *; omega), by rw [ht]; exact hP9, hD9⟩, hS.F ht⟩) hS.2.2 d_ProofDeskModel_isLetter_35
abbrev b_ProofDeskModel_isDigit : ByteArray := prog_14_method_6_code
abbrev y_ProofDeskModel_isDigit : MethodName := ⟨"ProofDeskModel", "isDigit", "(I)Z"⟩
theorem d_ProofDeskModel_isDigit_0 : decode b_ProofDeskModel_isDigit 0 = .ok (.iload_n 0, 1) := by decide +kernel
theorem d_ProofDeskModel_isDigit_1 : decode b_ProofDeskModel_isDigit 1 = .ok (.bipush 48, 2) := by decide +kernel
theorem d_ProofDeskModel_isDigit_3 : decode b_ProofDeskModel_isDigit 3 = .ok (.if_icmp .lt 13, 3) := by decide +kernel
theorem d_ProofDeskModel_isDigit_16 : decode b_ProofDeskModel_isDigit 16 = .ok (.iconst 0, 1) := by decide +kernel
theorem d_ProofDeskModel_isDigit_17 : decode b_ProofDeskModel_isDigit 17 = .ok (.ireturn, 1) := by decide +kernel
theorem d_ProofDeskModel_isDigit_6 : decode b_ProofDeskModel_isDigit 6 = .ok (.iload_n 0, 1) := by decide +kernel
theorem d_ProofDeskModel_isDigit_7 : decode b_ProofDeskModel_isDigit 7 = .ok (.bipush 57, 2) := by decide +kernel
theorem d_ProofDeskModel_isDigit_9 : decode b_ProofDeskModel_isDigit 9 = .ok (.if_icmp .gt 7, 3) := by decide +kernel
theorem d_ProofDeskModel_isDigit_12 : decode b_ProofDeskModel_isDigit 12 = .ok (.iconst 1, 1) := by decide +kernel
theorem d_ProofDeskModel_isDigit_13 : decode b_ProofDeskModel_isDigit 13 = .ok (.goto 4, 3) := by decide +kernel
set_option maxHeartbeats 4000000 in
set_option maxRecDepth 100000 in
theorem e_isDigit (l : Launch) (D : va_G) (cI cB cZ cS : ClassId) (sz : Nat) (ch : Int32) : Met l y_ProofDeskModel_isDigit (zc y_ProofDeskModel_isDigit b_ProofDeskModel_isDigit 1 (some .boolean)) ({ frames := 0, cells := 0, slots := 0, locals := 0 }) (zPc D (zty cI cB cZ cS) [] sz [.int ch]) (va_Qi (fun (r : Int32) (_ : Unit) => r = zbool (zdigit ch)) (fun _ t => va_P D zcl [] t.heap ∧ va_D (va_A [] sz) []) (va_A [] sz)) 0 0 (va_A [] sz) := by
  refine Met.ofW (cc := b_ProofDeskModel_isDigit) (maxL := 1) (ret := (some .boolean)) (by decide) rfl ?_
  intro p e s m args below meth c s₁ B hml hv
  obtain ⟨rfl, hsz, hP, ⟨hK, hN⟩, hD0⟩ := hv
  have hx := B.exec
  have hb := B.bytes
  have hr := B.returns
  have hts0 := atoms_spec (ws := zc y_ProofDeskModel_isDigit b_ProofDeskModel_isDigit 1 (some .boolean)) B.pre
  have hts : ∀ w ∈ zw, w.before _ s = true := fun w hw => hts0 w (List.mem_cons_of_mem _ hw)
  have hown : s.vm.findClass "ProofDeskModel" = some m.cls := findClass_of_methodNamed B.named
  have hlocks := B.notSynchronized
  subst hsz
  have hD := hD0.self (sz := s.heap.size)
  generalize hAe : va_A [] s.heap.size = A at hD ⊢
  have hA : ∀ q : Nat, s.heap.size ≤ q → A q := fun q h => by rw [← hAe]; exact Or.inr h
  have hS : va_S A s.heap s.heap [] := va_S.rf
  have hP : va_P D zcl [] s.heap := hP
  have hl := lv_entry ([.int ch]) (n := 1) (Nat.le_of_ble_eq_true rfl)
  rw [lg_entry_eq]
  generalize (lg_sl ([.int ch]) ++ List.replicate (1 - (lg_sl ([.int ch])).length) Slot.unset).toArray = ls at hl ⊢
  have hl : lv_has ls 1 [(0, .int ch)] := hl
  refine lv_iload_n hx hb d_ProofDeskModel_isDigit_0 rfl (lv_at hl 0 rfl) ?_
  refine lv_bipush (v := 48) hx hb d_ProofDeskModel_isDigit_1 (by decide) ?_
  refine lv_icmp_lt hx hb d_ProofDeskModel_isDigit_3 rfl (fun hc_1 => ?_) (fun hc_1 => ?_)
  · have hx9 := hx
    refine lv_iconst (v := 0) hx hb d_ProofDeskModel_isDigit_16 (by decide) ?_
    have hP9 := hP.sub (ws' := []) [] rfl
    have hD9 := hD.sub (ws' := []) [] (by decide +kernel) rfl
    refine W.widen (k := 0) (n := 0) (by omega) (by omega) ?_
    exact W.zret (v := 0) hx hb hr rfl (fun t ht hW => ⟨⟨0, (), rfl, by first | (refine zbool_t ?_; obtain ⟨k1, k2, k3, k4, k5, k6, k7⟩ := zlits; unfold zdigit; simp only [Int32.lt_iff_toInt_lt, Int32.le_iff_toInt_le, ← Int32.toInt_inj, k1, k2, k3, k4, k5, k6, k7] at *; omega) | (refine zbool_f ?_; obtain ⟨k1, k2, k3, k4, k5, k6, k7⟩ := zlits; unfold zdigit; simp only [Int32.lt_iff_toInt_lt, Int32.le_iff_toInt_le, ← Int32.toInt_inj, k1, k2, k3, k4, k5, k6, k7] at *; omega), by rw [ht]; exact hP9, hD9⟩, hS.F ht⟩) hS.2.2 d_ProofDeskModel_isDigit_17
  · have hx9 := hx
    refine lv_iload_n hx hb d_ProofDeskModel_isDigit_6 rfl (lv_at hl 0 rfl) ?_
    refine lv_bipush (v := 57) hx hb d_ProofDeskModel_isDigit_7 (by decide) ?_
    refine lv_icmp_gt hx hb d_ProofDeskModel_isDigit_9 rfl (fun hc_2 => ?_) (fun hc_2 => ?_)
    · have hx9 := hx
      refine lv_iconst (v := 0) hx hb d_ProofDeskModel_isDigit_16 (by decide) ?_
      have hP9 := hP.sub (ws' := []) [] rfl
      have hD9 := hD.sub (ws' := []) [] (by decide +kernel) rfl
      refine W.widen (k := 0) (n := 0) (by omega) (by omega) ?_
      exact W.zret (v := 0) hx hb hr rfl (fun t ht hW => ⟨⟨0, (), rfl, by first | (refine zbool_t ?_; obtain ⟨k1, k2, k3, k4, k5, k6, k7⟩ := zlits; unfold zdigit; simp only [Int32.lt_iff_toInt_lt, Int32.le_iff_toInt_le, ← Int32.toInt_inj, k1, k2, k3, k4, k5, k6, k7] at *; omega) | (refine zbool_f ?_; obtain ⟨k1, k2, k3, k4, k5, k6, k7⟩ := zlits; unfold zdigit; simp only [Int32.lt_iff_toInt_lt, Int32.le_iff_toInt_le, ← Int32.toInt_inj, k1, k2, k3, k4, k5, k6, k7] at *; omega), by rw [ht]; exact hP9, hD9⟩, hS.F ht⟩) hS.2.2 d_ProofDeskModel_isDigit_17
    · have hx9 := hx
      refine lv_iconst (v := 1) hx hb d_ProofDeskModel_isDigit_12 (by decide) ?_
      refine lv_goto hx hb d_ProofDeskModel_isDigit_13 rfl ?_
      have hP9 := hP.sub (ws' := []) [] rfl
      have hD9 := hD.sub (ws' := []) [] (by decide +kernel) rfl
      refine W.widen (k := 0) (n := 0) (by omega) (by omega) ?_
      exact W.zret (v := 1) hx hb hr rfl (fun t ht hW => ⟨⟨1, (), rfl, by first | (refine zbool_t ?_; obtain ⟨k1, k2, k3, k4, k5, k6, k7⟩ := zlits; unfold zdigit; simp only [Int32.lt_iff_toInt_lt, Int32.le_iff_toInt_le, ← Int32.toInt_inj, k1, k2, k3, k4, k5, k6, k7] at *; omega) | (refine zbool_f ?_; obtain ⟨k1, k2, k3, k4, k5, k6, k7⟩ := zlits; unfold zdigit; simp only [Int32.lt_iff_toInt_lt, Int32.le_iff_toInt_le, ← Int32.toInt_inj, k1, k2, k3, k4, k5, k6, k7] at *; omega), by rw [ht]; exact hP9, hD9⟩, hS.F ht⟩) hS.2.2 d_ProofDeskModel_isDigit_17
