/-! numbers, sets, pairs (printed by wip/gen) -/
def P_bitCount (x : Int32) : Int32 :=
  bd (x - ((((x.toUInt32 >>> ((1 : Int32).toUInt32 &&& Int32.toUInt32 31))).toInt32) &&& (1431655765 : Int32))) (fun y_1 =>
    bd ((y_1 &&& (858993459 : Int32)) + ((((y_1.toUInt32 >>> ((2 : Int32).toUInt32 &&& Int32.toUInt32 31))).toInt32) &&& (858993459 : Int32))) (fun y_2 =>
      bd ((y_2 + (((y_2.toUInt32 >>> ((4 : Int32).toUInt32 &&& Int32.toUInt32 31))).toInt32)) &&& (252645135 : Int32)) (fun y_3 =>
        bd (y_3 + (((y_3.toUInt32 >>> ((8 : Int32).toUInt32 &&& Int32.toUInt32 31))).toInt32)) (fun y_4 =>
          bd (y_4 + (((y_4.toUInt32 >>> ((16 : Int32).toUInt32 &&& Int32.toUInt32 31))).toInt32)) (fun y_5 =>
            y_5 &&& (63 : Int32))))))
abbrev rm_J6_bitCount_0f7a4 : Room := { frames := 0, cells := 0, slots := 0, locals := 0 }
set_option maxHeartbeats 4000000 in
set_option maxRecDepth 100000 in
theorem k_J6_bitCount_0f7a4 (l : Launch) (dC : Nat → ClassId) (dI : Nat → Nat → Nat) (cI cN : ClassId) (x : Int32) : Met l yJ6_bitCount_0f7a4 wsJ6_bitCount_0f7a4 rm_J6_bitCount_0f7a4 (va_Pc [.int x] (kW dC dI cI cN [])) (kR (P_bitCount x)) 0 0 (fun _ => False) := by
  refine Met.ofW (cc := cJ6_bitCount_0f7a4) (maxL := 1) (ret := (some .int)) (by decide) rfl ?_
  intro p e s m args below meth c s₁ B hml hv
  obtain ⟨rfl, hP, hK, hD, hN⟩ := hv
  have hx := B.exec
  have hb := B.bytes
  have hr0 := B.returns
  have hts := atoms_spec (ws := wsJ6_bitCount_0f7a4) B.pre
  have hown : s.vm.findClass RJ6 = some m.cls := findClass_of_methodNamed B.named
  have hlocks := B.notSynchronized
  have hS : va_S (fun _ => False) s.heap s.heap [] := va_S.rf
  have hl := lv_entry ([.int x]) (n := 1) (Nat.le_of_ble_eq_true rfl)
  rw [lg_entry_eq]
  generalize (lg_sl ([.int x]) ++ List.replicate (1 - (lg_sl ([.int x])).length) Slot.unset).toArray = ls at hl ⊢
  have hl : lv_has ls 1 [(0, .int x)] := hl
  obtain ⟨ρ, hρ⟩ : ∃ ρ : Int32, ρ = P_bitCount x := ⟨_, rfl⟩
  have hr : P_bitCount x = ρ := hρ.symm
  rewrite [P_bitCount] at hr
  refine lv_iload_n hx hb dJ6_bitCount_0f7a4_0 rfl (lv_at hl 0 rfl) ?_
  refine lv_iload_n hx hb dJ6_bitCount_0f7a4_1 rfl (lv_at hl 0 rfl) ?_
  refine lv_iconst (v := 1) hx hb dJ6_bitCount_0f7a4_2 (by decide) ?_
  refine lv_iushr (v := ((x.toUInt32 >>> ((1 : Int32).toUInt32 &&& Int32.toUInt32 31))).toInt32) hx hb dJ6_bitCount_0f7a4_3 rfl ?_
  refine lv_ldcw (v := 1431655765) hx hb hown (hts (.constant RJ6 265 (1431655765)) (by decide +kernel)) dJ6_bitCount_0f7a4_4 ?_
  refine lv_iand hx hb dJ6_bitCount_0f7a4_7 ?_
  refine lv_isub hx hb dJ6_bitCount_0f7a4_8 ?_
  refine lv_topi (fun y_1 ey_1 => ?_)
  have hr := bd_to hr ey_1
  refine lv_istore_n (lv' := [(0, .int y_1)]) hx hb dJ6_bitCount_0f7a4_9 rfl hl (by decide) rfl (fun ls hl => ?_)
  refine lv_iload_n hx hb dJ6_bitCount_0f7a4_10 rfl (lv_at hl 0 rfl) ?_
  refine lv_ldcw (v := 858993459) hx hb hown (hts (.constant RJ6 266 (858993459)) (by decide +kernel)) dJ6_bitCount_0f7a4_11 ?_
  refine lv_iand hx hb dJ6_bitCount_0f7a4_14 ?_
  refine lv_iload_n hx hb dJ6_bitCount_0f7a4_15 rfl (lv_at hl 0 rfl) ?_
  refine lv_iconst (v := 2) hx hb dJ6_bitCount_0f7a4_16 (by decide) ?_
  refine lv_iushr (v := ((y_1.toUInt32 >>> ((2 : Int32).toUInt32 &&& Int32.toUInt32 31))).toInt32) hx hb dJ6_bitCount_0f7a4_17 rfl ?_
  refine lv_ldcw (v := 858993459) hx hb hown (hts (.constant RJ6 266 (858993459)) (by decide +kernel)) dJ6_bitCount_0f7a4_18 ?_
  refine lv_iand hx hb dJ6_bitCount_0f7a4_21 ?_
  refine lv_iadd hx hb dJ6_bitCount_0f7a4_22 ?_
  refine lv_topi (fun y_2 ey_2 => ?_)
  have hr := bd_to hr ey_2
  refine lv_istore_n (lv' := [(0, .int y_2)]) hx hb dJ6_bitCount_0f7a4_23 rfl hl (by decide) rfl (fun ls hl => ?_)
  refine lv_iload_n hx hb dJ6_bitCount_0f7a4_24 rfl (lv_at hl 0 rfl) ?_
  refine lv_iload_n hx hb dJ6_bitCount_0f7a4_25 rfl (lv_at hl 0 rfl) ?_
  refine lv_iconst (v := 4) hx hb dJ6_bitCount_0f7a4_26 (by decide) ?_
  refine lv_iushr (v := ((y_2.toUInt32 >>> ((4 : Int32).toUInt32 &&& Int32.toUInt32 31))).toInt32) hx hb dJ6_bitCount_0f7a4_27 rfl ?_
  refine lv_iadd hx hb dJ6_bitCount_0f7a4_28 ?_
  refine lv_ldcw (v := 252645135) hx hb hown (hts (.constant RJ6 267 (252645135)) (by decide +kernel)) dJ6_bitCount_0f7a4_29 ?_
  refine lv_iand hx hb dJ6_bitCount_0f7a4_32 ?_
  refine lv_topi (fun y_3 ey_3 => ?_)
  have hr := bd_to hr ey_3
  refine lv_istore_n (lv' := [(0, .int y_3)]) hx hb dJ6_bitCount_0f7a4_33 rfl hl (by decide) rfl (fun ls hl => ?_)
  refine lv_iload_n hx hb dJ6_bitCount_0f7a4_34 rfl (lv_at hl 0 rfl) ?_
  refine lv_iload_n hx hb dJ6_bitCount_0f7a4_35 rfl (lv_at hl 0 rfl) ?_
  refine lv_bipush (v := 8) hx hb dJ6_bitCount_0f7a4_36 (by decide) ?_
  refine lv_iushr (v := ((y_3.toUInt32 >>> ((8 : Int32).toUInt32 &&& Int32.toUInt32 31))).toInt32) hx hb dJ6_bitCount_0f7a4_38 rfl ?_
  refine lv_iadd hx hb dJ6_bitCount_0f7a4_39 ?_
  refine lv_topi (fun y_4 ey_4 => ?_)
  have hr := bd_to hr ey_4
  refine lv_istore_n (lv' := [(0, .int y_4)]) hx hb dJ6_bitCount_0f7a4_40 rfl hl (by decide) rfl (fun ls hl => ?_)
  refine lv_iload_n hx hb dJ6_bitCount_0f7a4_41 rfl (lv_at hl 0 rfl) ?_
  refine lv_iload_n hx hb dJ6_bitCount_0f7a4_42 rfl (lv_at hl 0 rfl) ?_
  refine lv_bipush (v := 16) hx hb dJ6_bitCount_0f7a4_43 (by decide) ?_
  refine lv_iushr (v := ((y_4.toUInt32 >>> ((16 : Int32).toUInt32 &&& Int32.toUInt32 31))).toInt32) hx hb dJ6_bitCount_0f7a4_45 rfl ?_
  refine lv_iadd hx hb dJ6_bitCount_0f7a4_46 ?_
  refine lv_topi (fun y_5 ey_5 => ?_)
  have hr := bd_to hr ey_5
  refine lv_istore_n (lv' := [(0, .int y_5)]) hx hb dJ6_bitCount_0f7a4_47 rfl hl (by decide) rfl (fun ls hl => ?_)
  refine lv_iload_n hx hb dJ6_bitCount_0f7a4_48 rfl (lv_at hl 0 rfl) ?_
  refine lv_bipush (v := 63) hx hb dJ6_bitCount_0f7a4_49 (by decide) ?_
  refine lv_iand hx hb dJ6_bitCount_0f7a4_51 ?_
  have he := hr.trans hρ
  exact W.iret (v := y_5 &&& (63 : Int32)) hx hb hr0 (fun t ht hW => kR_end he hS ht) hS.2.2 dJ6_bitCount_0f7a4_52
def P_isWithin (number : Int32) (low : Int32) (high : Int32) : Int32 :=
  if number < low then
    0
  else
    if high < number then
      0
    else
      1
abbrev rm_X6_isWithin : Room := { frames := 0, cells := 0, slots := 0, locals := 0 }
set_option maxHeartbeats 4000000 in
set_option maxRecDepth 100000 in
theorem k_X6_isWithin (l : Launch) (dC : Nat → ClassId) (dI : Nat → Nat → Nat) (cI cN : ClassId) (number : Int32) (low : Int32) (high : Int32) : Met l yX6_isWithin wsX6_isWithin rm_X6_isWithin (va_Pc [.int number, .int low, .int high] (kW dC dI cI cN [])) (kR (P_isWithin number low high)) 0 0 (fun _ => False) := by
  refine Met.ofW (cc := cX6_isWithin) (maxL := 3) (ret := (some .boolean)) (by decide) rfl ?_
  intro p e s m args below meth c s₁ B hml hv
  obtain ⟨rfl, hP, hK, hD, hN⟩ := hv
  have hx := B.exec
  have hb := B.bytes
  have hr0 := B.returns
  have hts := atoms_spec (ws := wsX6_isWithin) B.pre
  have hown : s.vm.findClass RX6 = some m.cls := findClass_of_methodNamed B.named
  have hlocks := B.notSynchronized
  have hS : va_S (fun _ => False) s.heap s.heap [] := va_S.rf
  have hl := lv_entry ([.int number, .int low, .int high]) (n := 3) (Nat.le_of_ble_eq_true rfl)
  rw [lg_entry_eq]
  generalize (lg_sl ([.int number, .int low, .int high]) ++ List.replicate (3 - (lg_sl ([.int number, .int low, .int high])).length) Slot.unset).toArray = ls at hl ⊢
  have hl : lv_has ls 3 [(0, .int number), (1, .int low), (2, .int high)] := hl
  obtain ⟨ρ, hρ⟩ : ∃ ρ : Int32, ρ = P_isWithin number low high := ⟨_, rfl⟩
  have hr : P_isWithin number low high = ρ := hρ.symm
  rewrite [P_isWithin] at hr
  refine lv_iload_n hx hb dX6_isWithin_0 rfl (lv_at hl 0 rfl) ?_
  refine lv_iload_n hx hb dX6_isWithin_1 rfl (lv_at hl 1 rfl) ?_
  refine lv_icmp_lt (tgt := 14) hx hb dX6_isWithin_2 (by decide) (fun c_1 => ?_) (fun c_1 => ?_)
  · have hr := if_to hr c_1
    refine lv_iconst (v := 0) hx hb dX6_isWithin_14 (by decide) ?_
    have he := hr.trans hρ
    exact W.zret (v := 0) hx hb hr0 rfl (fun t ht hW => kR_end he hS ht) hS.2.2 dX6_isWithin_15
  · have hr := if_no hr c_1
    refine lv_iload_n hx hb dX6_isWithin_5 rfl (lv_at hl 0 rfl) ?_
    refine lv_iload_n hx hb dX6_isWithin_6 rfl (lv_at hl 2 rfl) ?_
    refine lv_icmp_gt (tgt := 14) hx hb dX6_isWithin_7 (by decide) (fun c_2 => ?_) (fun c_2 => ?_)
    · have hr := if_to hr c_2
      refine lv_iconst (v := 0) hx hb dX6_isWithin_14 (by decide) ?_
      have he := hr.trans hρ
      exact W.zret (v := 0) hx hb hr0 rfl (fun t ht hW => kR_end he hS ht) hS.2.2 dX6_isWithin_15
    · have hr := if_no hr c_2
      refine lv_iconst (v := 1) hx hb dX6_isWithin_10 (by decide) ?_
      refine lv_goto (tgt := 15) hx hb dX6_isWithin_11 (by decide) ?_
      have he := hr.trans hρ
      exact W.zret (v := 1) hx hb hr0 rfl (fun t ht hW => kR_end he hS ht) hS.2.2 dX6_isWithin_15
theorem P_isWithin_b (number low high : Int32) : P_isWithin number low high = 0 ∨ P_isWithin number low high = 1 := by
  unfold P_isWithin
  repeat' split
  all_goals first | exact Or.inl rfl | exact Or.inr rfl
def P_bit (number : Int32) : Int32 :=
  if number < 0 then
    0
  else
    if (31 : Int32) ≤ number then
      0
    else
      (1 : Int32) <<< (number &&& 31)
abbrev rm_X6_bit : Room := { frames := 0, cells := 0, slots := 0, locals := 0 }
set_option maxHeartbeats 4000000 in
set_option maxRecDepth 100000 in
theorem k_X6_bit (l : Launch) (dC : Nat → ClassId) (dI : Nat → Nat → Nat) (cI cN : ClassId) (number : Int32) : Met l yX6_bit wsX6_bit rm_X6_bit (va_Pc [.int number] (kW dC dI cI cN [])) (kR (P_bit number)) 0 0 (fun _ => False) := by
  refine Met.ofW (cc := cX6_bit) (maxL := 1) (ret := (some .int)) (by decide) rfl ?_
  intro p e s m args below meth c s₁ B hml hv
  obtain ⟨rfl, hP, hK, hD, hN⟩ := hv
  have hx := B.exec
  have hb := B.bytes
  have hr0 := B.returns
  have hts := atoms_spec (ws := wsX6_bit) B.pre
  have hown : s.vm.findClass RX6 = some m.cls := findClass_of_methodNamed B.named
  have hlocks := B.notSynchronized
  have hS : va_S (fun _ => False) s.heap s.heap [] := va_S.rf
  have hl := lv_entry ([.int number]) (n := 1) (Nat.le_of_ble_eq_true rfl)
  rw [lg_entry_eq]
  generalize (lg_sl ([.int number]) ++ List.replicate (1 - (lg_sl ([.int number])).length) Slot.unset).toArray = ls at hl ⊢
  have hl : lv_has ls 1 [(0, .int number)] := hl
  obtain ⟨ρ, hρ⟩ : ∃ ρ : Int32, ρ = P_bit number := ⟨_, rfl⟩
  have hr : P_bit number = ρ := hρ.symm
  rewrite [P_bit] at hr
  refine lv_iload_n hx hb dX6_bit_0 rfl (lv_at hl 0 rfl) ?_
  refine lv_if_lt (tgt := 16) hx hb dX6_bit_1 (by decide) (fun c_1 => ?_) (fun c_1 => ?_)
  · have hr := if_to hr c_1
    refine lv_iconst (v := 0) hx hb dX6_bit_16 (by decide) ?_
    have he := hr.trans hρ
    exact W.iret (v := 0) hx hb hr0 (fun t ht hW => kR_end he hS ht) hS.2.2 dX6_bit_17
  · have hr := if_no hr c_1
    refine lv_iload_n hx hb dX6_bit_4 rfl (lv_at hl 0 rfl) ?_
    refine lv_bipush (v := 31) hx hb dX6_bit_5 (by decide) ?_
    refine lv_icmp_ge (tgt := 16) hx hb dX6_bit_7 (by decide) (fun c_2 => ?_) (fun c_2 => ?_)
    · have hr := if_to hr c_2
      refine lv_iconst (v := 0) hx hb dX6_bit_16 (by decide) ?_
      have he := hr.trans hρ
      exact W.iret (v := 0) hx hb hr0 (fun t ht hW => kR_end he hS ht) hS.2.2 dX6_bit_17
    · have hr := if_no hr c_2
      refine lv_iconst (v := 1) hx hb dX6_bit_10 (by decide) ?_
      refine lv_iload_n hx hb dX6_bit_11 rfl (lv_at hl 0 rfl) ?_
      refine lv_ishl hx hb dX6_bit_12 ?_
      refine lv_goto (tgt := 17) hx hb dX6_bit_13 (by decide) ?_
      have he := hr.trans hρ
      exact W.iret (v := (1 : Int32) <<< (number &&& 31)) hx hb hr0 (fun t ht hW => kR_end he hS ht) hS.2.2 dX6_bit_17
def P_holds (set : Int32) (number : Int32) : Int32 :=
  if number < 0 then
    0
  else
    if (31 : Int32) ≤ number then
      0
    else
      if ((set >>> (number &&& 31)) &&& (1 : Int32)) = 0 then
        0
      else
        1
abbrev rm_X6_holds : Room := { frames := 0, cells := 0, slots := 0, locals := 0 }
set_option maxHeartbeats 4000000 in
set_option maxRecDepth 100000 in
theorem k_X6_holds (l : Launch) (dC : Nat → ClassId) (dI : Nat → Nat → Nat) (cI cN : ClassId) (set : Int32) (number : Int32) : Met l yX6_holds wsX6_holds rm_X6_holds (va_Pc [.int set, .int number] (kW dC dI cI cN [])) (kR (P_holds set number)) 0 0 (fun _ => False) := by
  refine Met.ofW (cc := cX6_holds) (maxL := 2) (ret := (some .boolean)) (by decide) rfl ?_
  intro p e s m args below meth c s₁ B hml hv
  obtain ⟨rfl, hP, hK, hD, hN⟩ := hv
  have hx := B.exec
  have hb := B.bytes
  have hr0 := B.returns
  have hts := atoms_spec (ws := wsX6_holds) B.pre
  have hown : s.vm.findClass RX6 = some m.cls := findClass_of_methodNamed B.named
  have hlocks := B.notSynchronized
  have hS : va_S (fun _ => False) s.heap s.heap [] := va_S.rf
  have hl := lv_entry ([.int set, .int number]) (n := 2) (Nat.le_of_ble_eq_true rfl)
  rw [lg_entry_eq]
  generalize (lg_sl ([.int set, .int number]) ++ List.replicate (2 - (lg_sl ([.int set, .int number])).length) Slot.unset).toArray = ls at hl ⊢
  have hl : lv_has ls 2 [(0, .int set), (1, .int number)] := hl
  obtain ⟨ρ, hρ⟩ : ∃ ρ : Int32, ρ = P_holds set number := ⟨_, rfl⟩
  have hr : P_holds set number = ρ := hρ.symm
  rewrite [P_holds] at hr
  refine lv_iload_n hx hb dX6_holds_0 rfl (lv_at hl 1 rfl) ?_
  refine lv_if_lt (tgt := 22) hx hb dX6_holds_1 (by decide) (fun c_1 => ?_) (fun c_1 => ?_)
  · have hr := if_to hr c_1
    refine lv_iconst (v := 0) hx hb dX6_holds_22 (by decide) ?_
    have he := hr.trans hρ
    exact W.zret (v := 0) hx hb hr0 rfl (fun t ht hW => kR_end he hS ht) hS.2.2 dX6_holds_23
  · have hr := if_no hr c_1
    refine lv_iload_n hx hb dX6_holds_4 rfl (lv_at hl 1 rfl) ?_
    refine lv_bipush (v := 31) hx hb dX6_holds_5 (by decide) ?_
    refine lv_icmp_ge (tgt := 22) hx hb dX6_holds_7 (by decide) (fun c_2 => ?_) (fun c_2 => ?_)
    · have hr := if_to hr c_2
      refine lv_iconst (v := 0) hx hb dX6_holds_22 (by decide) ?_
      have he := hr.trans hρ
      exact W.zret (v := 0) hx hb hr0 rfl (fun t ht hW => kR_end he hS ht) hS.2.2 dX6_holds_23
    · have hr := if_no hr c_2
      refine lv_iload_n hx hb dX6_holds_10 rfl (lv_at hl 0 rfl) ?_
      refine lv_iload_n hx hb dX6_holds_11 rfl (lv_at hl 1 rfl) ?_
      refine lv_ishr hx hb dX6_holds_12 ?_
      refine lv_iconst (v := 1) hx hb dX6_holds_13 (by decide) ?_
      refine lv_iand hx hb dX6_holds_14 ?_
      refine lv_if_eq (tgt := 22) hx hb dX6_holds_15 (by decide) (fun c_3 => ?_) (fun c_3 => ?_)
      · have hr := if_to hr c_3
        refine lv_iconst (v := 0) hx hb dX6_holds_22 (by decide) ?_
        have he := hr.trans hρ
        exact W.zret (v := 0) hx hb hr0 rfl (fun t ht hW => kR_end he hS ht) hS.2.2 dX6_holds_23
      · have hr := if_no hr c_3
        refine lv_iconst (v := 1) hx hb dX6_holds_18 (by decide) ?_
        refine lv_goto (tgt := 23) hx hb dX6_holds_19 (by decide) ?_
        have he := hr.trans hρ
        exact W.zret (v := 1) hx hb hr0 rfl (fun t ht hW => kR_end he hS ht) hS.2.2 dX6_holds_23
theorem P_holds_b (set number : Int32) : P_holds set number = 0 ∨ P_holds set number = 1 := by
  unfold P_holds
  repeat' split
  all_goals first | exact Or.inl rfl | exact Or.inr rfl
def P_isSetBelow (set : Int32) (many : Int32) : Int32 :=
  if set < 0 then
    0
  else
    if (31 : Int32) ≤ many then
      1
    else
      if (P_bit many) ≤ set then
        0
      else
        1
abbrev rm_X6_isSetBelow : Room := { frames := 1, cells := 0, slots := 0, locals := 20 }
set_option maxHeartbeats 4000000 in
set_option maxRecDepth 100000 in
theorem k_X6_isSetBelow (l : Launch) (dC : Nat → ClassId) (dI : Nat → Nat → Nat) (cI cN : ClassId) (set : Int32) (many : Int32) : Met l yX6_isSetBelow wsX6_isSetBelow rm_X6_isSetBelow (va_Pc [.int set, .int many] (kW dC dI cI cN [])) (kR (P_isSetBelow set many)) 0 0 (fun _ => False) := by
  refine Met.ofW (cc := cX6_isSetBelow) (maxL := 2) (ret := (some .boolean)) (by decide) rfl ?_
  intro p e s m args below meth c s₁ B hml hv
  obtain ⟨rfl, hP, hK, hD, hN⟩ := hv
  have hx := B.exec
  have hb := B.bytes
  have hr0 := B.returns
  have hts := atoms_spec (ws := wsX6_isSetBelow) B.pre
  have hown : s.vm.findClass RX6 = some m.cls := findClass_of_methodNamed B.named
  have hlocks := B.notSynchronized
  have hS : va_S (fun _ => False) s.heap s.heap [] := va_S.rf
  have hl := lv_entry ([.int set, .int many]) (n := 2) (Nat.le_of_ble_eq_true rfl)
  rw [lg_entry_eq]
  generalize (lg_sl ([.int set, .int many]) ++ List.replicate (2 - (lg_sl ([.int set, .int many])).length) Slot.unset).toArray = ls at hl ⊢
  have hl : lv_has ls 2 [(0, .int set), (1, .int many)] := hl
  obtain ⟨ρ, hρ⟩ : ∃ ρ : Int32, ρ = P_isSetBelow set many := ⟨_, rfl⟩
  have hr : P_isSetBelow set many = ρ := hρ.symm
  rewrite [P_isSetBelow] at hr
  refine lv_iload_n hx hb dX6_isSetBelow_0 rfl (lv_at hl 0 rfl) ?_
  refine lv_if_lt (tgt := 22) hx hb dX6_isSetBelow_1 (by decide) (fun c_1 => ?_) (fun c_1 => ?_)
  · have hr := if_to hr c_1
    refine lv_iconst (v := 0) hx hb dX6_isSetBelow_22 (by decide) ?_
    have he := hr.trans hρ
    exact W.zret (v := 0) hx hb hr0 rfl (fun t ht hW => kR_end he hS ht) hS.2.2 dX6_isSetBelow_23
  · have hr := if_no hr c_1
    refine lv_iload_n hx hb dX6_isSetBelow_4 rfl (lv_at hl 1 rfl) ?_
    refine lv_bipush (v := 31) hx hb dX6_isSetBelow_5 (by decide) ?_
    refine lv_icmp_ge (tgt := 18) hx hb dX6_isSetBelow_7 (by decide) (fun c_2 => ?_) (fun c_2 => ?_)
    · have hr := if_to hr c_2
      refine lv_iconst (v := 1) hx hb dX6_isSetBelow_18 (by decide) ?_
      refine lv_goto (tgt := 23) hx hb dX6_isSetBelow_19 (by decide) ?_
      have he := hr.trans hρ
      exact W.zret (v := 1) hx hb hr0 rfl (fun t ht hW => kR_end he hS ht) hS.2.2 dX6_isSetBelow_23
    · have hr := if_no hr c_2
      refine lv_iload_n hx hb dX6_isSetBelow_10 rfl (lv_at hl 0 rfl) ?_
      refine lv_iload_n hx hb dX6_isSetBelow_11 rfl (lv_at hl 1 rfl) ?_
      refine kCall (va_runS (As := [.int many]) (rest := [.int set]) ⟨hx, hb, hml, hown, hts⟩ (k_X6_bit l dC dI cI cN many) (va_cwS 1 hts gX6_isSetBelow_X6_bit rfl rfl rfl (by decide +kernel) ⟨Nat.le_of_ble_eq_true rfl, Nat.le_of_ble_eq_true rfl⟩) (kW_S hP hK hD hN [] rfl rfl rfl) rfl rfl hl.1 rfl (lv_room (Nat.le_of_ble_eq_true rfl)) dX6_isSetBelow_12 ⟨Nat.zero_le _, Nat.zero_le _⟩) hP hS (fun H locs hP hS => ?_)
      refine lv_icmp_ge (tgt := 22) hx hb dX6_isSetBelow_15 (by decide) (fun c_3 => ?_) (fun c_3 => ?_)
      · have hr := if_to hr c_3
        refine lv_iconst (v := 0) hx hb dX6_isSetBelow_22 (by decide) ?_
        have he := hr.trans hρ
        exact W.zret (v := 0) hx hb hr0 rfl (fun t ht hW => kR_end he hS ht) hS.2.2 dX6_isSetBelow_23
      · have hr := if_no hr c_3
        refine lv_iconst (v := 1) hx hb dX6_isSetBelow_18 (by decide) ?_
        refine lv_goto (tgt := 23) hx hb dX6_isSetBelow_19 (by decide) ?_
        have he := hr.trans hρ
        exact W.zret (v := 1) hx hb hr0 rfl (fun t ht hW => kR_end he hS ht) hS.2.2 dX6_isSetBelow_23
theorem P_isSetBelow_b (set many : Int32) : P_isSetBelow set many = 0 ∨ P_isSetBelow set many = 1 := by
  unfold P_isSetBelow
  repeat' split
  all_goals first | exact Or.inl rfl | exact Or.inr rfl
def P_firstOf (set : Int32) : Int32 :=
  if set = 0 then
    (-1)
  else
    P_bitCount ((set &&& (-set)) - (1 : Int32))
abbrev rm_X6_firstOf : Room := { frames := 1, cells := 0, slots := 0, locals := 20 }
set_option maxHeartbeats 4000000 in
set_option maxRecDepth 100000 in
theorem k_X6_firstOf (l : Launch) (dC : Nat → ClassId) (dI : Nat → Nat → Nat) (cI cN : ClassId) (set : Int32) : Met l yX6_firstOf wsX6_firstOf rm_X6_firstOf (va_Pc [.int set] (kW dC dI cI cN [])) (kR (P_firstOf set)) 0 0 (fun _ => False) := by
  refine Met.ofW (cc := cX6_firstOf) (maxL := 1) (ret := (some .int)) (by decide) rfl ?_
  intro p e s m args below meth c s₁ B hml hv
  obtain ⟨rfl, hP, hK, hD, hN⟩ := hv
  have hx := B.exec
  have hb := B.bytes
  have hr0 := B.returns
  have hts := atoms_spec (ws := wsX6_firstOf) B.pre
  have hown : s.vm.findClass RX6 = some m.cls := findClass_of_methodNamed B.named
  have hlocks := B.notSynchronized
  have hS : va_S (fun _ => False) s.heap s.heap [] := va_S.rf
  have hl := lv_entry ([.int set]) (n := 1) (Nat.le_of_ble_eq_true rfl)
  rw [lg_entry_eq]
  generalize (lg_sl ([.int set]) ++ List.replicate (1 - (lg_sl ([.int set])).length) Slot.unset).toArray = ls at hl ⊢
  have hl : lv_has ls 1 [(0, .int set)] := hl
  obtain ⟨ρ, hρ⟩ : ∃ ρ : Int32, ρ = P_firstOf set := ⟨_, rfl⟩
  have hr : P_firstOf set = ρ := hρ.symm
  rewrite [P_firstOf] at hr
  refine lv_iload_n hx hb dX6_firstOf_0 rfl (lv_at hl 0 rfl) ?_
  refine lv_if_ne (tgt := 8) hx hb dX6_firstOf_1 (by decide) (fun c_1 => ?_) (fun c_1 => ?_)
  · have hr := if_no hr c_1
    refine lv_iload_n hx hb dX6_firstOf_8 rfl (lv_at hl 0 rfl) ?_
    refine lv_iload_n hx hb dX6_firstOf_9 rfl (lv_at hl 0 rfl) ?_
    refine lv_ineg hx hb dX6_firstOf_10 ?_
    refine lv_iand hx hb dX6_firstOf_11 ?_
    refine lv_iconst (v := 1) hx hb dX6_firstOf_12 (by decide) ?_
    refine lv_isub hx hb dX6_firstOf_13 ?_
    refine kCall (va_runS (As := [.int ((set &&& (-set)) - (1 : Int32))]) (rest := []) ⟨hx, hb, hml, hown, hts⟩ (k_J6_bitCount_0f7a4 l dC dI cI cN ((set &&& (-set)) - (1 : Int32))) (va_cwS 1 hts gX6_firstOf_J6_bitCount_0f7a4 rfl rfl rfl (by decide +kernel) ⟨Nat.le_of_ble_eq_true rfl, Nat.le_of_ble_eq_true rfl⟩) (kW_S hP hK hD hN [] rfl rfl rfl) rfl rfl hl.1 rfl (lv_room (Nat.le_of_ble_eq_true rfl)) dX6_firstOf_14 ⟨Nat.zero_le _, Nat.zero_le _⟩) hP hS (fun H locs hP hS => ?_)
    have he := hr.trans hρ
    exact W.iret (v := P_bitCount ((set &&& (-set)) - (1 : Int32))) hx hb hr0 (fun t ht hW => kR_end he hS ht) hS.2.2 dX6_firstOf_17
  · have hr := if_to hr c_1
    refine lv_iconst (v := (-1)) hx hb dX6_firstOf_4 (by decide) ?_
    refine lv_goto (tgt := 17) hx hb dX6_firstOf_5 (by decide) ?_
    have he := hr.trans hρ
    exact W.iret (v := (-1)) hx hb hr0 (fun t ht hW => kR_end he hS ht) hS.2.2 dX6_firstOf_17
def P_lesser (one : Int32) (other : Int32) : Int32 :=
  if one = (-1 : Int32) then
    other
  else
    if other = (-1 : Int32) then
      one
    else
      if other < one then other else one
abbrev rm_X6_lesser : Room := { frames := 1, cells := 0, slots := 0, locals := 13 }
set_option maxHeartbeats 4000000 in
set_option maxRecDepth 100000 in
theorem k_X6_lesser (l : Launch) (dC : Nat → ClassId) (dI : Nat → Nat → Nat) (cI cN : ClassId) (one : Int32) (other : Int32) : Met l yX6_lesser wsX6_lesser rm_X6_lesser (va_Pc [.int one, .int other] (kW dC dI cI cN [])) (kR (P_lesser one other)) 0 0 (fun _ => False) := by
  refine Met.ofW (cc := cX6_lesser) (maxL := 2) (ret := (some .int)) (by decide) rfl ?_
  intro p e s m args below meth c s₁ B hml hv
  obtain ⟨rfl, hP, hK, hD, hN⟩ := hv
  have hx := B.exec
  have hb := B.bytes
  have hr0 := B.returns
  have hts := atoms_spec (ws := wsX6_lesser) B.pre
  have hown : s.vm.findClass RX6 = some m.cls := findClass_of_methodNamed B.named
  have hlocks := B.notSynchronized
  have hS : va_S (fun _ => False) s.heap s.heap [] := va_S.rf
  have hl := lv_entry ([.int one, .int other]) (n := 2) (Nat.le_of_ble_eq_true rfl)
  rw [lg_entry_eq]
  generalize (lg_sl ([.int one, .int other]) ++ List.replicate (2 - (lg_sl ([.int one, .int other])).length) Slot.unset).toArray = ls at hl ⊢
  have hl : lv_has ls 2 [(0, .int one), (1, .int other)] := hl
  obtain ⟨ρ, hρ⟩ : ∃ ρ : Int32, ρ = P_lesser one other := ⟨_, rfl⟩
  have hr : P_lesser one other = ρ := hρ.symm
  rewrite [P_lesser] at hr
  refine lv_iload_n hx hb dX6_lesser_0 rfl (lv_at hl 0 rfl) ?_
  refine lv_iconst (v := (-1)) hx hb dX6_lesser_1 (by decide) ?_
  refine lv_icmp_ne (tgt := 7) hx hb dX6_lesser_2 (by decide) (fun c_1 => ?_) (fun c_1 => ?_)
  · have hr := if_no hr c_1
    refine lv_iload_n hx hb dX6_lesser_7 rfl (lv_at hl 1 rfl) ?_
    refine lv_iconst (v := (-1)) hx hb dX6_lesser_8 (by decide) ?_
    refine lv_icmp_ne (tgt := 16) hx hb dX6_lesser_9 (by decide) (fun c_2 => ?_) (fun c_2 => ?_)
    · have hr := if_no hr c_2
      refine lv_iload_n hx hb dX6_lesser_16 rfl (lv_at hl 0 rfl) ?_
      refine lv_iload_n hx hb dX6_lesser_17 rfl (lv_at hl 1 rfl) ?_
      refine va_mmin hx hb (hml.trans hl.1.symm) hown (hts (.methodLink RX6 324 Lib.Math.min.name) (by decide +kernel)) (hts (.static Lib.Math.min.name) (by decide +kernel)) (hts (.initialized "java/lang/Math") (by decide +kernel)) (hts (.code Lib.Math.min.name Lib.Math.min.code 2 (some .int)) (by decide +kernel)) (Nat.le_of_ble_eq_true rfl) (Nat.le_of_ble_eq_true rfl) (Nat.zero_le _) (Nat.zero_le _) dX6_lesser_18 ?_
      have he := hr.trans hρ
      exact W.iret (v := if other < one then other else one) hx hb hr0 (fun t ht hW => kR_end he hS ht) hS.2.2 dX6_lesser_21
    · have hr := if_to hr c_2
      refine lv_iload_n hx hb dX6_lesser_12 rfl (lv_at hl 0 rfl) ?_
      refine lv_goto (tgt := 21) hx hb dX6_lesser_13 (by decide) ?_
      have he := hr.trans hρ
      exact W.iret (v := one) hx hb hr0 (fun t ht hW => kR_end he hS ht) hS.2.2 dX6_lesser_21
  · have hr := if_to hr c_1
    refine lv_iload_n hx hb dX6_lesser_5 rfl (lv_at hl 1 rfl) ?_
    have he := hr.trans hρ
    exact W.iret (v := other) hx hb hr0 (fun t ht hW => kR_end he hS ht) hS.2.2 dX6_lesser_6
def P_pairOf (one : Int32) (other : Int32) : Int32 :=
  (one * (16 : Int32)) + other
abbrev rm_X6_pairOf : Room := { frames := 0, cells := 0, slots := 0, locals := 0 }
set_option maxHeartbeats 4000000 in
set_option maxRecDepth 100000 in
theorem k_X6_pairOf (l : Launch) (dC : Nat → ClassId) (dI : Nat → Nat → Nat) (cI cN : ClassId) (one : Int32) (other : Int32) : Met l yX6_pairOf wsX6_pairOf rm_X6_pairOf (va_Pc [.int one, .int other] (kW dC dI cI cN [])) (kR (P_pairOf one other)) 0 0 (fun _ => False) := by
  refine Met.ofW (cc := cX6_pairOf) (maxL := 2) (ret := (some .int)) (by decide) rfl ?_
  intro p e s m args below meth c s₁ B hml hv
  obtain ⟨rfl, hP, hK, hD, hN⟩ := hv
  have hx := B.exec
  have hb := B.bytes
  have hr0 := B.returns
  have hts := atoms_spec (ws := wsX6_pairOf) B.pre
  have hown : s.vm.findClass RX6 = some m.cls := findClass_of_methodNamed B.named
  have hlocks := B.notSynchronized
  have hS : va_S (fun _ => False) s.heap s.heap [] := va_S.rf
  have hl := lv_entry ([.int one, .int other]) (n := 2) (Nat.le_of_ble_eq_true rfl)
  rw [lg_entry_eq]
  generalize (lg_sl ([.int one, .int other]) ++ List.replicate (2 - (lg_sl ([.int one, .int other])).length) Slot.unset).toArray = ls at hl ⊢
  have hl : lv_has ls 2 [(0, .int one), (1, .int other)] := hl
  obtain ⟨ρ, hρ⟩ : ∃ ρ : Int32, ρ = P_pairOf one other := ⟨_, rfl⟩
  have hr : P_pairOf one other = ρ := hρ.symm
  rewrite [P_pairOf] at hr
  refine lv_iload_n hx hb dX6_pairOf_0 rfl (lv_at hl 0 rfl) ?_
  refine lv_bipush (v := 16) hx hb dX6_pairOf_1 (by decide) ?_
  refine lv_imul hx hb dX6_pairOf_3 ?_
  refine lv_iload_n hx hb dX6_pairOf_4 rfl (lv_at hl 1 rfl) ?_
  refine lv_iadd hx hb dX6_pairOf_5 ?_
  have he := hr.trans hρ
  exact W.iret (v := (one * (16 : Int32)) + other) hx hb hr0 (fun t ht hW => kR_end he hS ht) hS.2.2 dX6_pairOf_6
def P_oneOf (pair : Int32) : Int32 :=
  if 0 ≤ pair then
    pair / (16 : Int32)
  else
    (-1)
abbrev rm_X6_oneOf : Room := { frames := 0, cells := 0, slots := 0, locals := 0 }
set_option maxHeartbeats 4000000 in
set_option maxRecDepth 100000 in
theorem k_X6_oneOf (l : Launch) (dC : Nat → ClassId) (dI : Nat → Nat → Nat) (cI cN : ClassId) (pair : Int32) : Met l yX6_oneOf wsX6_oneOf rm_X6_oneOf (va_Pc [.int pair] (kW dC dI cI cN [])) (kR (P_oneOf pair)) 0 0 (fun _ => False) := by
  refine Met.ofW (cc := cX6_oneOf) (maxL := 1) (ret := (some .int)) (by decide) rfl ?_
  intro p e s m args below meth c s₁ B hml hv
  obtain ⟨rfl, hP, hK, hD, hN⟩ := hv
  have hx := B.exec
  have hb := B.bytes
  have hr0 := B.returns
  have hts := atoms_spec (ws := wsX6_oneOf) B.pre
  have hown : s.vm.findClass RX6 = some m.cls := findClass_of_methodNamed B.named
  have hlocks := B.notSynchronized
  have hS : va_S (fun _ => False) s.heap s.heap [] := va_S.rf
  have hl := lv_entry ([.int pair]) (n := 1) (Nat.le_of_ble_eq_true rfl)
  rw [lg_entry_eq]
  generalize (lg_sl ([.int pair]) ++ List.replicate (1 - (lg_sl ([.int pair])).length) Slot.unset).toArray = ls at hl ⊢
  have hl : lv_has ls 1 [(0, .int pair)] := hl
  obtain ⟨ρ, hρ⟩ : ∃ ρ : Int32, ρ = P_oneOf pair := ⟨_, rfl⟩
  have hr : P_oneOf pair = ρ := hρ.symm
  rewrite [P_oneOf] at hr
  refine lv_iload_n hx hb dX6_oneOf_0 rfl (lv_at hl 0 rfl) ?_
  refine lv_if_ge (tgt := 8) hx hb dX6_oneOf_1 (by decide) (fun c_1 => ?_) (fun c_1 => ?_)
  · have hr := if_to hr c_1
    refine lv_iload_n hx hb dX6_oneOf_8 rfl (lv_at hl 0 rfl) ?_
    refine lv_bipush (v := 16) hx hb dX6_oneOf_9 (by decide) ?_
    refine lv_idiv hx hb dX6_oneOf_11 (by decide) ?_
    have he := hr.trans hρ
    exact W.iret (v := pair / (16 : Int32)) hx hb hr0 (fun t ht hW => kR_end he hS ht) hS.2.2 dX6_oneOf_12
  · have hr := if_no hr c_1
    refine lv_iconst (v := (-1)) hx hb dX6_oneOf_4 (by decide) ?_
    refine lv_goto (tgt := 12) hx hb dX6_oneOf_5 (by decide) ?_
    have he := hr.trans hρ
    exact W.iret (v := (-1)) hx hb hr0 (fun t ht hW => kR_end he hS ht) hS.2.2 dX6_oneOf_12
def P_otherOf (pair : Int32) : Int32 :=
  if 0 ≤ pair then
    pair - pair / (16 : Int32) * (16 : Int32)
  else
    (-1)
abbrev rm_X6_otherOf : Room := { frames := 0, cells := 0, slots := 0, locals := 0 }
set_option maxHeartbeats 4000000 in
set_option maxRecDepth 100000 in
theorem k_X6_otherOf (l : Launch) (dC : Nat → ClassId) (dI : Nat → Nat → Nat) (cI cN : ClassId) (pair : Int32) : Met l yX6_otherOf wsX6_otherOf rm_X6_otherOf (va_Pc [.int pair] (kW dC dI cI cN [])) (kR (P_otherOf pair)) 0 0 (fun _ => False) := by
  refine Met.ofW (cc := cX6_otherOf) (maxL := 1) (ret := (some .int)) (by decide) rfl ?_
  intro p e s m args below meth c s₁ B hml hv
  obtain ⟨rfl, hP, hK, hD, hN⟩ := hv
  have hx := B.exec
  have hb := B.bytes
  have hr0 := B.returns
  have hts := atoms_spec (ws := wsX6_otherOf) B.pre
  have hown : s.vm.findClass RX6 = some m.cls := findClass_of_methodNamed B.named
  have hlocks := B.notSynchronized
  have hS : va_S (fun _ => False) s.heap s.heap [] := va_S.rf
  have hl := lv_entry ([.int pair]) (n := 1) (Nat.le_of_ble_eq_true rfl)
  rw [lg_entry_eq]
  generalize (lg_sl ([.int pair]) ++ List.replicate (1 - (lg_sl ([.int pair])).length) Slot.unset).toArray = ls at hl ⊢
  have hl : lv_has ls 1 [(0, .int pair)] := hl
  obtain ⟨ρ, hρ⟩ : ∃ ρ : Int32, ρ = P_otherOf pair := ⟨_, rfl⟩
  have hr : P_otherOf pair = ρ := hρ.symm
  rewrite [P_otherOf] at hr
  refine lv_iload_n hx hb dX6_otherOf_0 rfl (lv_at hl 0 rfl) ?_
  refine lv_if_ge (tgt := 8) hx hb dX6_otherOf_1 (by decide) (fun c_1 => ?_) (fun c_1 => ?_)
  · have hr := if_to hr c_1
    refine lv_iload_n hx hb dX6_otherOf_8 rfl (lv_at hl 0 rfl) ?_
    refine lv_bipush (v := 16) hx hb dX6_otherOf_9 (by decide) ?_
    refine lv_irem hx hb dX6_otherOf_11 (by decide) ?_
    have he := hr.trans hρ
    exact W.iret (v := pair - pair / (16 : Int32) * (16 : Int32)) hx hb hr0 (fun t ht hW => kR_end he hS ht) hS.2.2 dX6_otherOf_12
  · have hr := if_no hr c_1
    refine lv_iconst (v := (-1)) hx hb dX6_otherOf_4 (by decide) ?_
    refine lv_goto (tgt := 12) hx hb dX6_otherOf_5 (by decide) ?_
    have he := hr.trans hρ
    exact W.iret (v := (-1)) hx hb hr0 (fun t ht hW => kR_end he hS ht) hS.2.2 dX6_otherOf_12
