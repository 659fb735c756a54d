/-! a net: what is asked of it (printed by wip/gen) -/
def P_nearOf (f : Nat → Int32) (knot : Int32) : Int32 :=
  if knot < 0 then
    0
  else
    if (16 : Int32) ≤ knot then
      0
    else
      f (knot).toNatClampNeg
abbrev rm_X3_nearOf : Room := { frames := 0, cells := 0, slots := 0, locals := 0 }
set_option maxHeartbeats 4000000 in
set_option maxRecDepth 100000 in
theorem k_X3_nearOf (l : Launch) (dC : Nat → ClassId) (dI : Nat → Nat → Nat) (cI cN : ClassId) (h0 : Nat) (h1 : Nat) (K : Nat) (f : Nat → Int32) (knot : Int32) (hK : K ≤ 16) : Met l yX3_nearOf wsX3_nearOf rm_X3_nearOf (va_Pc [.ref h0, .int knot] (kW dC dI cI cN [(h0, .inr (3, [.ref h1, .int (nI K)])), (h1, .inl (cI, 16, .inl f))])) (kR (P_nearOf f knot)) 0 0 (fun _ => False) := by
  refine Met.ofW (cc := cX3_nearOf) (maxL := 2) (ret := (some .int)) (by decide) rfl ?_
  intro p e s m args below meth c s₁ B hml hv
  obtain ⟨rfl, hP, hK, hD, hN⟩ := hv
  have hx := B.exec
  have hb := B.bytes
  have hr0 := B.returns
  have hts := atoms_spec (ws := wsX3_nearOf) B.pre
  have hown : s.vm.findClass RX3 = some m.cls := findClass_of_methodNamed B.named
  have hlocks := B.notSynchronized
  have hS : va_S (fun _ => False) s.heap s.heap [] := va_S.rf
  have hl := lv_entry ([.ref h0, .int knot]) (n := 2) (Nat.le_of_ble_eq_true rfl)
  rw [lg_entry_eq]
  generalize (lg_sl ([.ref h0, .int knot]) ++ List.replicate (2 - (lg_sl ([.ref h0, .int knot])).length) Slot.unset).toArray = ls at hl ⊢
  have hl : lv_has ls 2 [(0, .ref h0), (1, .int knot)] := hl
  obtain ⟨ρ, hρ⟩ : ∃ ρ : Int32, ρ = P_nearOf f knot := ⟨_, rfl⟩
  have hr : P_nearOf f knot = ρ := hρ.symm
  rewrite [P_nearOf] at hr
  refine lv_iload_n hx hb dX3_nearOf_0 rfl (lv_at hl 1 rfl) ?_
  refine lv_if_lt (tgt := 22) hx hb dX3_nearOf_1 (by decide) (fun c_1 => ?_) (fun c_1 => ?_)
  · have hr := if_to hr c_1
    refine lv_iconst (v := 0) hx hb dX3_nearOf_22 (by decide) ?_
    have he := hr.trans hρ
    exact W.iret (v := 0) hx hb hr0 (fun t ht hW => kR_end he hS ht) hS.2.2 dX3_nearOf_23
  · have hr := if_no hr c_1
    refine lv_iload_n hx hb dX3_nearOf_4 rfl (lv_at hl 1 rfl) ?_
    refine lv_aload_n hx hb dX3_nearOf_5 rfl (lv_at hl 0 rfl) ?_
    refine va_get (D := (dC, dI)) (ci := 3) (v := .ref h1) (C := RX3) (T := TX3) (N := 2) hx hb hts (by decide +kernel) hown hK hP 0 rfl rfl 0 (by decide) (hts (.fieldLink RX3 9 "Shortring$Net" "near" "[I") (by decide +kernel)) (fun _ h9 => h9) rfl dX3_nearOf_6 ?_
    refine va_alen (v := 16) hx hb hK hP 1 0 rfl rfl rfl dX3_nearOf_9 ?_
    refine lv_icmp_ge (tgt := 22) hx hb dX3_nearOf_10 (by decide) (fun c_2 => ?_) (fun c_2 => ?_)
    · have hr := if_to hr c_2
      refine lv_iconst (v := 0) hx hb dX3_nearOf_22 (by decide) ?_
      have he := hr.trans hρ
      exact W.iret (v := 0) hx hb hr0 (fun t ht hW => kR_end he hS ht) hS.2.2 dX3_nearOf_23
    · have hr := if_no hr c_2
      refine lv_aload_n hx hb dX3_nearOf_13 rfl (lv_at hl 0 rfl) ?_
      refine va_get (D := (dC, dI)) (ci := 3) (v := .ref h1) (C := RX3) (T := TX3) (N := 2) hx hb hts (by decide +kernel) hown hK hP 0 rfl rfl 0 (by decide) (hts (.fieldLink RX3 9 "Shortring$Net" "near" "[I") (by decide +kernel)) (fun _ h9 => h9) rfl dX3_nearOf_14 ?_
      refine lv_iload_n hx hb dX3_nearOf_17 rfl (lv_at hl 1 rfl) ?_
      refine va_iald hx hb hK hP 1 0 rfl rfl (kIn (N := 16) (by decide) (by assumption) (by assumption)) dX3_nearOf_18 ?_
      refine lv_goto (tgt := 23) hx hb dX3_nearOf_19 (by decide) ?_
      have he := hr.trans hρ
      exact W.iret (v := f (knot).toNatClampNeg) hx hb hr0 (fun t ht hW => kR_end he hS ht) hS.2.2 dX3_nearOf_23
def P_isKnot (K : Nat) (knot : Int32) : Int32 :=
  if knot < 0 then
    0
  else
    if (nI K) ≤ knot then
      0
    else
      if (16 : Int32) ≤ knot then
        0
      else
        1
abbrev rm_X3_isKnot : Room := { frames := 0, cells := 0, slots := 0, locals := 0 }
set_option maxHeartbeats 4000000 in
set_option maxRecDepth 100000 in
theorem k_X3_isKnot (l : Launch) (dC : Nat → ClassId) (dI : Nat → Nat → Nat) (cI cN : ClassId) (h0 : Nat) (h1 : Nat) (K : Nat) (f : Nat → Int32) (knot : Int32) (hK : K ≤ 16) : Met l yX3_isKnot wsX3_isKnot rm_X3_isKnot (va_Pc [.ref h0, .int knot] (kW dC dI cI cN [(h0, .inr (3, [.ref h1, .int (nI K)])), (h1, .inl (cI, 16, .inl f))])) (kR (P_isKnot K knot)) 0 0 (fun _ => False) := by
  refine Met.ofW (cc := cX3_isKnot) (maxL := 2) (ret := (some .boolean)) (by decide) rfl ?_
  intro p e s m args below meth c s₁ B hml hv
  obtain ⟨rfl, hP, hK, hD, hN⟩ := hv
  have hx := B.exec
  have hb := B.bytes
  have hr0 := B.returns
  have hts := atoms_spec (ws := wsX3_isKnot) B.pre
  have hown : s.vm.findClass RX3 = some m.cls := findClass_of_methodNamed B.named
  have hlocks := B.notSynchronized
  have hS : va_S (fun _ => False) s.heap s.heap [] := va_S.rf
  have hl := lv_entry ([.ref h0, .int knot]) (n := 2) (Nat.le_of_ble_eq_true rfl)
  rw [lg_entry_eq]
  generalize (lg_sl ([.ref h0, .int knot]) ++ List.replicate (2 - (lg_sl ([.ref h0, .int knot])).length) Slot.unset).toArray = ls at hl ⊢
  have hl : lv_has ls 2 [(0, .ref h0), (1, .int knot)] := hl
  obtain ⟨ρ, hρ⟩ : ∃ ρ : Int32, ρ = P_isKnot K knot := ⟨_, rfl⟩
  have hr : P_isKnot K knot = ρ := hρ.symm
  rewrite [P_isKnot] at hr
  refine lv_iload_n hx hb dX3_isKnot_0 rfl (lv_at hl 1 rfl) ?_
  refine lv_if_lt (tgt := 25) hx hb dX3_isKnot_1 (by decide) (fun c_1 => ?_) (fun c_1 => ?_)
  · have hr := if_to hr c_1
    refine lv_iconst (v := 0) hx hb dX3_isKnot_25 (by decide) ?_
    have he := hr.trans hρ
    exact W.zret (v := 0) hx hb hr0 rfl (fun t ht hW => kR_end he hS ht) hS.2.2 dX3_isKnot_26
  · have hr := if_no hr c_1
    refine lv_iload_n hx hb dX3_isKnot_4 rfl (lv_at hl 1 rfl) ?_
    refine lv_aload_n hx hb dX3_isKnot_5 rfl (lv_at hl 0 rfl) ?_
    refine va_get (D := (dC, dI)) (ci := 3) (v := .int (nI K)) (C := RX3) (T := TX3) (N := 2) hx hb hts (by decide +kernel) hown hK hP 0 rfl rfl 1 (by decide) (hts (.fieldLink RX3 15 "Shortring$Net" "knots" "I") (by decide +kernel)) (fun _ h9 => h9) rfl dX3_isKnot_6 ?_
    refine lv_icmp_ge (tgt := 25) hx hb dX3_isKnot_9 (by decide) (fun c_2 => ?_) (fun c_2 => ?_)
    · have hr := if_to hr c_2
      refine lv_iconst (v := 0) hx hb dX3_isKnot_25 (by decide) ?_
      have he := hr.trans hρ
      exact W.zret (v := 0) hx hb hr0 rfl (fun t ht hW => kR_end he hS ht) hS.2.2 dX3_isKnot_26
    · have hr := if_no hr c_2
      refine lv_iload_n hx hb dX3_isKnot_12 rfl (lv_at hl 1 rfl) ?_
      refine lv_aload_n hx hb dX3_isKnot_13 rfl (lv_at hl 0 rfl) ?_
      refine va_get (D := (dC, dI)) (ci := 3) (v := .ref h1) (C := RX3) (T := TX3) (N := 2) hx hb hts (by decide +kernel) hown hK hP 0 rfl rfl 0 (by decide) (hts (.fieldLink RX3 9 "Shortring$Net" "near" "[I") (by decide +kernel)) (fun _ h9 => h9) rfl dX3_isKnot_14 ?_
      refine va_alen (v := 16) hx hb hK hP 1 0 rfl rfl rfl dX3_isKnot_17 ?_
      refine lv_icmp_ge (tgt := 25) hx hb dX3_isKnot_18 (by decide) (fun c_3 => ?_) (fun c_3 => ?_)
      · have hr := if_to hr c_3
        refine lv_iconst (v := 0) hx hb dX3_isKnot_25 (by decide) ?_
        have he := hr.trans hρ
        exact W.zret (v := 0) hx hb hr0 rfl (fun t ht hW => kR_end he hS ht) hS.2.2 dX3_isKnot_26
      · have hr := if_no hr c_3
        refine lv_iconst (v := 1) hx hb dX3_isKnot_21 (by decide) ?_
        refine lv_goto (tgt := 26) hx hb dX3_isKnot_22 (by decide) ?_
        have he := hr.trans hρ
        exact W.zret (v := 1) hx hb hr0 rfl (fun t ht hW => kR_end he hS ht) hS.2.2 dX3_isKnot_26
theorem P_isKnot_b (K : Nat) (knot : Int32) : P_isKnot K knot = 0 ∨ P_isKnot K knot = 1 := by
  unfold P_isKnot
  repeat' split
  all_goals first | exact Or.inl rfl | exact Or.inr rfl
theorem P_isKnot_in {K : Nat} {knot : Int32} (h : ¬ P_isKnot K knot = 0) : vp_in knot 16 := by
  unfold P_isKnot at h
  split at h
  · exact absurd rfl h
  · split at h
    · exact absurd rfl h
    · split at h
      · exact absurd rfl h
      · exact kIn (N := 16) (by decide) (by assumption) (by assumption)
def P_isNear (f : Nat → Int32) (one : Int32) (other : Int32) : Int32 :=
  P_holds (P_nearOf f one) other
abbrev rm_X3_isNear : Room := { frames := 1, cells := 0, slots := 0, locals := 21 }
set_option maxHeartbeats 4000000 in
set_option maxRecDepth 100000 in
theorem k_X3_isNear (l : Launch) (dC : Nat → ClassId) (dI : Nat → Nat → Nat) (cI cN : ClassId) (h0 : Nat) (h1 : Nat) (K : Nat) (f : Nat → Int32) (one : Int32) (other : Int32) (hK : K ≤ 16) : Met l yX3_isNear wsX3_isNear rm_X3_isNear (va_Pc [.ref h0, .int one, .int other] (kW dC dI cI cN [(h0, .inr (3, [.ref h1, .int (nI K)])), (h1, .inl (cI, 16, .inl f))])) (kR (P_isNear f one other)) 0 0 (fun _ => False) := by
  refine Met.ofW (cc := cX3_isNear) (maxL := 3) (ret := (some .boolean)) (by decide) rfl ?_
  intro p e s m args below meth c s₁ B hml hv
  obtain ⟨rfl, hP, hK, hD, hN⟩ := hv
  have hx := B.exec
  have hb := B.bytes
  have hr0 := B.returns
  have hts := atoms_spec (ws := wsX3_isNear) B.pre
  have hown : s.vm.findClass RX3 = some m.cls := findClass_of_methodNamed B.named
  have hlocks := B.notSynchronized
  have hS : va_S (fun _ => False) s.heap s.heap [] := va_S.rf
  have hl := lv_entry ([.ref h0, .int one, .int other]) (n := 3) (Nat.le_of_ble_eq_true rfl)
  rw [lg_entry_eq]
  generalize (lg_sl ([.ref h0, .int one, .int other]) ++ List.replicate (3 - (lg_sl ([.ref h0, .int one, .int other])).length) Slot.unset).toArray = ls at hl ⊢
  have hl : lv_has ls 3 [(0, .ref h0), (1, .int one), (2, .int other)] := hl
  obtain ⟨ρ, hρ⟩ : ∃ ρ : Int32, ρ = P_isNear f one other := ⟨_, rfl⟩
  have hr : P_isNear f one other = ρ := hρ.symm
  rewrite [P_isNear] at hr
  refine lv_aload_n hx hb dX3_isNear_0 rfl (lv_at hl 0 rfl) ?_
  refine lv_iload_n hx hb dX3_isNear_1 rfl (lv_at hl 1 rfl) ?_
  refine kCall (va_runV (As := [.int one]) (rest := []) ⟨hx, hb, hml, hown, hts⟩ (k_X3_nearOf l dC dI cI cN h0 h1 K f one (by first | assumption | omega | exact Int32.le_refl _ | decide)) (cwV 1 hts gX3_isNear_X3_nearOf rfl rfl rfl (by decide +kernel) ⟨Nat.le_of_ble_eq_true rfl, Nat.le_of_ble_eq_true rfl⟩) (kW_V hP hK hD hN (ci := 3) (q0 := 0) rfl rfl [0, 1] rfl rfl rfl) rfl rfl hl.1 rfl (lv_room (Nat.le_of_ble_eq_true rfl)) dX3_isNear_2 ⟨Nat.zero_le _, Nat.zero_le _⟩) hP hS (fun H locs hP hS => ?_)
  refine lv_iload_n hx hb dX3_isNear_5 rfl (lv_at hl 2 rfl) ?_
  refine kCall (va_runSN (As := [.int (P_nearOf f one), .int other]) (rest := []) ⟨hx, hb, hml, hown, hts⟩ (k_X6_holds l dC dI cI cN (P_nearOf f one) other) ⟨va_cnB 2 hts gX3_isNear_X6_holds_n23 rfl rfl rfl (hN.1 61 _ rfl) (hts (.initialized RX6) (by decide +kernel)) (by decide +kernel) ⟨Nat.le_of_ble_eq_true rfl, Nat.le_of_ble_eq_true rfl⟩, hts (.static yX6_holds) (by decide +kernel), trivial⟩ (kW_S hP hK hD hN [] rfl rfl rfl) rfl rfl hl.1 rfl (lv_room (Nat.le_of_ble_eq_true rfl)) dX3_isNear_6 ⟨Nat.zero_le _, Nat.zero_le _⟩) hP hS (fun H locs hP hS => ?_)
  have he := hr.trans hρ
  exact W.zret (v := P_holds (P_nearOf f one) other) hx hb hr0 (kBool (P_holds_b (P_nearOf f one) other)) (fun t ht hW => kR_end he hS ht) hS.2.2 dX3_isNear_9
def P_countOf (f : Nat → Int32) (knot : Int32) : Int32 :=
  P_bitCount (P_nearOf f knot)
abbrev rm_X3_countOf : Room := { frames := 1, cells := 0, slots := 0, locals := 21 }
set_option maxHeartbeats 4000000 in
set_option maxRecDepth 100000 in
theorem k_X3_countOf (l : Launch) (dC : Nat → ClassId) (dI : Nat → Nat → Nat) (cI cN : ClassId) (h0 : Nat) (h1 : Nat) (K : Nat) (f : Nat → Int32) (knot : Int32) (hK : K ≤ 16) : Met l yX3_countOf wsX3_countOf rm_X3_countOf (va_Pc [.ref h0, .int knot] (kW dC dI cI cN [(h0, .inr (3, [.ref h1, .int (nI K)])), (h1, .inl (cI, 16, .inl f))])) (kR (P_countOf f knot)) 0 0 (fun _ => False) := by
  refine Met.ofW (cc := cX3_countOf) (maxL := 2) (ret := (some .int)) (by decide) rfl ?_
  intro p e s m args below meth c s₁ B hml hv
  obtain ⟨rfl, hP, hK, hD, hN⟩ := hv
  have hx := B.exec
  have hb := B.bytes
  have hr0 := B.returns
  have hts := atoms_spec (ws := wsX3_countOf) B.pre
  have hown : s.vm.findClass RX3 = some m.cls := findClass_of_methodNamed B.named
  have hlocks := B.notSynchronized
  have hS : va_S (fun _ => False) s.heap s.heap [] := va_S.rf
  have hl := lv_entry ([.ref h0, .int knot]) (n := 2) (Nat.le_of_ble_eq_true rfl)
  rw [lg_entry_eq]
  generalize (lg_sl ([.ref h0, .int knot]) ++ List.replicate (2 - (lg_sl ([.ref h0, .int knot])).length) Slot.unset).toArray = ls at hl ⊢
  have hl : lv_has ls 2 [(0, .ref h0), (1, .int knot)] := hl
  obtain ⟨ρ, hρ⟩ : ∃ ρ : Int32, ρ = P_countOf f knot := ⟨_, rfl⟩
  have hr : P_countOf f knot = ρ := hρ.symm
  rewrite [P_countOf] at hr
  refine lv_aload_n hx hb dX3_countOf_0 rfl (lv_at hl 0 rfl) ?_
  refine lv_iload_n hx hb dX3_countOf_1 rfl (lv_at hl 1 rfl) ?_
  refine kCall (va_runV (As := [.int knot]) (rest := []) ⟨hx, hb, hml, hown, hts⟩ (k_X3_nearOf l dC dI cI cN h0 h1 K f knot (by first | assumption | omega | exact Int32.le_refl _ | decide)) (cwV 1 hts gX3_countOf_X3_nearOf rfl rfl rfl (by decide +kernel) ⟨Nat.le_of_ble_eq_true rfl, Nat.le_of_ble_eq_true rfl⟩) (kW_V hP hK hD hN (ci := 3) (q0 := 0) rfl rfl [0, 1] rfl rfl rfl) rfl rfl hl.1 rfl (lv_room (Nat.le_of_ble_eq_true rfl)) dX3_countOf_2 ⟨Nat.zero_le _, Nat.zero_le _⟩) hP hS (fun H locs hP hS => ?_)
  refine kCall (va_runS (As := [.int (P_nearOf f knot)]) (rest := []) ⟨hx, hb, hml, hown, hts⟩ (k_J6_bitCount_0f7a4 l dC dI cI cN (P_nearOf f knot)) (va_cwS 1 hts gX3_countOf_J6_bitCount_0f7a4 rfl rfl rfl (by decide +kernel) ⟨Nat.le_of_ble_eq_true rfl, Nat.le_of_ble_eq_true rfl⟩) (kW_S hP hK hD hN [] rfl rfl rfl) rfl rfl hl.1 rfl (lv_room (Nat.le_of_ble_eq_true rfl)) dX3_countOf_5 ⟨Nat.zero_le _, Nat.zero_le _⟩) hP hS (fun H locs hP hS => ?_)
  have he := hr.trans hρ
  exact W.iret (v := P_bitCount (P_nearOf f knot)) hx hb hr0 (fun t ht hW => kR_end he hS ht) hS.2.2 dX3_countOf_8
def L_edgesInAll_4 (K : Nat) (f : Nat → Int32) (k : Int32 → Int32) : Nat → Nat → Int32 → Int32
  | 0, i, ends => k ends
  | n + 1, i, ends =>
    bd (ends + (P_countOf f (nI i))) (fun ends_1 =>
      L_edgesInAll_4 K f k n (i + 1) ends_1)
def P_edgesInAll (K : Nat) (f : Nat → Int32) : Int32 :=
  L_edgesInAll_4 K f (fun ends => ends / (2 : Int32)) K 0 0
abbrev rm_X3_edgesInAll : Room := { frames := 2, cells := 0, slots := 0, locals := 42 }
set_option maxHeartbeats 4000000 in
set_option maxRecDepth 100000 in
theorem k_X3_edgesInAll (l : Launch) (dC : Nat → ClassId) (dI : Nat → Nat → Nat) (cI cN : ClassId) (h0 : Nat) (h1 : Nat) (K : Nat) (f : Nat → Int32) (hK : K ≤ 16) : Met l yX3_edgesInAll wsX3_edgesInAll rm_X3_edgesInAll (va_Pc [.ref h0] (kW dC dI cI cN [(h0, .inr (3, [.ref h1, .int (nI K)])), (h1, .inl (cI, 16, .inl f))])) (kR (P_edgesInAll K f)) 0 0 (fun _ => False) := by
  refine Met.ofW (cc := cX3_edgesInAll) (maxL := 3) (ret := (some .int)) (by decide) rfl ?_
  intro p e s m args below meth c s₁ B hml hv
  obtain ⟨rfl, hP, hK, hD, hN⟩ := hv
  have hx := B.exec
  have hb := B.bytes
  have hr0 := B.returns
  have hts := atoms_spec (ws := wsX3_edgesInAll) B.pre
  have hown : s.vm.findClass RX3 = some m.cls := findClass_of_methodNamed B.named
  have hlocks := B.notSynchronized
  have hS : va_S (fun _ => False) s.heap s.heap [] := va_S.rf
  have hl := lv_entry ([.ref h0]) (n := 3) (Nat.le_of_ble_eq_true rfl)
  rw [lg_entry_eq]
  generalize (lg_sl ([.ref h0]) ++ List.replicate (3 - (lg_sl ([.ref h0])).length) Slot.unset).toArray = ls at hl ⊢
  have hl : lv_has ls 3 [(0, .ref h0)] := hl
  obtain ⟨ρ, hρ⟩ : ∃ ρ : Int32, ρ = P_edgesInAll K f := ⟨_, rfl⟩
  have hr : P_edgesInAll K f = ρ := hρ.symm
  rewrite [P_edgesInAll] at hr
  refine lv_iconst (v := 0) hx hb dX3_edgesInAll_0 (by decide) ?_
  refine lv_istore_n (lv' := [(1, .int 0), (0, .ref h0)]) hx hb dX3_edgesInAll_1 rfl hl (by decide) rfl (fun ls hl => ?_)
  refine lv_iconst (v := 0) hx hb dX3_edgesInAll_2 (by decide) ?_
  refine lv_istore_n (lv' := [(2, .int 0), (1, .int 0), (0, .ref h0)]) hx hb dX3_edgesInAll_3 rfl hl (by decide) rfl (fun ls hl => ?_)
  have ex_4 : ∀ (ends : Int32) (H : Heap) (locs : List Loc) (ls : Array Slot), (ends / (2 : Int32)) = ρ → va_P (dC, dI) kCl [(h0, .inr (3, [.ref h1, .int (nI K)])), (h1, .inl (cI, 16, .inl f))] H → va_S (fun _ => False) s.heap H locs → lv_has ls 3 [(1, .int ends), (0, .ref h0)] → W p l e (headSpec wsX3_edgesInAll rm_X3_edgesInAll).room s m (([.ref h0] : List Value).toArray) below meth c H locs 0 0 (MQ below (kR (P_edgesInAll K f)) (([.ref h0] : List Value).toArray) s 0 0 (fun _ => False)) (F0 m 26 ls []) := by
    intro ends H locs ls hr hP hS hl
    refine lv_iload_n hx hb dX3_edgesInAll_26 rfl (lv_at hl 0 rfl) ?_
    refine lv_iconst (v := 2) hx hb dX3_edgesInAll_27 (by decide) ?_
    refine lv_idiv hx hb dX3_edgesInAll_28 (by decide) ?_
    have he := hr.trans hρ
    exact W.iret (v := ends / (2 : Int32)) hx hb hr0 (fun t ht hW => kR_end he hS ht) hS.2.2 dX3_edgesInAll_29
  have lp_4 : ∀ (n_4 i : Nat) (ends : Int32) (H : Heap) (locs : List Loc) (ls : Array Slot), i + n_4 = K → L_edgesInAll_4 K f (fun ends => ends / (2 : Int32)) n_4 i ends = ρ → va_P (dC, dI) kCl [(h0, .inr (3, [.ref h1, .int (nI K)])), (h1, .inl (cI, 16, .inl f))] H → va_S (fun _ => False) s.heap H locs → lv_has ls 3 [(2, .int (nI i)), (1, .int ends), (0, .ref h0)] → W p l e (headSpec wsX3_edgesInAll rm_X3_edgesInAll).room s m (([.ref h0] : List Value).toArray) below meth c H locs 0 0 (MQ below (kR (P_edgesInAll K f)) (([.ref h0] : List Value).toArray) s 0 0 (fun _ => False)) (F0 m 4 ls []) := by
    intro n_4
    induction n_4 with
    | zero =>
      intro i ends H locs ls hi hr hP hS hl
      rewrite [L_edgesInAll_4] at hr
      refine lv_iload_n hx hb dX3_edgesInAll_4 rfl (lv_at hl 0 rfl) ?_
      refine lv_aload_n hx hb dX3_edgesInAll_5 rfl (lv_at hl 2 rfl) ?_
      refine va_get (D := (dC, dI)) (ci := 3) (v := .int (nI K)) (C := RX3) (T := TX3) (N := 2) hx hb hts (by decide +kernel) hown hK hP 0 rfl rfl 1 (by decide) (hts (.fieldLink RX3 15 "Shortring$Net" "knots" "I") (by decide +kernel)) (fun _ h9 => h9) rfl dX3_edgesInAll_6 ?_
      refine lv_icmp_ge (tgt := 26) hx hb dX3_edgesInAll_9 (by decide) (fun c_1 => ?_) (fun c_1 => ?_)
      · exact ex_4 ends _ _ _ hr hP hS (lv_sub hl [1, 2] rfl)
      · exact absurd (kTop (i := i) (N := K) rfl (by omega)) c_1
    | succ n_4 ih_4 =>
      intro i ends H locs ls hi hr hP hS hl
      rewrite [L_edgesInAll_4] at hr
      refine lv_iload_n hx hb dX3_edgesInAll_4 rfl (lv_at hl 0 rfl) ?_
      refine lv_aload_n hx hb dX3_edgesInAll_5 rfl (lv_at hl 2 rfl) ?_
      refine va_get (D := (dC, dI)) (ci := 3) (v := .int (nI K)) (C := RX3) (T := TX3) (N := 2) hx hb hts (by decide +kernel) hown hK hP 0 rfl rfl 1 (by decide) (hts (.fieldLink RX3 15 "Shortring$Net" "knots" "I") (by decide +kernel)) (fun _ h9 => h9) rfl dX3_edgesInAll_6 ?_
      refine lv_icmp_ge (tgt := 26) hx hb dX3_edgesInAll_9 (by decide) (fun c_2 => ?_) (fun c_2 => ?_)
      · exact absurd c_2 (kLow (i := i) (N := K) rfl (by omega) (by omega))
      · refine lv_iload_n hx hb dX3_edgesInAll_12 rfl (lv_at hl 1 rfl) ?_
        refine lv_aload_n hx hb dX3_edgesInAll_13 rfl (lv_at hl 2 rfl) ?_
        refine lv_iload_n hx hb dX3_edgesInAll_14 rfl (lv_at hl 0 rfl) ?_
        refine kCall (va_runV (As := [.int (nI i)]) (rest := [.int ends]) ⟨hx, hb, hml, hown, hts⟩ (k_X3_countOf l dC dI cI cN h0 h1 K f (nI i) (by first | assumption | omega | exact Int32.le_refl _ | decide)) (cwV 1 hts gX3_edgesInAll_X3_countOf rfl rfl rfl (by decide +kernel) ⟨Nat.le_of_ble_eq_true rfl, Nat.le_of_ble_eq_true rfl⟩) (kW_V hP hK hD hN (ci := 3) (q0 := 0) rfl rfl [0, 1] rfl rfl rfl) rfl rfl hl.1 rfl (lv_room (Nat.le_of_ble_eq_true rfl)) dX3_edgesInAll_15 ⟨Nat.zero_le _, Nat.zero_le _⟩) hP hS (fun H locs hP hS => ?_)
        refine lv_iadd hx hb dX3_edgesInAll_18 ?_
        refine lv_topi (fun ends_3 eends_3 => ?_)
        have hr := bd_to hr eends_3
        refine lv_istore_n (lv' := [(1, .int ends_3), (2, .int (nI i)), (0, .ref h0)]) hx hb dX3_edgesInAll_19 rfl hl (by decide) rfl (fun ls hl => ?_)
        refine lv_iinc (v := nI (i + 1)) (lv' := [(2, .int (nI (i + 1))), (1, .int ends_3), (0, .ref h0)]) hx hb dX3_edgesInAll_20 hl (k := 1) rfl (nI_1 _) (by decide) rfl (fun ls hl => ?_)
        refine lv_goto (tgt := 4) hx hb dX3_edgesInAll_23 (by decide) ?_
        exact ih_4 (i + 1) ends_3 _ _ _ (by omega) hr hP hS (lv_sub hl [0, 1, 2] rfl)
  exact lp_4 K 0 0 _ _ _ (by omega) hr hP hS (lv_sub hl [0, 1, 2] rfl)
def L_numberedIn_4 (set : Int32) (place : Int32) (k : Int32 → Int32) : Nat → Nat → Int32 → Int32
  | 0, i, left => k left
  | n + 1, i, left =>
    bd (left &&& (left - (1 : Int32))) (fun left_1 =>
      L_numberedIn_4 set place k n (i + 1) left_1)
def P_numberedIn (set : Int32) (place : Int32) : Int32 :=
  L_numberedIn_4 set place (fun left => P_firstOf left) place.toNatClampNeg 0 set
abbrev rm_X3_numberedIn : Room := { frames := 2, cells := 0, slots := 0, locals := 40 }
set_option maxHeartbeats 4000000 in
set_option maxRecDepth 100000 in
theorem k_X3_numberedIn (l : Launch) (dC : Nat → ClassId) (dI : Nat → Nat → Nat) (cI cN : ClassId) (set : Int32) (place : Int32) : Met l yX3_numberedIn wsX3_numberedIn rm_X3_numberedIn (va_Pc [.int set, .int place] (kW dC dI cI cN [])) (kR (P_numberedIn set place)) 0 0 (fun _ => False) := by
  refine Met.ofW (cc := cX3_numberedIn) (maxL := 4) (ret := (some .int)) (by decide) rfl ?_
  intro p e s m args below meth c s₁ B hml hv
  obtain ⟨rfl, hP, hK, hD, hN⟩ := hv
  have hx := B.exec
  have hb := B.bytes
  have hr0 := B.returns
  have hts := atoms_spec (ws := wsX3_numberedIn) B.pre
  have hown : s.vm.findClass RX3 = some m.cls := findClass_of_methodNamed B.named
  have hlocks := B.notSynchronized
  have hS : va_S (fun _ => False) s.heap s.heap [] := va_S.rf
  have hl := lv_entry ([.int set, .int place]) (n := 4) (Nat.le_of_ble_eq_true rfl)
  rw [lg_entry_eq]
  generalize (lg_sl ([.int set, .int place]) ++ List.replicate (4 - (lg_sl ([.int set, .int place])).length) Slot.unset).toArray = ls at hl ⊢
  have hl : lv_has ls 4 [(0, .int set), (1, .int place)] := hl
  obtain ⟨ρ, hρ⟩ : ∃ ρ : Int32, ρ = P_numberedIn set place := ⟨_, rfl⟩
  have hr : P_numberedIn set place = ρ := hρ.symm
  rewrite [P_numberedIn] at hr
  refine lv_iload_n hx hb dX3_numberedIn_0 rfl (lv_at hl 0 rfl) ?_
  refine lv_istore_n (lv' := [(2, .int set), (0, .int set), (1, .int place)]) hx hb dX3_numberedIn_1 rfl hl (by decide) rfl (fun ls hl => ?_)
  refine lv_iconst (v := 0) hx hb dX3_numberedIn_2 (by decide) ?_
  refine lv_istore_n (lv' := [(3, .int 0), (2, .int set), (0, .int set), (1, .int place)]) hx hb dX3_numberedIn_3 rfl hl (by decide) rfl (fun ls hl => ?_)
  have ex_4 : ∀ (left : Int32) (H : Heap) (locs : List Loc) (ls : Array Slot), (P_firstOf left) = ρ → va_P (dC, dI) kCl [] H → va_S (fun _ => False) s.heap H locs → lv_has ls 4 [(2, .int left), (1, .int place)] → W p l e (headSpec wsX3_numberedIn rm_X3_numberedIn).room s m (([.int set, .int place] : List Value).toArray) below meth c H locs 0 0 (MQ below (kR (P_numberedIn set place)) (([.int set, .int place] : List Value).toArray) s 0 0 (fun _ => False)) (F0 m 21 ls []) := by
    intro left H locs ls hr hP hS hl
    refine lv_iload_n hx hb dX3_numberedIn_21 rfl (lv_at hl 0 rfl) ?_
    refine kCall (va_runSN (As := [.int left]) (rest := []) ⟨hx, hb, hml, hown, hts⟩ (k_X6_firstOf l dC dI cI cN left) ⟨va_cnB 1 hts gX3_numberedIn_X6_firstOf_n49 rfl rfl rfl (hN.1 64 _ rfl) (hts (.initialized RX6) (by decide +kernel)) (by decide +kernel) ⟨Nat.le_of_ble_eq_true rfl, Nat.le_of_ble_eq_true rfl⟩, hts (.static yX6_firstOf) (by decide +kernel), trivial⟩ (kW_S hP hK hD hN [] rfl rfl rfl) rfl rfl hl.1 rfl (lv_room (Nat.le_of_ble_eq_true rfl)) dX3_numberedIn_22 ⟨Nat.zero_le _, Nat.zero_le _⟩) hP hS (fun H locs hP hS => ?_)
    have he := hr.trans hρ
    exact W.iret (v := P_firstOf left) hx hb hr0 (fun t ht hW => kR_end he hS ht) hS.2.2 dX3_numberedIn_25
  have lp_4 : ∀ (n_4 i : Nat) (left : Int32) (H : Heap) (locs : List Loc) (ls : Array Slot), i + n_4 = place.toNatClampNeg → L_numberedIn_4 set place (fun left => P_firstOf left) n_4 i left = ρ → va_P (dC, dI) kCl [] H → va_S (fun _ => False) s.heap H locs → lv_has ls 4 [(3, .int (nI i)), (2, .int left), (1, .int place)] → W p l e (headSpec wsX3_numberedIn rm_X3_numberedIn).room s m (([.int set, .int place] : List Value).toArray) below meth c H locs 0 0 (MQ below (kR (P_numberedIn set place)) (([.int set, .int place] : List Value).toArray) s 0 0 (fun _ => False)) (F0 m 4 ls []) := by
    intro n_4
    induction n_4 with
    | zero =>
      intro i left H locs ls hi hr hP hS hl
      rewrite [L_numberedIn_4] at hr
      refine lv_iload_n hx hb dX3_numberedIn_4 rfl (lv_at hl 0 rfl) ?_
      refine lv_iload_n hx hb dX3_numberedIn_5 rfl (lv_at hl 2 rfl) ?_
      refine lv_icmp_ge (tgt := 21) hx hb dX3_numberedIn_6 (by decide) (fun c_1 => ?_) (fun c_1 => ?_)
      · exact ex_4 left _ _ _ hr hP hS (lv_sub hl [1, 2] rfl)
      · exact absurd (kTopC (i := i) (by omega)) c_1
    | succ n_4 ih_4 =>
      intro i left H locs ls hi hr hP hS hl
      rewrite [L_numberedIn_4] at hr
      refine lv_iload_n hx hb dX3_numberedIn_4 rfl (lv_at hl 0 rfl) ?_
      refine lv_iload_n hx hb dX3_numberedIn_5 rfl (lv_at hl 2 rfl) ?_
      refine lv_icmp_ge (tgt := 21) hx hb dX3_numberedIn_6 (by decide) (fun c_2 => ?_) (fun c_2 => ?_)
      · exact absurd c_2 (kLowC (i := i) (by omega))
      · refine lv_iload_n hx hb dX3_numberedIn_9 rfl (lv_at hl 1 rfl) ?_
        refine lv_iload_n hx hb dX3_numberedIn_10 rfl (lv_at hl 1 rfl) ?_
        refine lv_iconst (v := 1) hx hb dX3_numberedIn_11 (by decide) ?_
        refine lv_isub hx hb dX3_numberedIn_12 ?_
        refine lv_iand hx hb dX3_numberedIn_13 ?_
        refine lv_topi (fun left_3 eleft_3 => ?_)
        have hr := bd_to hr eleft_3
        refine lv_istore_n (lv' := [(2, .int left_3), (3, .int (nI i)), (1, .int place)]) hx hb dX3_numberedIn_14 rfl hl (by decide) rfl (fun ls hl => ?_)
        refine lv_iinc (v := nI (i + 1)) (lv' := [(3, .int (nI (i + 1))), (2, .int left_3), (1, .int place)]) hx hb dX3_numberedIn_15 hl (k := 1) rfl (nI_1 _) (by decide) rfl (fun ls hl => ?_)
        refine lv_goto (tgt := 4) hx hb dX3_numberedIn_18 (by decide) ?_
        exact ih_4 (i + 1) left_3 _ _ _ (by omega) hr hP hS (lv_sub hl [0, 1, 2] rfl)
  exact lp_4 place.toNatClampNeg 0 set _ _ _ (by omega) hr hP hS (lv_sub hl [0, 1, 3] rfl)
def L_edgeAt_4 (K : Nat) (f : Nat → Int32) (number : Int32) (k : Int32 → Int32) : Nat → Nat → Int32 → Int32
  | 0, one, left => k left
  | n + 1, one, left =>
    if left < 0 then
      k left
    else
      bd ((P_nearOf f (nI one)) &&& (((P_bit ((nI one) + (1 : Int32))) - (1 : Int32)) ^^^ (-1 : Int32))) (fun above_1 =>
        bd (P_bitCount above_1) (fun many_2 =>
          if many_2 ≤ left then
            bd (left - many_2) (fun left_3 =>
              L_edgeAt_4 K f number k n (one + 1) left_3)
          else
            P_pairOf (nI one) (P_numberedIn above_1 left)))
def P_edgeAt (K : Nat) (f : Nat → Int32) (number : Int32) : Int32 :=
  L_edgeAt_4 K f number (fun left => (-1)) K 0 number
abbrev rm_X3_edgeAt : Room := { frames := 3, cells := 0, slots := 0, locals := 63 }
set_option maxHeartbeats 4000000 in
set_option maxRecDepth 100000 in
theorem k_X3_edgeAt (l : Launch) (dC : Nat → ClassId) (dI : Nat → Nat → Nat) (cI cN : ClassId) (h0 : Nat) (h1 : Nat) (K : Nat) (f : Nat → Int32) (number : Int32) (hK : K ≤ 16) : Met l yX3_edgeAt wsX3_edgeAt rm_X3_edgeAt (va_Pc [.ref h0, .int number] (kW dC dI cI cN [(h0, .inr (3, [.ref h1, .int (nI K)])), (h1, .inl (cI, 16, .inl f))])) (kR (P_edgeAt K f number)) 0 0 (fun _ => False) := by
  refine Met.ofW (cc := cX3_edgeAt) (maxL := 6) (ret := (some .int)) (by decide) rfl ?_
  intro p e s m args below meth c s₁ B hml hv
  obtain ⟨rfl, hP, hK, hD, hN⟩ := hv
  have hx := B.exec
  have hb := B.bytes
  have hr0 := B.returns
  have hts := atoms_spec (ws := wsX3_edgeAt) B.pre
  have hown : s.vm.findClass RX3 = some m.cls := findClass_of_methodNamed B.named
  have hlocks := B.notSynchronized
  have hS : va_S (fun _ => False) s.heap s.heap [] := va_S.rf
  have hl := lv_entry ([.ref h0, .int number]) (n := 6) (Nat.le_of_ble_eq_true rfl)
  rw [lg_entry_eq]
  generalize (lg_sl ([.ref h0, .int number]) ++ List.replicate (6 - (lg_sl ([.ref h0, .int number])).length) Slot.unset).toArray = ls at hl ⊢
  have hl : lv_has ls 6 [(0, .ref h0), (1, .int number)] := hl
  obtain ⟨ρ, hρ⟩ : ∃ ρ : Int32, ρ = P_edgeAt K f number := ⟨_, rfl⟩
  have hr : P_edgeAt K f number = ρ := hρ.symm
  rewrite [P_edgeAt] at hr
  refine lv_iload_n hx hb dX3_edgeAt_0 rfl (lv_at hl 1 rfl) ?_
  refine lv_istore_n (lv' := [(2, .int number), (0, .ref h0), (1, .int number)]) hx hb dX3_edgeAt_1 rfl hl (by decide) rfl (fun ls hl => ?_)
  refine lv_iconst (v := 0) hx hb dX3_edgeAt_2 (by decide) ?_
  refine lv_istore_n (lv' := [(3, .int 0), (2, .int number), (0, .ref h0), (1, .int number)]) hx hb dX3_edgeAt_3 rfl hl (by decide) rfl (fun ls hl => ?_)
  have ex_4 : ∀ (left : Int32) (H : Heap) (locs : List Loc) (ls : Array Slot), ((-1)) = ρ → va_P (dC, dI) kCl [(h0, .inr (3, [.ref h1, .int (nI K)])), (h1, .inl (cI, 16, .inl f))] H → va_S (fun _ => False) s.heap H locs → lv_has ls 6 [(2, .int left), (0, .ref h0)] → W p l e (headSpec wsX3_edgeAt rm_X3_edgeAt).room s m (([.ref h0, .int number] : List Value).toArray) below meth c H locs 0 0 (MQ below (kR (P_edgeAt K f number)) (([.ref h0, .int number] : List Value).toArray) s 0 0 (fun _ => False)) (F0 m 69 ls []) := by
    intro left H locs ls hr hP hS hl
    refine lv_iconst (v := (-1)) hx hb dX3_edgeAt_69 (by decide) ?_
    have he := hr.trans hρ
    exact W.iret (v := (-1)) hx hb hr0 (fun t ht hW => kR_end he hS ht) hS.2.2 dX3_edgeAt_70
  have lp_4 : ∀ (n_4 one : Nat) (left : Int32) (H : Heap) (locs : List Loc) (ls : Array Slot), one + n_4 = K → L_edgeAt_4 K f number (fun left => (-1)) n_4 one left = ρ → va_P (dC, dI) kCl [(h0, .inr (3, [.ref h1, .int (nI K)])), (h1, .inl (cI, 16, .inl f))] H → va_S (fun _ => False) s.heap H locs → lv_has ls 6 [(3, .int (nI one)), (2, .int left), (0, .ref h0)] → W p l e (headSpec wsX3_edgeAt rm_X3_edgeAt).room s m (([.ref h0, .int number] : List Value).toArray) below meth c H locs 0 0 (MQ below (kR (P_edgeAt K f number)) (([.ref h0, .int number] : List Value).toArray) s 0 0 (fun _ => False)) (F0 m 4 ls []) := by
    intro n_4
    induction n_4 with
    | zero =>
      intro one left H locs ls hi hr hP hS hl
      rewrite [L_edgeAt_4] at hr
      refine lv_iload_n hx hb dX3_edgeAt_4 rfl (lv_at hl 0 rfl) ?_
      refine lv_aload_n hx hb dX3_edgeAt_5 rfl (lv_at hl 2 rfl) ?_
      refine va_get (D := (dC, dI)) (ci := 3) (v := .int (nI K)) (C := RX3) (T := TX3) (N := 2) hx hb hts (by decide +kernel) hown hK hP 0 rfl rfl 1 (by decide) (hts (.fieldLink RX3 15 "Shortring$Net" "knots" "I") (by decide +kernel)) (fun _ h9 => h9) rfl dX3_edgeAt_6 ?_
      refine lv_icmp_ge (tgt := 69) hx hb dX3_edgeAt_9 (by decide) (fun c_1 => ?_) (fun c_1 => ?_)
      · exact ex_4 left _ _ _ hr hP hS (lv_sub hl [1, 2] rfl)
      · exact absurd (kTop (i := one) (N := K) rfl (by omega)) c_1
    | succ n_4 ih_4 =>
      intro one left H locs ls hi hr hP hS hl
      rewrite [L_edgeAt_4] at hr
      refine lv_iload_n hx hb dX3_edgeAt_4 rfl (lv_at hl 0 rfl) ?_
      refine lv_aload_n hx hb dX3_edgeAt_5 rfl (lv_at hl 2 rfl) ?_
      refine va_get (D := (dC, dI)) (ci := 3) (v := .int (nI K)) (C := RX3) (T := TX3) (N := 2) hx hb hts (by decide +kernel) hown hK hP 0 rfl rfl 1 (by decide) (hts (.fieldLink RX3 15 "Shortring$Net" "knots" "I") (by decide +kernel)) (fun _ h9 => h9) rfl dX3_edgeAt_6 ?_
      refine lv_icmp_ge (tgt := 69) hx hb dX3_edgeAt_9 (by decide) (fun c_2 => ?_) (fun c_2 => ?_)
      · exact absurd c_2 (kLow (i := one) (N := K) rfl (by omega) (by omega))
      · refine lv_iload_n hx hb dX3_edgeAt_12 rfl (lv_at hl 1 rfl) ?_
        refine lv_if_lt (tgt := 69) hx hb dX3_edgeAt_13 (by decide) (fun c_3 => ?_) (fun c_3 => ?_)
        · have hr := if_to hr c_3
          exact ex_4 left _ _ _ hr hP hS (lv_sub hl [1, 2] rfl)
        · have hr := if_no hr c_3
          refine lv_aload_n hx hb dX3_edgeAt_16 rfl (lv_at hl 2 rfl) ?_
          refine lv_iload_n hx hb dX3_edgeAt_17 rfl (lv_at hl 0 rfl) ?_
          refine kCall (va_runV (As := [.int (nI one)]) (rest := []) ⟨hx, hb, hml, hown, hts⟩ (k_X3_nearOf l dC dI cI cN h0 h1 K f (nI one) (by first | assumption | omega | exact Int32.le_refl _ | decide)) (cwV 1 hts gX3_edgeAt_X3_nearOf rfl rfl rfl (by decide +kernel) ⟨Nat.le_of_ble_eq_true rfl, Nat.le_of_ble_eq_true rfl⟩) (kW_V hP hK hD hN (ci := 3) (q0 := 0) rfl rfl [0, 1] rfl rfl rfl) rfl rfl hl.1 rfl (lv_room (Nat.le_of_ble_eq_true rfl)) dX3_edgeAt_18 ⟨Nat.zero_le _, Nat.zero_le _⟩) hP hS (fun H locs hP hS => ?_)
          refine lv_iload_n hx hb dX3_edgeAt_21 rfl (lv_at hl 0 rfl) ?_
          refine lv_iconst (v := 1) hx hb dX3_edgeAt_22 (by decide) ?_
          refine lv_iadd hx hb dX3_edgeAt_23 ?_
          refine kCall (va_runSN (As := [.int ((nI one) + (1 : Int32))]) (rest := [.int (P_nearOf f (nI one))]) ⟨hx, hb, hml, hown, hts⟩ (k_X6_bit l dC dI cI cN ((nI one) + (1 : Int32))) ⟨va_cnB 1 hts gX3_edgeAt_X6_bit_n36 rfl rfl rfl (hN.1 62 _ rfl) (hts (.initialized RX6) (by decide +kernel)) (by decide +kernel) ⟨Nat.le_of_ble_eq_true rfl, Nat.le_of_ble_eq_true rfl⟩, hts (.static yX6_bit) (by decide +kernel), trivial⟩ (kW_S hP hK hD hN [] rfl rfl rfl) rfl rfl hl.1 rfl (lv_room (Nat.le_of_ble_eq_true rfl)) dX3_edgeAt_24 ⟨Nat.zero_le _, Nat.zero_le _⟩) hP hS (fun H locs hP hS => ?_)
          refine lv_iconst (v := 1) hx hb dX3_edgeAt_27 (by decide) ?_
          refine lv_isub hx hb dX3_edgeAt_28 ?_
          refine lv_iconst (v := (-1)) hx hb dX3_edgeAt_29 (by decide) ?_
          refine lv_ixor hx hb dX3_edgeAt_30 ?_
          refine lv_iand hx hb dX3_edgeAt_31 ?_
          refine lv_topi (fun above_4 eabove_4 => ?_)
          have hr := bd_to hr eabove_4
          refine lv_istore (lv' := [(4, .int above_4), (3, .int (nI one)), (2, .int left), (0, .ref h0)]) hx hb dX3_edgeAt_32 hl (by decide) rfl (fun ls hl => ?_)
          refine lv_iload hx hb dX3_edgeAt_34 (lv_at hl 0 rfl) ?_
          refine kCall (va_runS (As := [.int above_4]) (rest := []) ⟨hx, hb, hml, hown, hts⟩ (k_J6_bitCount_0f7a4 l dC dI cI cN above_4) (va_cwS 1 hts gX3_edgeAt_J6_bitCount_0f7a4 rfl rfl rfl (by decide +kernel) ⟨Nat.le_of_ble_eq_true rfl, Nat.le_of_ble_eq_true rfl⟩) (kW_S hP hK hD hN [] rfl rfl rfl) rfl rfl hl.1 rfl (lv_room (Nat.le_of_ble_eq_true rfl)) dX3_edgeAt_36 ⟨Nat.zero_le _, Nat.zero_le _⟩) hP hS (fun H locs hP hS => ?_)
          refine lv_topi (fun many_5 emany_5 => ?_)
          have hr := bd_to hr emany_5
          refine lv_istore (lv' := [(5, .int many_5), (4, .int above_4), (3, .int (nI one)), (2, .int left), (0, .ref h0)]) hx hb dX3_edgeAt_39 hl (by decide) rfl (fun ls hl => ?_)
          refine lv_iload_n hx hb dX3_edgeAt_41 rfl (lv_at hl 3 rfl) ?_
          refine lv_iload hx hb dX3_edgeAt_42 (lv_at hl 0 rfl) ?_
          refine lv_icmp_ge (tgt := 58) hx hb dX3_edgeAt_44 (by decide) (fun c_6 => ?_) (fun c_6 => ?_)
          · have hr := if_to hr c_6
            refine lv_iload_n hx hb dX3_edgeAt_58 rfl (lv_at hl 3 rfl) ?_
            refine lv_iload hx hb dX3_edgeAt_59 (lv_at hl 0 rfl) ?_
            refine lv_isub hx hb dX3_edgeAt_61 ?_
            refine lv_topi (fun left_7 eleft_7 => ?_)
            have hr := bd_to hr eleft_7
            refine lv_istore_n (lv' := [(2, .int left_7), (5, .int many_5), (4, .int above_4), (3, .int (nI one)), (0, .ref h0)]) hx hb dX3_edgeAt_62 rfl hl (by decide) rfl (fun ls hl => ?_)
            refine lv_iinc (v := nI (one + 1)) (lv' := [(3, .int (nI (one + 1))), (2, .int left_7), (5, .int many_5), (4, .int above_4), (0, .ref h0)]) hx hb dX3_edgeAt_63 hl (k := 3) rfl (nI_1 _) (by decide) rfl (fun ls hl => ?_)
            refine lv_goto (tgt := 4) hx hb dX3_edgeAt_66 (by decide) ?_
            exact ih_4 (one + 1) left_7 _ _ _ (by omega) hr hP hS (lv_sub hl [0, 1, 4] rfl)
          · have hr := if_no hr c_6
            refine lv_iload_n hx hb dX3_edgeAt_47 rfl (lv_at hl 2 rfl) ?_
            refine lv_iload hx hb dX3_edgeAt_48 (lv_at hl 1 rfl) ?_
            refine lv_iload_n hx hb dX3_edgeAt_50 rfl (lv_at hl 3 rfl) ?_
            refine kCall (va_runS (As := [.int above_4, .int left]) (rest := [.int (nI one)]) ⟨hx, hb, hml, hown, hts⟩ (k_X3_numberedIn l dC dI cI cN above_4 left) (va_cwS 2 hts gX3_edgeAt_X3_numberedIn rfl rfl rfl (by decide +kernel) ⟨Nat.le_of_ble_eq_true rfl, Nat.le_of_ble_eq_true rfl⟩) (kW_S hP hK hD hN [] rfl rfl rfl) rfl rfl hl.1 rfl (lv_room (Nat.le_of_ble_eq_true rfl)) dX3_edgeAt_51 ⟨Nat.zero_le _, Nat.zero_le _⟩) hP hS (fun H locs hP hS => ?_)
            refine kCall (va_runSN (As := [.int (nI one), .int (P_numberedIn above_4 left)]) (rest := []) ⟨hx, hb, hml, hown, hts⟩ (k_X6_pairOf l dC dI cI cN (nI one) (P_numberedIn above_4 left)) ⟨va_cnB 2 hts gX3_edgeAt_X6_pairOf_n46 rfl rfl rfl (hN.1 63 _ rfl) (hts (.initialized RX6) (by decide +kernel)) (by decide +kernel) ⟨Nat.le_of_ble_eq_true rfl, Nat.le_of_ble_eq_true rfl⟩, hts (.static yX6_pairOf) (by decide +kernel), trivial⟩ (kW_S hP hK hD hN [] rfl rfl rfl) rfl rfl hl.1 rfl (lv_room (Nat.le_of_ble_eq_true rfl)) dX3_edgeAt_54 ⟨Nat.zero_le _, Nat.zero_le _⟩) hP hS (fun H locs hP hS => ?_)
            have he := hr.trans hρ
            exact W.iret (v := P_pairOf (nI one) (P_numberedIn above_4 left)) hx hb hr0 (fun t ht hW => kR_end he hS ht) hS.2.2 dX3_edgeAt_57
  exact lp_4 K 0 number _ _ _ (by omega) hr hP hS (lv_sub hl [0, 1, 2] rfl)
def L_evenCount_17 (K : Nat) (f : Nat → Int32) (k : Int32 → Int32) : Nat → Nat → Int32 → Int32
  | 0, i, count => k count
  | n + 1, i, count =>
    if (P_countOf f (nI i)) = count then
      L_evenCount_17 K f k n (i + 1) count
    else
      (-1)
def P_evenCount (K : Nat) (f : Nat → Int32) : Int32 :=
  if (nI K) = 0 then
    (-1)
  else
    bd (P_countOf f 0) (fun count_2 =>
      L_evenCount_17 K f (fun count => count) (K - 1) 1 count_2)
abbrev rm_X3_evenCount : Room := { frames := 2, cells := 0, slots := 0, locals := 42 }
set_option maxHeartbeats 4000000 in
set_option maxRecDepth 100000 in
theorem k_X3_evenCount (l : Launch) (dC : Nat → ClassId) (dI : Nat → Nat → Nat) (cI cN : ClassId) (h0 : Nat) (h1 : Nat) (K : Nat) (f : Nat → Int32) (hK : K ≤ 16) : Met l yX3_evenCount wsX3_evenCount rm_X3_evenCount (va_Pc [.ref h0] (kW dC dI cI cN [(h0, .inr (3, [.ref h1, .int (nI K)])), (h1, .inl (cI, 16, .inl f))])) (kR (P_evenCount K f)) 0 0 (fun _ => False) := by
  refine Met.ofW (cc := cX3_evenCount) (maxL := 3) (ret := (some .int)) (by decide) rfl ?_
  intro p e s m args below meth c s₁ B hml hv
  obtain ⟨rfl, hP, hK, hD, hN⟩ := hv
  have hx := B.exec
  have hb := B.bytes
  have hr0 := B.returns
  have hts := atoms_spec (ws := wsX3_evenCount) B.pre
  have hown : s.vm.findClass RX3 = some m.cls := findClass_of_methodNamed B.named
  have hlocks := B.notSynchronized
  have hS : va_S (fun _ => False) s.heap s.heap [] := va_S.rf
  have hl := lv_entry ([.ref h0]) (n := 3) (Nat.le_of_ble_eq_true rfl)
  rw [lg_entry_eq]
  generalize (lg_sl ([.ref h0]) ++ List.replicate (3 - (lg_sl ([.ref h0])).length) Slot.unset).toArray = ls at hl ⊢
  have hl : lv_has ls 3 [(0, .ref h0)] := hl
  obtain ⟨ρ, hρ⟩ : ∃ ρ : Int32, ρ = P_evenCount K f := ⟨_, rfl⟩
  have hr : P_evenCount K f = ρ := hρ.symm
  rewrite [P_evenCount] at hr
  refine lv_aload_n hx hb dX3_evenCount_0 rfl (lv_at hl 0 rfl) ?_
  refine va_get (D := (dC, dI)) (ci := 3) (v := .int (nI K)) (C := RX3) (T := TX3) (N := 2) hx hb hts (by decide +kernel) hown hK hP 0 rfl rfl 1 (by decide) (hts (.fieldLink RX3 15 "Shortring$Net" "knots" "I") (by decide +kernel)) (fun _ h9 => h9) rfl dX3_evenCount_1 ?_
  refine lv_if_ne (tgt := 9) hx hb dX3_evenCount_4 (by decide) (fun c_1 => ?_) (fun c_1 => ?_)
  · have hr := if_no hr c_1
    refine lv_aload_n hx hb dX3_evenCount_9 rfl (lv_at hl 0 rfl) ?_
    refine lv_iconst (v := 0) hx hb dX3_evenCount_10 (by decide) ?_
    refine kCall (va_runV (As := [.int 0]) (rest := []) ⟨hx, hb, hml, hown, hts⟩ (k_X3_countOf l dC dI cI cN h0 h1 K f 0 (by first | assumption | omega | exact Int32.le_refl _ | decide)) (cwV 1 hts gX3_evenCount_X3_countOf rfl rfl rfl (by decide +kernel) ⟨Nat.le_of_ble_eq_true rfl, Nat.le_of_ble_eq_true rfl⟩) (kW_V hP hK hD hN (ci := 3) (q0 := 0) rfl rfl [0, 1] rfl rfl rfl) rfl rfl hl.1 rfl (lv_room (Nat.le_of_ble_eq_true rfl)) dX3_evenCount_11 ⟨Nat.zero_le _, Nat.zero_le _⟩) hP hS (fun H locs hP hS => ?_)
    refine lv_topi (fun count_2 ecount_2 => ?_)
    have hr := bd_to hr ecount_2
    refine lv_istore_n (lv' := [(1, .int count_2), (0, .ref h0)]) hx hb dX3_evenCount_14 rfl hl (by decide) rfl (fun ls hl => ?_)
    refine lv_iconst (v := 1) hx hb dX3_evenCount_15 (by decide) ?_
    refine lv_istore_n (lv' := [(2, .int 1), (1, .int count_2), (0, .ref h0)]) hx hb dX3_evenCount_16 rfl hl (by decide) rfl (fun ls hl => ?_)
    have ex_17 : ∀ (count : Int32) (H : Heap) (locs : List Loc) (ls : Array Slot), (count) = ρ → va_P (dC, dI) kCl [(h0, .inr (3, [.ref h1, .int (nI K)])), (h1, .inl (cI, 16, .inl f))] H → va_S (fun _ => False) s.heap H locs → lv_has ls 3 [(1, .int count), (0, .ref h0)] → W p l e (headSpec wsX3_evenCount rm_X3_evenCount).room s m (([.ref h0] : List Value).toArray) below meth c H locs 0 0 (MQ below (kR (P_evenCount K f)) (([.ref h0] : List Value).toArray) s 0 0 (fun _ => False)) (F0 m 42 ls []) := by
      intro count H locs ls hr hP hS hl
      refine lv_iload_n hx hb dX3_evenCount_42 rfl (lv_at hl 0 rfl) ?_
      have he := hr.trans hρ
      exact W.iret (v := count) hx hb hr0 (fun t ht hW => kR_end he hS ht) hS.2.2 dX3_evenCount_43
    have lp_17 : ∀ (n_17 i : Nat) (count : Int32) (H : Heap) (locs : List Loc) (ls : Array Slot), i + n_17 = K → L_evenCount_17 K f (fun count => count) n_17 i count = ρ → va_P (dC, dI) kCl [(h0, .inr (3, [.ref h1, .int (nI K)])), (h1, .inl (cI, 16, .inl f))] H → va_S (fun _ => False) s.heap H locs → lv_has ls 3 [(2, .int (nI i)), (1, .int count), (0, .ref h0)] → W p l e (headSpec wsX3_evenCount rm_X3_evenCount).room s m (([.ref h0] : List Value).toArray) below meth c H locs 0 0 (MQ below (kR (P_evenCount K f)) (([.ref h0] : List Value).toArray) s 0 0 (fun _ => False)) (F0 m 17 ls []) := by
      intro n_17
      induction n_17 with
      | zero =>
        intro i count H locs ls hi hr hP hS hl
        rewrite [L_evenCount_17] at hr
        refine lv_iload_n hx hb dX3_evenCount_17 rfl (lv_at hl 0 rfl) ?_
        refine lv_aload_n hx hb dX3_evenCount_18 rfl (lv_at hl 2 rfl) ?_
        refine va_get (D := (dC, dI)) (ci := 3) (v := .int (nI K)) (C := RX3) (T := TX3) (N := 2) hx hb hts (by decide +kernel) hown hK hP 0 rfl rfl 1 (by decide) (hts (.fieldLink RX3 15 "Shortring$Net" "knots" "I") (by decide +kernel)) (fun _ h9 => h9) rfl dX3_evenCount_19 ?_
        refine lv_icmp_ge (tgt := 42) hx hb dX3_evenCount_22 (by decide) (fun c_3 => ?_) (fun c_3 => ?_)
        · exact ex_17 count _ _ _ hr hP hS (lv_sub hl [1, 2] rfl)
        · exact absurd (kTop (i := i) (N := K) rfl (by omega)) c_3
      | succ n_17 ih_17 =>
        intro i count H locs ls hi hr hP hS hl
        rewrite [L_evenCount_17] at hr
        refine lv_iload_n hx hb dX3_evenCount_17 rfl (lv_at hl 0 rfl) ?_
        refine lv_aload_n hx hb dX3_evenCount_18 rfl (lv_at hl 2 rfl) ?_
        refine va_get (D := (dC, dI)) (ci := 3) (v := .int (nI K)) (C := RX3) (T := TX3) (N := 2) hx hb hts (by decide +kernel) hown hK hP 0 rfl rfl 1 (by decide) (hts (.fieldLink RX3 15 "Shortring$Net" "knots" "I") (by decide +kernel)) (fun _ h9 => h9) rfl dX3_evenCount_19 ?_
        refine lv_icmp_ge (tgt := 42) hx hb dX3_evenCount_22 (by decide) (fun c_4 => ?_) (fun c_4 => ?_)
        · exact absurd c_4 (kLow (i := i) (N := K) rfl (by omega) (by omega))
        · refine lv_aload_n hx hb dX3_evenCount_25 rfl (lv_at hl 2 rfl) ?_
          refine lv_iload_n hx hb dX3_evenCount_26 rfl (lv_at hl 0 rfl) ?_
          refine kCall (va_runV (As := [.int (nI i)]) (rest := []) ⟨hx, hb, hml, hown, hts⟩ (k_X3_countOf l dC dI cI cN h0 h1 K f (nI i) (by first | assumption | omega | exact Int32.le_refl _ | decide)) (cwV 1 hts gX3_evenCount_X3_countOf rfl rfl rfl (by decide +kernel) ⟨Nat.le_of_ble_eq_true rfl, Nat.le_of_ble_eq_true rfl⟩) (kW_V hP hK hD hN (ci := 3) (q0 := 0) rfl rfl [0, 1] rfl rfl rfl) rfl rfl hl.1 rfl (lv_room (Nat.le_of_ble_eq_true rfl)) dX3_evenCount_27 ⟨Nat.zero_le _, Nat.zero_le _⟩) hP hS (fun H locs hP hS => ?_)
          refine lv_iload_n hx hb dX3_evenCount_30 rfl (lv_at hl 1 rfl) ?_
          refine lv_icmp_eq (tgt := 36) hx hb dX3_evenCount_31 (by decide) (fun c_5 => ?_) (fun c_5 => ?_)
          · have hr := if_to hr c_5
            refine lv_iinc (v := nI (i + 1)) (lv' := [(2, .int (nI (i + 1))), (1, .int count), (0, .ref h0)]) hx hb dX3_evenCount_36 hl (k := 0) rfl (nI_1 _) (by decide) rfl (fun ls hl => ?_)
            refine lv_goto (tgt := 17) hx hb dX3_evenCount_39 (by decide) ?_
            exact ih_17 (i + 1) count _ _ _ (by omega) hr hP hS (lv_sub hl [0, 1, 2] rfl)
          · have hr := if_no hr c_5
            refine lv_iconst (v := (-1)) hx hb dX3_evenCount_34 (by decide) ?_
            have he := hr.trans hρ
            exact W.iret (v := (-1)) hx hb hr0 (fun t ht hW => kR_end he hS ht) hS.2.2 dX3_evenCount_35
    have hK0 := kNe (K := K) (by assumption)
    exact lp_17 (K - 1) 1 count_2 _ _ _ (by omega) hr hP hS (lv_sub hl [0, 1, 2] rfl)
  · have hr := if_to hr c_1
    refine lv_iconst (v := (-1)) hx hb dX3_evenCount_7 (by decide) ?_
    have he := hr.trans hρ
    exact W.iret (v := (-1)) hx hb hr0 (fun t ht hW => kR_end he hS ht) hS.2.2 dX3_evenCount_8
def L_loneliest_7 (K : Nat) (f : Nat → Int32) (k : Int32 → Int32 → Int32) : Nat → Nat → Int32 → Int32 → Int32
  | 0, i, set, least => k set least
  | n + 1, i, set, least =>
    bd (P_countOf f (nI i)) (fun count_1 =>
      if least ≤ count_1 then
        if count_1 = least then
          bd (set ||| (P_bit (nI i))) (fun set_2 =>
            L_loneliest_7 K f k n (i + 1) set_2 least)
        else
          L_loneliest_7 K f k n (i + 1) set least
      else
        if count_1 = count_1 then
          bd ((0 : Int32) ||| (P_bit (nI i))) (fun set_3 =>
            L_loneliest_7 K f k n (i + 1) set_3 count_1)
        else
          L_loneliest_7 K f k n (i + 1) 0 count_1)
def P_loneliest (K : Nat) (f : Nat → Int32) : Int32 :=
  L_loneliest_7 K f (fun set least => set) K 0 0 16
abbrev rm_X3_loneliest : Room := { frames := 2, cells := 0, slots := 0, locals := 42 }
set_option maxHeartbeats 4000000 in
set_option maxRecDepth 100000 in
theorem k_X3_loneliest (l : Launch) (dC : Nat → ClassId) (dI : Nat → Nat → Nat) (cI cN : ClassId) (h0 : Nat) (h1 : Nat) (K : Nat) (f : Nat → Int32) (hK : K ≤ 16) : Met l yX3_loneliest wsX3_loneliest rm_X3_loneliest (va_Pc [.ref h0] (kW dC dI cI cN [(h0, .inr (3, [.ref h1, .int (nI K)])), (h1, .inl (cI, 16, .inl f))])) (kR (P_loneliest K f)) 0 0 (fun _ => False) := by
  refine Met.ofW (cc := cX3_loneliest) (maxL := 5) (ret := (some .int)) (by decide) rfl ?_
  intro p e s m args below meth c s₁ B hml hv
  obtain ⟨rfl, hP, hK, hD, hN⟩ := hv
  have hx := B.exec
  have hb := B.bytes
  have hr0 := B.returns
  have hts := atoms_spec (ws := wsX3_loneliest) B.pre
  have hown : s.vm.findClass RX3 = some m.cls := findClass_of_methodNamed B.named
  have hlocks := B.notSynchronized
  have hS : va_S (fun _ => False) s.heap s.heap [] := va_S.rf
  have hl := lv_entry ([.ref h0]) (n := 5) (Nat.le_of_ble_eq_true rfl)
  rw [lg_entry_eq]
  generalize (lg_sl ([.ref h0]) ++ List.replicate (5 - (lg_sl ([.ref h0])).length) Slot.unset).toArray = ls at hl ⊢
  have hl : lv_has ls 5 [(0, .ref h0)] := hl
  obtain ⟨ρ, hρ⟩ : ∃ ρ : Int32, ρ = P_loneliest K f := ⟨_, rfl⟩
  have hr : P_loneliest K f = ρ := hρ.symm
  rewrite [P_loneliest] at hr
  refine lv_iconst (v := 0) hx hb dX3_loneliest_0 (by decide) ?_
  refine lv_istore_n (lv' := [(1, .int 0), (0, .ref h0)]) hx hb dX3_loneliest_1 rfl hl (by decide) rfl (fun ls hl => ?_)
  refine lv_bipush (v := 16) hx hb dX3_loneliest_2 (by decide) ?_
  refine lv_istore_n (lv' := [(2, .int 16), (1, .int 0), (0, .ref h0)]) hx hb dX3_loneliest_4 rfl hl (by decide) rfl (fun ls hl => ?_)
  refine lv_iconst (v := 0) hx hb dX3_loneliest_5 (by decide) ?_
  refine lv_istore_n (lv' := [(3, .int 0), (2, .int 16), (1, .int 0), (0, .ref h0)]) hx hb dX3_loneliest_6 rfl hl (by decide) rfl (fun ls hl => ?_)
  have ex_7 : ∀ (set : Int32) (least : Int32) (H : Heap) (locs : List Loc) (ls : Array Slot), (set) = ρ → va_P (dC, dI) kCl [(h0, .inr (3, [.ref h1, .int (nI K)])), (h1, .inl (cI, 16, .inl f))] H → va_S (fun _ => False) s.heap H locs → lv_has ls 5 [(1, .int set), (2, .int least), (0, .ref h0)] → W p l e (headSpec wsX3_loneliest rm_X3_loneliest).room s m (([.ref h0] : List Value).toArray) below meth c H locs 0 0 (MQ below (kR (P_loneliest K f)) (([.ref h0] : List Value).toArray) s 0 0 (fun _ => False)) (F0 m 52 ls []) := by
    intro set least H locs ls hr hP hS hl
    refine lv_iload_n hx hb dX3_loneliest_52 rfl (lv_at hl 0 rfl) ?_
    have he := hr.trans hρ
    exact W.iret (v := set) hx hb hr0 (fun t ht hW => kR_end he hS ht) hS.2.2 dX3_loneliest_53
  have lp_7 : ∀ (n_7 i : Nat) (set : Int32) (least : Int32) (H : Heap) (locs : List Loc) (ls : Array Slot), i + n_7 = K → L_loneliest_7 K f (fun set least => set) n_7 i set least = ρ → va_P (dC, dI) kCl [(h0, .inr (3, [.ref h1, .int (nI K)])), (h1, .inl (cI, 16, .inl f))] H → va_S (fun _ => False) s.heap H locs → lv_has ls 5 [(3, .int (nI i)), (1, .int set), (2, .int least), (0, .ref h0)] → W p l e (headSpec wsX3_loneliest rm_X3_loneliest).room s m (([.ref h0] : List Value).toArray) below meth c H locs 0 0 (MQ below (kR (P_loneliest K f)) (([.ref h0] : List Value).toArray) s 0 0 (fun _ => False)) (F0 m 7 ls []) := by
    intro n_7
    induction n_7 with
    | zero =>
      intro i set least H locs ls hi hr hP hS hl
      rewrite [L_loneliest_7] at hr
      refine lv_iload_n hx hb dX3_loneliest_7 rfl (lv_at hl 0 rfl) ?_
      refine lv_aload_n hx hb dX3_loneliest_8 rfl (lv_at hl 3 rfl) ?_
      refine va_get (D := (dC, dI)) (ci := 3) (v := .int (nI K)) (C := RX3) (T := TX3) (N := 2) hx hb hts (by decide +kernel) hown hK hP 0 rfl rfl 1 (by decide) (hts (.fieldLink RX3 15 "Shortring$Net" "knots" "I") (by decide +kernel)) (fun _ h9 => h9) rfl dX3_loneliest_9 ?_
      refine lv_icmp_ge (tgt := 52) hx hb dX3_loneliest_12 (by decide) (fun c_1 => ?_) (fun c_1 => ?_)
      · exact ex_7 set least _ _ _ hr hP hS (lv_sub hl [1, 2, 3] rfl)
      · exact absurd (kTop (i := i) (N := K) rfl (by omega)) c_1
    | succ n_7 ih_7 =>
      intro i set least H locs ls hi hr hP hS hl
      rewrite [L_loneliest_7] at hr
      refine lv_iload_n hx hb dX3_loneliest_7 rfl (lv_at hl 0 rfl) ?_
      refine lv_aload_n hx hb dX3_loneliest_8 rfl (lv_at hl 3 rfl) ?_
      refine va_get (D := (dC, dI)) (ci := 3) (v := .int (nI K)) (C := RX3) (T := TX3) (N := 2) hx hb hts (by decide +kernel) hown hK hP 0 rfl rfl 1 (by decide) (hts (.fieldLink RX3 15 "Shortring$Net" "knots" "I") (by decide +kernel)) (fun _ h9 => h9) rfl dX3_loneliest_9 ?_
      refine lv_icmp_ge (tgt := 52) hx hb dX3_loneliest_12 (by decide) (fun c_2 => ?_) (fun c_2 => ?_)
      · exact absurd c_2 (kLow (i := i) (N := K) rfl (by omega) (by omega))
      · refine lv_aload_n hx hb dX3_loneliest_15 rfl (lv_at hl 3 rfl) ?_
        refine lv_iload_n hx hb dX3_loneliest_16 rfl (lv_at hl 0 rfl) ?_
        refine kCall (va_runV (As := [.int (nI i)]) (rest := []) ⟨hx, hb, hml, hown, hts⟩ (k_X3_countOf l dC dI cI cN h0 h1 K f (nI i) (by first | assumption | omega | exact Int32.le_refl _ | decide)) (cwV 1 hts gX3_loneliest_X3_countOf rfl rfl rfl (by decide +kernel) ⟨Nat.le_of_ble_eq_true rfl, Nat.le_of_ble_eq_true rfl⟩) (kW_V hP hK hD hN (ci := 3) (q0 := 0) rfl rfl [0, 1] rfl rfl rfl) rfl rfl hl.1 rfl (lv_room (Nat.le_of_ble_eq_true rfl)) dX3_loneliest_17 ⟨Nat.zero_le _, Nat.zero_le _⟩) hP hS (fun H locs hP hS => ?_)
        refine lv_topi (fun count_3 ecount_3 => ?_)
        have hr := bd_to hr ecount_3
        refine lv_istore (lv' := [(4, .int count_3), (3, .int (nI i)), (1, .int set), (2, .int least), (0, .ref h0)]) hx hb dX3_loneliest_20 hl (by decide) rfl (fun ls hl => ?_)
        refine lv_iload hx hb dX3_loneliest_22 (lv_at hl 0 rfl) ?_
        refine lv_iload_n hx hb dX3_loneliest_24 rfl (lv_at hl 3 rfl) ?_
        refine lv_icmp_ge (tgt := 33) hx hb dX3_loneliest_25 (by decide) (fun c_4 => ?_) (fun c_4 => ?_)
        · have hr := if_to hr c_4
          refine lv_iload hx hb dX3_loneliest_33 (lv_at hl 0 rfl) ?_
          refine lv_iload_n hx hb dX3_loneliest_35 rfl (lv_at hl 3 rfl) ?_
          refine lv_icmp_ne (tgt := 46) hx hb dX3_loneliest_36 (by decide) (fun c_5 => ?_) (fun c_5 => ?_)
          · have hr := if_no hr c_5
            refine lv_iinc (v := nI (i + 1)) (lv' := [(3, .int (nI (i + 1))), (4, .int count_3), (1, .int set), (2, .int least), (0, .ref h0)]) hx hb dX3_loneliest_46 hl (k := 1) rfl (nI_1 _) (by decide) rfl (fun ls hl => ?_)
            refine lv_goto (tgt := 7) hx hb dX3_loneliest_49 (by decide) ?_
            exact ih_7 (i + 1) set least _ _ _ (by omega) hr hP hS (lv_sub hl [0, 2, 3, 4] rfl)
          · have hr := if_to hr c_5
            refine lv_iload_n hx hb dX3_loneliest_39 rfl (lv_at hl 2 rfl) ?_
            refine lv_iload_n hx hb dX3_loneliest_40 rfl (lv_at hl 1 rfl) ?_
            refine kCall (va_runSN (As := [.int (nI i)]) (rest := [.int set]) ⟨hx, hb, hml, hown, hts⟩ (k_X6_bit l dC dI cI cN (nI i)) ⟨va_cnB 1 hts gX3_loneliest_X6_bit_n36 rfl rfl rfl (hN.1 62 _ rfl) (hts (.initialized RX6) (by decide +kernel)) (by decide +kernel) ⟨Nat.le_of_ble_eq_true rfl, Nat.le_of_ble_eq_true rfl⟩, hts (.static yX6_bit) (by decide +kernel), trivial⟩ (kW_S hP hK hD hN [] rfl rfl rfl) rfl rfl hl.1 rfl (lv_room (Nat.le_of_ble_eq_true rfl)) dX3_loneliest_41 ⟨Nat.zero_le _, Nat.zero_le _⟩) hP hS (fun H locs hP hS => ?_)
            refine lv_ior hx hb dX3_loneliest_44 ?_
            refine lv_topi (fun set_6 eset_6 => ?_)
            have hr := bd_to hr eset_6
            refine lv_istore_n (lv' := [(1, .int set_6), (4, .int count_3), (3, .int (nI i)), (2, .int least), (0, .ref h0)]) hx hb dX3_loneliest_45 rfl hl (by decide) rfl (fun ls hl => ?_)
            refine lv_iinc (v := nI (i + 1)) (lv' := [(3, .int (nI (i + 1))), (1, .int set_6), (4, .int count_3), (2, .int least), (0, .ref h0)]) hx hb dX3_loneliest_46 hl (k := 2) rfl (nI_1 _) (by decide) rfl (fun ls hl => ?_)
            refine lv_goto (tgt := 7) hx hb dX3_loneliest_49 (by decide) ?_
            exact ih_7 (i + 1) set_6 least _ _ _ (by omega) hr hP hS (lv_sub hl [0, 1, 3, 4] rfl)
        · have hr := if_no hr c_4
          refine lv_iload hx hb dX3_loneliest_28 (lv_at hl 0 rfl) ?_
          refine lv_istore_n (lv' := [(2, .int count_3), (4, .int count_3), (3, .int (nI i)), (1, .int set), (0, .ref h0)]) hx hb dX3_loneliest_30 rfl hl (by decide) rfl (fun ls hl => ?_)
          refine lv_iconst (v := 0) hx hb dX3_loneliest_31 (by decide) ?_
          refine lv_istore_n (lv' := [(1, .int 0), (2, .int count_3), (4, .int count_3), (3, .int (nI i)), (0, .ref h0)]) hx hb dX3_loneliest_32 rfl hl (by decide) rfl (fun ls hl => ?_)
          refine lv_iload hx hb dX3_loneliest_33 (lv_at hl 2 rfl) ?_
          refine lv_iload_n hx hb dX3_loneliest_35 rfl (lv_at hl 1 rfl) ?_
          refine lv_icmp_ne (tgt := 46) hx hb dX3_loneliest_36 (by decide) (fun c_7 => ?_) (fun c_7 => ?_)
          · have hr := if_no hr c_7
            refine lv_iinc (v := nI (i + 1)) (lv' := [(3, .int (nI (i + 1))), (1, .int 0), (2, .int count_3), (4, .int count_3), (0, .ref h0)]) hx hb dX3_loneliest_46 hl (k := 3) rfl (nI_1 _) (by decide) rfl (fun ls hl => ?_)
            refine lv_goto (tgt := 7) hx hb dX3_loneliest_49 (by decide) ?_
            exact ih_7 (i + 1) 0 count_3 _ _ _ (by omega) hr hP hS (lv_sub hl [0, 1, 2, 4] rfl)
          · have hr := if_to hr c_7
            refine lv_iload_n hx hb dX3_loneliest_39 rfl (lv_at hl 0 rfl) ?_
            refine lv_iload_n hx hb dX3_loneliest_40 rfl (lv_at hl 3 rfl) ?_
            refine kCall (va_runSN (As := [.int (nI i)]) (rest := [.int 0]) ⟨hx, hb, hml, hown, hts⟩ (k_X6_bit l dC dI cI cN (nI i)) ⟨va_cnB 1 hts gX3_loneliest_X6_bit_n36 rfl rfl rfl (hN.1 62 _ rfl) (hts (.initialized RX6) (by decide +kernel)) (by decide +kernel) ⟨Nat.le_of_ble_eq_true rfl, Nat.le_of_ble_eq_true rfl⟩, hts (.static yX6_bit) (by decide +kernel), trivial⟩ (kW_S hP hK hD hN [] rfl rfl rfl) rfl rfl hl.1 rfl (lv_room (Nat.le_of_ble_eq_true rfl)) dX3_loneliest_41 ⟨Nat.zero_le _, Nat.zero_le _⟩) hP hS (fun H locs hP hS => ?_)
            refine lv_ior hx hb dX3_loneliest_44 ?_
            refine lv_topi (fun set_8 eset_8 => ?_)
            have hr := bd_to hr eset_8
            refine lv_istore_n (lv' := [(1, .int set_8), (2, .int count_3), (4, .int count_3), (3, .int (nI i)), (0, .ref h0)]) hx hb dX3_loneliest_45 rfl hl (by decide) rfl (fun ls hl => ?_)
            refine lv_iinc (v := nI (i + 1)) (lv' := [(3, .int (nI (i + 1))), (1, .int set_8), (2, .int count_3), (4, .int count_3), (0, .ref h0)]) hx hb dX3_loneliest_46 hl (k := 3) rfl (nI_1 _) (by decide) rfl (fun ls hl => ?_)
            refine lv_goto (tgt := 7) hx hb dX3_loneliest_49 (by decide) ?_
            exact ih_7 (i + 1) set_8 count_3 _ _ _ (by omega) hr hP hS (lv_sub hl [0, 1, 2, 4] rfl)
  exact lp_7 K 0 0 16 _ _ _ (by omega) hr hP hS (lv_sub hl [0, 2, 1, 3] rfl)
def L_isMutual_12 (K : Nat) (f : Nat → Int32) (one : Nat) (k : Int32) : Nat → Nat → Int32
  | 0, other => k
  | n + 1, other =>
    bd (P_isNear f (nI one) (nI other)) (fun isThere_1 =>
      if isThere_1 = (P_isNear f (nI other) (nI one)) then
        if isThere_1 = 0 then
          L_isMutual_12 K f one k n (other + 1)
        else
          if (nI one) = (nI other) then
            0
          else
            L_isMutual_12 K f one k n (other + 1)
      else
        0)
def L_isMutual_2 (K : Nat) (f : Nat → Int32) (k : Int32) : Nat → Nat → Int32
  | 0, one => k
  | n + 1, one =>
    L_isMutual_12 K f one (L_isMutual_2 K f k n (one + 1)) K 0
def P_isMutual (K : Nat) (f : Nat → Int32) : Int32 :=
  L_isMutual_2 K f (1) K 0
abbrev rm_X3_isMutual : Room := { frames := 2, cells := 0, slots := 0, locals := 43 }
set_option maxHeartbeats 4000000 in
set_option maxRecDepth 100000 in
theorem k_X3_isMutual (l : Launch) (dC : Nat → ClassId) (dI : Nat → Nat → Nat) (cI cN : ClassId) (h0 : Nat) (h1 : Nat) (K : Nat) (f : Nat → Int32) (hK : K ≤ 16) : Met l yX3_isMutual wsX3_isMutual rm_X3_isMutual (va_Pc [.ref h0] (kW dC dI cI cN [(h0, .inr (3, [.ref h1, .int (nI K)])), (h1, .inl (cI, 16, .inl f))])) (kR (P_isMutual K f)) 0 0 (fun _ => False) := by
  refine Met.ofW (cc := cX3_isMutual) (maxL := 4) (ret := (some .boolean)) (by decide) rfl ?_
  intro p e s m args below meth c s₁ B hml hv
  obtain ⟨rfl, hP, hK, hD, hN⟩ := hv
  have hx := B.exec
  have hb := B.bytes
  have hr0 := B.returns
  have hts := atoms_spec (ws := wsX3_isMutual) B.pre
  have hown : s.vm.findClass RX3 = some m.cls := findClass_of_methodNamed B.named
  have hlocks := B.notSynchronized
  have hS : va_S (fun _ => False) s.heap s.heap [] := va_S.rf
  have hl := lv_entry ([.ref h0]) (n := 4) (Nat.le_of_ble_eq_true rfl)
  rw [lg_entry_eq]
  generalize (lg_sl ([.ref h0]) ++ List.replicate (4 - (lg_sl ([.ref h0])).length) Slot.unset).toArray = ls at hl ⊢
  have hl : lv_has ls 4 [(0, .ref h0)] := hl
  obtain ⟨ρ, hρ⟩ : ∃ ρ : Int32, ρ = P_isMutual K f := ⟨_, rfl⟩
  have hr : P_isMutual K f = ρ := hρ.symm
  rewrite [P_isMutual] at hr
  refine lv_iconst (v := 0) hx hb dX3_isMutual_0 (by decide) ?_
  refine lv_istore_n (lv' := [(1, .int 0), (0, .ref h0)]) hx hb dX3_isMutual_1 rfl hl (by decide) rfl (fun ls hl => ?_)
  have ex_2 : ∀  (H : Heap) (locs : List Loc) (ls : Array Slot), (1) = ρ → va_P (dC, dI) kCl [(h0, .inr (3, [.ref h1, .int (nI K)])), (h1, .inl (cI, 16, .inl f))] H → va_S (fun _ => False) s.heap H locs → lv_has ls 4 [(0, .ref h0)] → W p l e (headSpec wsX3_isMutual rm_X3_isMutual).room s m (([.ref h0] : List Value).toArray) below meth c H locs 0 0 (MQ below (kR (P_isMutual K f)) (([.ref h0] : List Value).toArray) s 0 0 (fun _ => False)) (F0 m 60 ls []) := by
    intro  H locs ls hr hP hS hl
    refine lv_iconst (v := 1) hx hb dX3_isMutual_60 (by decide) ?_
    have he := hr.trans hρ
    exact W.zret (v := 1) hx hb hr0 rfl (fun t ht hW => kR_end he hS ht) hS.2.2 dX3_isMutual_61
  have lp_2 : ∀ (n_2 one : Nat)  (H : Heap) (locs : List Loc) (ls : Array Slot), one + n_2 = K → L_isMutual_2 K f (1) n_2 one = ρ → va_P (dC, dI) kCl [(h0, .inr (3, [.ref h1, .int (nI K)])), (h1, .inl (cI, 16, .inl f))] H → va_S (fun _ => False) s.heap H locs → lv_has ls 4 [(1, .int (nI one)), (0, .ref h0)] → W p l e (headSpec wsX3_isMutual rm_X3_isMutual).room s m (([.ref h0] : List Value).toArray) below meth c H locs 0 0 (MQ below (kR (P_isMutual K f)) (([.ref h0] : List Value).toArray) s 0 0 (fun _ => False)) (F0 m 2 ls []) := by
    intro n_2
    induction n_2 with
    | zero =>
      intro one  H locs ls hi hr hP hS hl
      rewrite [L_isMutual_2] at hr
      refine lv_iload_n hx hb dX3_isMutual_2 rfl (lv_at hl 0 rfl) ?_
      refine lv_aload_n hx hb dX3_isMutual_3 rfl (lv_at hl 1 rfl) ?_
      refine va_get (D := (dC, dI)) (ci := 3) (v := .int (nI K)) (C := RX3) (T := TX3) (N := 2) hx hb hts (by decide +kernel) hown hK hP 0 rfl rfl 1 (by decide) (hts (.fieldLink RX3 15 "Shortring$Net" "knots" "I") (by decide +kernel)) (fun _ h9 => h9) rfl dX3_isMutual_4 ?_
      refine lv_icmp_ge (tgt := 60) hx hb dX3_isMutual_7 (by decide) (fun c_1 => ?_) (fun c_1 => ?_)
      · exact ex_2  _ _ _ hr hP hS (lv_sub hl [1] rfl)
      · exact absurd (kTop (i := one) (N := K) rfl (by omega)) c_1
    | succ n_2 ih_2 =>
      intro one  H locs ls hi hr hP hS hl
      rewrite [L_isMutual_2] at hr
      refine lv_iload_n hx hb dX3_isMutual_2 rfl (lv_at hl 0 rfl) ?_
      refine lv_aload_n hx hb dX3_isMutual_3 rfl (lv_at hl 1 rfl) ?_
      refine va_get (D := (dC, dI)) (ci := 3) (v := .int (nI K)) (C := RX3) (T := TX3) (N := 2) hx hb hts (by decide +kernel) hown hK hP 0 rfl rfl 1 (by decide) (hts (.fieldLink RX3 15 "Shortring$Net" "knots" "I") (by decide +kernel)) (fun _ h9 => h9) rfl dX3_isMutual_4 ?_
      refine lv_icmp_ge (tgt := 60) hx hb dX3_isMutual_7 (by decide) (fun c_2 => ?_) (fun c_2 => ?_)
      · exact absurd c_2 (kLow (i := one) (N := K) rfl (by omega) (by omega))
      · refine lv_iconst (v := 0) hx hb dX3_isMutual_10 (by decide) ?_
        refine lv_istore_n (lv' := [(2, .int 0), (1, .int (nI one)), (0, .ref h0)]) hx hb dX3_isMutual_11 rfl hl (by decide) rfl (fun ls hl => ?_)
        have ex_12 : ∀  (H : Heap) (locs : List Loc) (ls : Array Slot), (L_isMutual_2 K f (1) n_2 (one + 1)) = ρ → va_P (dC, dI) kCl [(h0, .inr (3, [.ref h1, .int (nI K)])), (h1, .inl (cI, 16, .inl f))] H → va_S (fun _ => False) s.heap H locs → lv_has ls 4 [(0, .ref h0), (1, .int (nI one))] → W p l e (headSpec wsX3_isMutual rm_X3_isMutual).room s m (([.ref h0] : List Value).toArray) below meth c H locs 0 0 (MQ below (kR (P_isMutual K f)) (([.ref h0] : List Value).toArray) s 0 0 (fun _ => False)) (F0 m 54 ls []) := by
          intro  H locs ls hr hP hS hl
          refine lv_iinc (v := nI (one + 1)) (lv' := [(1, .int (nI (one + 1))), (0, .ref h0)]) hx hb dX3_isMutual_54 hl (k := 1) rfl (nI_1 _) (by decide) rfl (fun ls hl => ?_)
          refine lv_goto (tgt := 2) hx hb dX3_isMutual_57 (by decide) ?_
          exact ih_2 (one + 1)  _ _ _ (by omega) hr hP hS (lv_sub hl [0, 1] rfl)
        have lp_12 : ∀ (n_12 other : Nat)  (H : Heap) (locs : List Loc) (ls : Array Slot), other + n_12 = K → L_isMutual_12 K f one (L_isMutual_2 K f (1) n_2 (one + 1)) n_12 other = ρ → va_P (dC, dI) kCl [(h0, .inr (3, [.ref h1, .int (nI K)])), (h1, .inl (cI, 16, .inl f))] H → va_S (fun _ => False) s.heap H locs → lv_has ls 4 [(2, .int (nI other)), (0, .ref h0), (1, .int (nI one))] → W p l e (headSpec wsX3_isMutual rm_X3_isMutual).room s m (([.ref h0] : List Value).toArray) below meth c H locs 0 0 (MQ below (kR (P_isMutual K f)) (([.ref h0] : List Value).toArray) s 0 0 (fun _ => False)) (F0 m 12 ls []) := by
          intro n_12
          induction n_12 with
          | zero =>
            intro other  H locs ls hi hr hP hS hl
            rewrite [L_isMutual_12] at hr
            refine lv_iload_n hx hb dX3_isMutual_12 rfl (lv_at hl 0 rfl) ?_
            refine lv_aload_n hx hb dX3_isMutual_13 rfl (lv_at hl 1 rfl) ?_
            refine va_get (D := (dC, dI)) (ci := 3) (v := .int (nI K)) (C := RX3) (T := TX3) (N := 2) hx hb hts (by decide +kernel) hown hK hP 0 rfl rfl 1 (by decide) (hts (.fieldLink RX3 15 "Shortring$Net" "knots" "I") (by decide +kernel)) (fun _ h9 => h9) rfl dX3_isMutual_14 ?_
            refine lv_icmp_ge (tgt := 54) hx hb dX3_isMutual_17 (by decide) (fun c_3 => ?_) (fun c_3 => ?_)
            · exact ex_12  _ _ _ hr hP hS (lv_sub hl [1, 2] rfl)
            · exact absurd (kTop (i := other) (N := K) rfl (by omega)) c_3
          | succ n_12 ih_12 =>
            intro other  H locs ls hi hr hP hS hl
            rewrite [L_isMutual_12] at hr
            refine lv_iload_n hx hb dX3_isMutual_12 rfl (lv_at hl 0 rfl) ?_
            refine lv_aload_n hx hb dX3_isMutual_13 rfl (lv_at hl 1 rfl) ?_
            refine va_get (D := (dC, dI)) (ci := 3) (v := .int (nI K)) (C := RX3) (T := TX3) (N := 2) hx hb hts (by decide +kernel) hown hK hP 0 rfl rfl 1 (by decide) (hts (.fieldLink RX3 15 "Shortring$Net" "knots" "I") (by decide +kernel)) (fun _ h9 => h9) rfl dX3_isMutual_14 ?_
            refine lv_icmp_ge (tgt := 54) hx hb dX3_isMutual_17 (by decide) (fun c_4 => ?_) (fun c_4 => ?_)
            · exact absurd c_4 (kLow (i := other) (N := K) rfl (by omega) (by omega))
            · refine lv_aload_n hx hb dX3_isMutual_20 rfl (lv_at hl 1 rfl) ?_
              refine lv_iload_n hx hb dX3_isMutual_21 rfl (lv_at hl 2 rfl) ?_
              refine lv_iload_n hx hb dX3_isMutual_22 rfl (lv_at hl 0 rfl) ?_
              refine kCall (va_runV (As := [.int (nI one), .int (nI other)]) (rest := []) ⟨hx, hb, hml, hown, hts⟩ (k_X3_isNear l dC dI cI cN h0 h1 K f (nI one) (nI other) (by first | assumption | omega | exact Int32.le_refl _ | decide)) (cwV 2 hts gX3_isMutual_X3_isNear rfl rfl rfl (by decide +kernel) ⟨Nat.le_of_ble_eq_true rfl, Nat.le_of_ble_eq_true rfl⟩) (kW_V hP hK hD hN (ci := 3) (q0 := 0) rfl rfl [0, 1] rfl rfl rfl) rfl rfl hl.1 rfl (lv_room (Nat.le_of_ble_eq_true rfl)) dX3_isMutual_23 ⟨Nat.zero_le _, Nat.zero_le _⟩) hP hS (fun H locs hP hS => ?_)
              refine lv_topi (fun isThere_5 eisThere_5 => ?_)
              have hr := bd_to hr eisThere_5
              refine lv_istore_n (lv' := [(3, .int isThere_5), (2, .int (nI other)), (0, .ref h0), (1, .int (nI one))]) hx hb dX3_isMutual_26 rfl hl (by decide) rfl (fun ls hl => ?_)
              refine lv_iload_n hx hb dX3_isMutual_27 rfl (lv_at hl 0 rfl) ?_
              refine lv_aload_n hx hb dX3_isMutual_28 rfl (lv_at hl 2 rfl) ?_
              refine lv_iload_n hx hb dX3_isMutual_29 rfl (lv_at hl 1 rfl) ?_
              refine lv_iload_n hx hb dX3_isMutual_30 rfl (lv_at hl 3 rfl) ?_
              refine kCall (va_runV (As := [.int (nI other), .int (nI one)]) (rest := [.int isThere_5]) ⟨hx, hb, hml, hown, hts⟩ (k_X3_isNear l dC dI cI cN h0 h1 K f (nI other) (nI one) (by first | assumption | omega | exact Int32.le_refl _ | decide)) (cwV 2 hts gX3_isMutual_X3_isNear rfl rfl rfl (by decide +kernel) ⟨Nat.le_of_ble_eq_true rfl, Nat.le_of_ble_eq_true rfl⟩) (kW_V hP hK hD hN (ci := 3) (q0 := 0) rfl rfl [0, 1] rfl rfl rfl) rfl rfl hl.1 rfl (lv_room (Nat.le_of_ble_eq_true rfl)) dX3_isMutual_31 ⟨Nat.zero_le _, Nat.zero_le _⟩) hP hS (fun H locs hP hS => ?_)
              refine lv_icmp_ne (tgt := 46) hx hb dX3_isMutual_34 (by decide) (fun c_6 => ?_) (fun c_6 => ?_)
              · have hr := if_no hr c_6
                refine lv_iconst (v := 0) hx hb dX3_isMutual_46 (by decide) ?_
                have he := hr.trans hρ
                exact W.zret (v := 0) hx hb hr0 rfl (fun t ht hW => kR_end he hS ht) hS.2.2 dX3_isMutual_47
              · have hr := if_to hr c_6
                refine lv_iload_n hx hb dX3_isMutual_37 rfl (lv_at hl 0 rfl) ?_
                refine lv_if_eq (tgt := 48) hx hb dX3_isMutual_38 (by decide) (fun c_7 => ?_) (fun c_7 => ?_)
                · have hr := if_to hr c_7
                  refine lv_iinc (v := nI (other + 1)) (lv' := [(2, .int (nI (other + 1))), (3, .int isThere_5), (0, .ref h0), (1, .int (nI one))]) hx hb dX3_isMutual_48 hl (k := 1) rfl (nI_1 _) (by decide) rfl (fun ls hl => ?_)
                  refine lv_goto (tgt := 12) hx hb dX3_isMutual_51 (by decide) ?_
                  exact ih_12 (other + 1)  _ _ _ (by omega) hr hP hS (lv_sub hl [0, 2, 3] rfl)
                · have hr := if_no hr c_7
                  refine lv_iload_n hx hb dX3_isMutual_41 rfl (lv_at hl 3 rfl) ?_
                  refine lv_iload_n hx hb dX3_isMutual_42 rfl (lv_at hl 1 rfl) ?_
                  refine lv_icmp_ne (tgt := 48) hx hb dX3_isMutual_43 (by decide) (fun c_8 => ?_) (fun c_8 => ?_)
                  · have hr := if_no hr c_8
                    refine lv_iinc (v := nI (other + 1)) (lv' := [(2, .int (nI (other + 1))), (3, .int isThere_5), (0, .ref h0), (1, .int (nI one))]) hx hb dX3_isMutual_48 hl (k := 1) rfl (nI_1 _) (by decide) rfl (fun ls hl => ?_)
                    refine lv_goto (tgt := 12) hx hb dX3_isMutual_51 (by decide) ?_
                    exact ih_12 (other + 1)  _ _ _ (by omega) hr hP hS (lv_sub hl [0, 2, 3] rfl)
                  · have hr := if_to hr c_8
                    refine lv_iconst (v := 0) hx hb dX3_isMutual_46 (by decide) ?_
                    have he := hr.trans hρ
                    exact W.zret (v := 0) hx hb hr0 rfl (fun t ht hW => kR_end he hS ht) hS.2.2 dX3_isMutual_47
        exact lp_12 K 0  _ _ _ (by omega) hr hP hS (lv_sub hl [0, 2, 1] rfl)
  exact lp_2 K 0  _ _ _ (by omega) hr hP hS (lv_sub hl [0, 1] rfl)
