/-! the object: what may throw (printed by wip/gen) -/
def P_requireTabled (count : Int32) (length : Int32) : Unit ⊕ Nat :=
  if (P_isWithin count 2 5) = 0 then
    Sum.inr 1
  else
    if (P_isWithin length 3 8) = 0 then
      Sum.inr 1
    else
      Sum.inl ()
abbrev rm_X6_requireTabled : Room := { frames := 1, cells := 0, slots := 0, locals := 22 }
set_option maxHeartbeats 4000000 in
set_option maxRecDepth 100000 in
theorem k_X6_requireTabled (l : Launch) (dC : Nat → ClassId) (dI : Nat → Nat → Nat) (cI cN : ClassId) (h0 : Nat) (s0 : Nat) (sc0 : Nat) (kp0 : Nat) (ta0 : Nat) (km : Int32) (rf : Int32) (a0 : Nat) (q0 : Nat) (d0 : Nat) (c0 : Nat) (count : Int32) (length : Int32) (v : Unit) (hok : P_requireTabled count length = .inl v) : Met l yX6_requireTabled wsX6_requireTabled rm_X6_requireTabled (va_Pc [.ref s0, .int count, .int length] (kW dC dI cI cN [(s0, .inr (5, [.ref h0, .ref sc0, .ref kp0, .ref a0, .ref q0, .ref d0, .ref c0, .ref ta0, .int km, .int rf]))])) kR0 0 0 (fun _ => False) := by
  refine Met.ofW (cc := cX6_requireTabled) (maxL := 3) (ret := none) (by decide) rfl ?_
  intro p e s m args below meth c s₁ B hml hv
  obtain ⟨rfl, hP, hK, hD, hN⟩ := hv
  have hx := B.exec
  have hb := B.bytes
  have hr0 := B.returns
  have hts := atoms_spec (ws := wsX6_requireTabled) B.pre
  have hown : s.vm.findClass RX6 = some m.cls := findClass_of_methodNamed B.named
  have hlocks := B.notSynchronized
  have hS : va_S (fun _ => False) s.heap s.heap [] := va_S.rf
  have hl := lv_entry ([.ref s0, .int count, .int length]) (n := 3) (Nat.le_of_ble_eq_true rfl)
  rw [lg_entry_eq]
  generalize (lg_sl ([.ref s0, .int count, .int length]) ++ List.replicate (3 - (lg_sl ([.ref s0, .int count, .int length])).length) Slot.unset).toArray = ls at hl ⊢
  have hl : lv_has ls 3 [(0, .ref s0), (1, .int count), (2, .int length)] := hl
  obtain ⟨ρ, hρ⟩ : ∃ ρ : Unit ⊕ Nat, ρ = P_requireTabled count length := ⟨_, rfl⟩
  have hr : P_requireTabled count length = ρ := hρ.symm
  rewrite [P_requireTabled] at hr
  refine lv_iload_n hx hb dX6_requireTabled_0 rfl (lv_at hl 1 rfl) ?_
  refine lv_iconst (v := 2) hx hb dX6_requireTabled_1 (by decide) ?_
  refine lv_iconst (v := 5) hx hb dX6_requireTabled_2 (by decide) ?_
  refine kCall (va_runS (As := [.int count, .int 2, .int 5]) (rest := []) ⟨hx, hb, hml, hown, hts⟩ (k_X6_isWithin l dC dI cI cN count 2 5) (va_cwS 3 hts gX6_requireTabled_X6_isWithin rfl rfl rfl (by decide +kernel) ⟨Nat.le_of_ble_eq_true rfl, Nat.le_of_ble_eq_true rfl⟩) (kW_S hP hK hD hN [] rfl rfl rfl) rfl rfl hl.1 rfl (lv_room (Nat.le_of_ble_eq_true rfl)) dX6_requireTabled_3 ⟨Nat.zero_le _, Nat.zero_le _⟩) hP hS (fun H locs hP hS => ?_)
  refine lv_if_ne (tgt := 20) hx hb dX6_requireTabled_6 (by decide) (fun c_1 => ?_) (fun c_1 => ?_)
  · have hr := if_no hr c_1
    refine lv_iload_n hx hb dX6_requireTabled_20 rfl (lv_at hl 2 rfl) ?_
    refine lv_iconst (v := 3) hx hb dX6_requireTabled_21 (by decide) ?_
    refine lv_bipush (v := 8) hx hb dX6_requireTabled_22 (by decide) ?_
    refine kCall (va_runS (As := [.int length, .int 3, .int 8]) (rest := []) ⟨hx, hb, hml, hown, hts⟩ (k_X6_isWithin l dC dI cI cN length 3 8) (va_cwS 3 hts gX6_requireTabled_X6_isWithin rfl rfl rfl (by decide +kernel) ⟨Nat.le_of_ble_eq_true rfl, Nat.le_of_ble_eq_true rfl⟩) (kW_S hP hK hD hN [] rfl rfl rfl) rfl rfl hl.1 rfl (lv_room (Nat.le_of_ble_eq_true rfl)) dX6_requireTabled_24 ⟨Nat.zero_le _, Nat.zero_le _⟩) hP hS (fun H locs hP hS => ?_)
    refine lv_if_ne (tgt := 41) hx hb dX6_requireTabled_27 (by decide) (fun c_2 => ?_) (fun c_2 => ?_)
    · have hr := if_no hr c_2
      have he := Sum.inl.inj (hr.trans (hρ.trans hok))
      subst he
      exact W.vret hx hb hr0 (fun t ht hW => kR0_end hS ht) hS.2.2 dX6_requireTabled_41
    · have hr := if_to hr c_2
      cases hr.trans (hρ.trans hok)
  · have hr := if_to hr c_1
    cases hr.trans (hρ.trans hok)
theorem gfX6_requireTabled_1 : ∀ w ∈ (vx_atS RX6 70 (kCls 1) kNs).filter goodWord, w ∈ wsX6_requireTabled := fun w h => List.mem_cons_of_mem _ (List.mem_append_right _ h)
abbrev rx_X6_requireTabled : Room := { frames := 6, cells := 1, slots := 6, locals := 82 }
set_option maxHeartbeats 4000000 in
set_option maxRecDepth 100000 in
theorem e_X6_requireTabled (l : Launch) (hl9 : l.stackTraces = false) (dC : Nat → ClassId) (dI : Nat → Nat → Nat) (cI cN : ClassId) (h0 : Nat) (s0 : Nat) (sc0 : Nat) (kp0 : Nat) (ta0 : Nat) (km : Int32) (rf : Int32) (a0 : Nat) (q0 : Nat) (d0 : Nat) (c0 : Nat) (count : Int32) (length : Int32) (kx : Nat) (hex : P_requireTabled count length = .inr kx) : vx_Met l yX6_requireTabled wsX6_requireTabled rx_X6_requireTabled (va_Pc [.ref s0, .int count, .int length] (kWE dC dI cI cN [(s0, .inr (5, [.ref h0, .ref sc0, .ref kp0, .ref a0, .ref q0, .ref d0, .ref c0, .ref ta0, .int km, .int rf]))])) kNov (kX kx) 1 6 (fun _ => False) := by
  refine vx_ofW (cc := cX6_requireTabled) (maxL := 3) (ret := none) (by decide) rfl ?_
  intro p e s m args below meth c s₁ B hml hxt hv
  obtain ⟨rfl, ⟨hP, hK, hD, hN⟩, hE⟩ := hv
  have hx := B.exec
  have hb := B.bytes
  have hr0 := B.returns
  have hts := atoms_spec (ws := wsX6_requireTabled) B.pre
  have hown : s.vm.findClass RX6 = some m.cls := findClass_of_methodNamed B.named
  have hlocks := B.notSynchronized
  have hS : va_S (fun _ => False) s.heap s.heap [] := va_S.rf
  have hl := lv_entry ([.ref s0, .int count, .int length]) (n := 3) (Nat.le_of_ble_eq_true rfl)
  rw [lg_entry_eq]
  generalize (lg_sl ([.ref s0, .int count, .int length]) ++ List.replicate (3 - (lg_sl ([.ref s0, .int count, .int length])).length) Slot.unset).toArray = ls at hl ⊢
  have hl : lv_has ls 3 [(0, .ref s0), (1, .int count), (2, .int length)] := hl
  obtain ⟨ρ, hρ⟩ : ∃ ρ : Unit ⊕ Nat, ρ = P_requireTabled count length := ⟨_, rfl⟩
  have hr : P_requireTabled count length = ρ := hρ.symm
  rewrite [P_requireTabled] at hr
  refine lv_iload_n hx hb dX6_requireTabled_0 rfl (lv_at hl 1 rfl) ?_
  refine lv_iconst (v := 2) hx hb dX6_requireTabled_1 (by decide) ?_
  refine lv_iconst (v := 5) hx hb dX6_requireTabled_2 (by decide) ?_
  refine kCall (va_runS (As := [.int count, .int 2, .int 5]) (rest := []) ⟨hx, hb, hml, hown, hts⟩ (k_X6_isWithin l dC dI cI cN count 2 5) (va_cwS 3 hts gX6_requireTabled_X6_isWithin rfl rfl rfl (by decide +kernel) ⟨Nat.le_of_ble_eq_true rfl, Nat.le_of_ble_eq_true rfl⟩) (kW_S hP hK hD hN [] rfl rfl rfl) rfl rfl hl.1 rfl (lv_room (Nat.le_of_ble_eq_true rfl)) dX6_requireTabled_3 ⟨Nat.zero_le _, Nat.zero_le _⟩) hP hS (fun H locs hP hS => ?_)
  refine lv_if_ne (tgt := 20) hx hb dX6_requireTabled_6 (by decide) (fun c_1 => ?_) (fun c_1 => ?_)
  · have hr := if_no hr c_1
    refine lv_iload_n hx hb dX6_requireTabled_20 rfl (lv_at hl 2 rfl) ?_
    refine lv_iconst (v := 3) hx hb dX6_requireTabled_21 (by decide) ?_
    refine lv_bipush (v := 8) hx hb dX6_requireTabled_22 (by decide) ?_
    refine kCall (va_runS (As := [.int length, .int 3, .int 8]) (rest := []) ⟨hx, hb, hml, hown, hts⟩ (k_X6_isWithin l dC dI cI cN length 3 8) (va_cwS 3 hts gX6_requireTabled_X6_isWithin rfl rfl rfl (by decide +kernel) ⟨Nat.le_of_ble_eq_true rfl, Nat.le_of_ble_eq_true rfl⟩) (kW_S hP hK hD hN [] rfl rfl rfl) rfl rfl hl.1 rfl (lv_room (Nat.le_of_ble_eq_true rfl)) dX6_requireTabled_24 ⟨Nat.zero_le _, Nat.zero_le _⟩) hP hS (fun H locs hP hS => ?_)
    refine lv_if_ne (tgt := 41) hx hb dX6_requireTabled_27 (by decide) (fun c_2 => ?_) (fun c_2 => ?_)
    · have hr := if_no hr c_2
      cases hr.trans (hρ.trans hex)
    · have hr := if_to hr c_2
      exact kThrowSW hx hb hl9 hown 1 (ik := 66) (is := 384) (ic := 70) (Sum.inr.inj (hr.trans (hρ.trans hex))) (by decide +kernel) (hts (.classLink RX6 66 "java/lang/IllegalArgumentException") (by decide +kernel)) (hts (.initialized "java/lang/IllegalArgumentException") (by decide +kernel)) 23 rfl (fun w h => hts w (gfX6_requireTabled_1 w h)) kBad1 (kHg kOt1) hE hS (hl.1.trans hml.symm) dX6_requireTabled_30 dX6_requireTabled_33 dX6_requireTabled_34 dX6_requireTabled_37 dX6_requireTabled_40 hxt (Nat.le_of_ble_eq_true rfl) (Nat.le_of_ble_eq_true rfl) (Nat.le_of_ble_eq_true rfl) (Nat.le_of_ble_eq_true rfl) hlocks
  · have hr := if_to hr c_1
    exact kThrowSW hx hb hl9 hown 1 (ik := 66) (is := 382) (ic := 70) (Sum.inr.inj (hr.trans (hρ.trans hex))) (by decide +kernel) (hts (.classLink RX6 66 "java/lang/IllegalArgumentException") (by decide +kernel)) (hts (.initialized "java/lang/IllegalArgumentException") (by decide +kernel)) 22 rfl (fun w h => hts w (gfX6_requireTabled_1 w h)) kBad1 (kHg kOt1) hE hS (hl.1.trans hml.symm) dX6_requireTabled_9 dX6_requireTabled_12 dX6_requireTabled_13 dX6_requireTabled_16 dX6_requireTabled_19 hxt (Nat.le_of_ble_eq_true rfl) (Nat.le_of_ble_eq_true rfl) (Nat.le_of_ble_eq_true rfl) (Nat.le_of_ble_eq_true rfl) hlocks
def P_bound (count : Int32) (length : Int32) : Int32 ⊕ Nat :=
  sb (P_requireTabled count length) (fun v_2 =>
    Sum.inl (P_leastKnots count length))
abbrev rm_X6_bound : Room := { frames := 2, cells := 0, slots := 0, locals := 44 }
set_option maxHeartbeats 4000000 in
set_option maxRecDepth 100000 in
theorem k_X6_bound (l : Launch) (dC : Nat → ClassId) (dI : Nat → Nat → Nat) (cI cN : ClassId) (h0 : Nat) (s0 : Nat) (sc0 : Nat) (kp0 : Nat) (ta0 : Nat) (km : Int32) (rf : Int32) (a0 : Nat) (q0 : Nat) (d0 : Nat) (c0 : Nat) (count : Int32) (length : Int32) (v : Int32) (hok : P_bound count length = .inl v) : Met l yX6_bound wsX6_bound rm_X6_bound (va_Pc [.ref s0, .int count, .int length] (kW dC dI cI cN [(s0, .inr (5, [.ref h0, .ref sc0, .ref kp0, .ref a0, .ref q0, .ref d0, .ref c0, .ref ta0, .int km, .int rf]))])) (kR v) 0 0 (fun _ => False) := by
  refine Met.ofW (cc := cX6_bound) (maxL := 3) (ret := (some .int)) (by decide) rfl ?_
  intro p e s m args below meth c s₁ B hml hv
  obtain ⟨rfl, hP, hK, hD, hN⟩ := hv
  have hx := B.exec
  have hb := B.bytes
  have hr0 := B.returns
  have hts := atoms_spec (ws := wsX6_bound) B.pre
  have hown : s.vm.findClass RX6 = some m.cls := findClass_of_methodNamed B.named
  have hlocks := B.notSynchronized
  have hS : va_S (fun _ => False) s.heap s.heap [] := va_S.rf
  have hl := lv_entry ([.ref s0, .int count, .int length]) (n := 3) (Nat.le_of_ble_eq_true rfl)
  rw [lg_entry_eq]
  generalize (lg_sl ([.ref s0, .int count, .int length]) ++ List.replicate (3 - (lg_sl ([.ref s0, .int count, .int length])).length) Slot.unset).toArray = ls at hl ⊢
  have hl : lv_has ls 3 [(0, .ref s0), (1, .int count), (2, .int length)] := hl
  obtain ⟨ρ, hρ⟩ : ∃ ρ : Int32 ⊕ Nat, ρ = P_bound count length := ⟨_, rfl⟩
  have hr : P_bound count length = ρ := hρ.symm
  rewrite [P_bound] at hr
  refine lv_aload_n hx hb dX6_bound_0 rfl (lv_at hl 0 rfl) ?_
  refine lv_iload_n hx hb dX6_bound_1 rfl (lv_at hl 1 rfl) ?_
  refine lv_iload_n hx hb dX6_bound_2 rfl (lv_at hl 2 rfl) ?_
  rcases hq_1 : P_requireTabled count length with v_2 | kk_3
  · have hr := sb_l hr hq_1
    refine kCall0 (va_runV (As := [.int count, .int length]) (rest := []) ⟨hx, hb, hml, hown, hts⟩ (k_X6_requireTabled l dC dI cI cN h0 s0 sc0 kp0 ta0 km rf a0 q0 d0 c0 count length v_2 hq_1) (cwV 2 hts gX6_bound_X6_requireTabled rfl rfl rfl (by decide +kernel) ⟨Nat.le_of_ble_eq_true rfl, Nat.le_of_ble_eq_true rfl⟩) (kW_V hP hK hD hN (ci := 5) (q0 := 0) rfl rfl [0] rfl rfl rfl) rfl rfl hl.1 rfl (lv_room (Nat.le_of_ble_eq_true rfl)) dX6_bound_3 ⟨Nat.zero_le _, Nat.zero_le _⟩) hP hS (fun H locs hP hS => ?_)
    refine lv_iload_n hx hb dX6_bound_6 rfl (lv_at hl 1 rfl) ?_
    refine lv_iload_n hx hb dX6_bound_7 rfl (lv_at hl 2 rfl) ?_
    refine kCall (va_runSN (As := [.int count, .int length]) (rest := []) ⟨hx, hb, hml, hown, hts⟩ (k_X1_leastKnots l dC dI cI cN count length) ⟨va_cnB 2 hts gX6_bound_X1_leastKnots_n298 rfl rfl rfl (hN.1 35 _ rfl) (hts (.initialized RX1) (by decide +kernel)) (by decide +kernel) ⟨Nat.le_of_ble_eq_true rfl, Nat.le_of_ble_eq_true rfl⟩, hts (.static yX1_leastKnots) (by decide +kernel), trivial⟩ (kW_S hP hK hD hN [] rfl rfl rfl) rfl rfl hl.1 rfl (lv_room (Nat.le_of_ble_eq_true rfl)) dX6_bound_8 ⟨Nat.zero_le _, Nat.zero_le _⟩) hP hS (fun H locs hP hS => ?_)
    have he := Sum.inl.inj (hr.trans (hρ.trans hok))
    subst he
    exact W.iret (v := P_leastKnots count length) hx hb hr0 (fun t ht hW => kR_end rfl hS ht) hS.2.2 dX6_bound_11
  · have hr := sb_r hr hq_1
    cases hr.trans (hρ.trans hok)
abbrev rx_X6_bound : Room := { frames := 7, cells := 1, slots := 6, locals := 104 }
set_option maxHeartbeats 4000000 in
set_option maxRecDepth 100000 in
theorem e_X6_bound (l : Launch) (hl9 : l.stackTraces = false) (dC : Nat → ClassId) (dI : Nat → Nat → Nat) (cI cN : ClassId) (h0 : Nat) (s0 : Nat) (sc0 : Nat) (kp0 : Nat) (ta0 : Nat) (km : Int32) (rf : Int32) (a0 : Nat) (q0 : Nat) (d0 : Nat) (c0 : Nat) (count : Int32) (length : Int32) (kx : Nat) (hex : P_bound count length = .inr kx) : vx_Met l yX6_bound wsX6_bound rx_X6_bound (va_Pc [.ref s0, .int count, .int length] (kWE dC dI cI cN [(s0, .inr (5, [.ref h0, .ref sc0, .ref kp0, .ref a0, .ref q0, .ref d0, .ref c0, .ref ta0, .int km, .int rf]))])) kNoi (kX kx) 1 6 (fun _ => False) := by
  refine vx_ofW (cc := cX6_bound) (maxL := 3) (ret := (some .int)) (by decide) rfl ?_
  intro p e s m args below meth c s₁ B hml hxt hv
  obtain ⟨rfl, ⟨hP, hK, hD, hN⟩, hE⟩ := hv
  have hx := B.exec
  have hb := B.bytes
  have hr0 := B.returns
  have hts := atoms_spec (ws := wsX6_bound) B.pre
  have hown : s.vm.findClass RX6 = some m.cls := findClass_of_methodNamed B.named
  have hlocks := B.notSynchronized
  have hS : va_S (fun _ => False) s.heap s.heap [] := va_S.rf
  have hl := lv_entry ([.ref s0, .int count, .int length]) (n := 3) (Nat.le_of_ble_eq_true rfl)
  rw [lg_entry_eq]
  generalize (lg_sl ([.ref s0, .int count, .int length]) ++ List.replicate (3 - (lg_sl ([.ref s0, .int count, .int length])).length) Slot.unset).toArray = ls at hl ⊢
  have hl : lv_has ls 3 [(0, .ref s0), (1, .int count), (2, .int length)] := hl
  obtain ⟨ρ, hρ⟩ : ∃ ρ : Int32 ⊕ Nat, ρ = P_bound count length := ⟨_, rfl⟩
  have hr : P_bound count length = ρ := hρ.symm
  rewrite [P_bound] at hr
  refine lv_aload_n hx hb dX6_bound_0 rfl (lv_at hl 0 rfl) ?_
  refine lv_iload_n hx hb dX6_bound_1 rfl (lv_at hl 1 rfl) ?_
  refine lv_iload_n hx hb dX6_bound_2 rfl (lv_at hl 2 rfl) ?_
  rcases hq_1 : P_requireTabled count length with v_2 | kk_3
  · have hr := sb_l hr hq_1
    refine kCall0 (va_runV (As := [.int count, .int length]) (rest := []) ⟨hx, hb, hml, hown, hts⟩ (k_X6_requireTabled l dC dI cI cN h0 s0 sc0 kp0 ta0 km rf a0 q0 d0 c0 count length v_2 hq_1) (cwV 2 hts gX6_bound_X6_requireTabled rfl rfl rfl (by decide +kernel) ⟨Nat.le_of_ble_eq_true rfl, Nat.le_of_ble_eq_true rfl⟩) (kW_V hP hK hD hN (ci := 5) (q0 := 0) rfl rfl [0] rfl rfl rfl) rfl rfl hl.1 rfl (lv_room (Nat.le_of_ble_eq_true rfl)) dX6_bound_3 ⟨Nat.zero_le _, Nat.zero_le _⟩) hP hS (fun H locs hP hS => ?_)
    refine lv_iload_n hx hb dX6_bound_6 rfl (lv_at hl 1 rfl) ?_
    refine lv_iload_n hx hb dX6_bound_7 rfl (lv_at hl 2 rfl) ?_
    refine kCall (va_runSN (As := [.int count, .int length]) (rest := []) ⟨hx, hb, hml, hown, hts⟩ (k_X1_leastKnots l dC dI cI cN count length) ⟨va_cnB 2 hts gX6_bound_X1_leastKnots_n298 rfl rfl rfl (hN.1 35 _ rfl) (hts (.initialized RX1) (by decide +kernel)) (by decide +kernel) ⟨Nat.le_of_ble_eq_true rfl, Nat.le_of_ble_eq_true rfl⟩, hts (.static yX1_leastKnots) (by decide +kernel), trivial⟩ (kW_S hP hK hD hN [] rfl rfl rfl) rfl rfl hl.1 rfl (lv_room (Nat.le_of_ble_eq_true rfl)) dX6_bound_8 ⟨Nat.zero_le _, Nat.zero_le _⟩) hP hS (fun H locs hP hS => ?_)
    cases hr.trans (hρ.trans hex)
  · have hr := sb_r hr hq_1
    exact kXcallv (Sum.inr.inj (hr.trans (hρ.trans hex))) hxt hlocks (vx_runV (As := [.int count, .int length]) (rest := []) ⟨hx, hb, hml, hown, hts⟩ (e_X6_requireTabled l hl9 dC dI cI cN h0 s0 sc0 kp0 ta0 km rf a0 q0 d0 c0 count length kk_3 hq_1) (cwV 2 hts gX6_bound_X6_requireTabled rfl rfl rfl (by decide +kernel) ⟨Nat.le_of_ble_eq_true rfl, Nat.le_of_ble_eq_true rfl⟩) (kWE_V hP hK hD hN (kE_kept hE hS.2.1) (ci := 5) (q0 := 0) rfl rfl [0] rfl rfl rfl) rfl rfl hl.1 rfl (lv_room (Nat.le_of_ble_eq_true rfl)) dX6_bound_3 ⟨Nat.le_refl 1, Nat.le_refl 6⟩) hS
def P_table (g : Nat → Int32) (t : Nat → Int32) (count : Int32) (length : Int32) (isNext : Int32) : Int32 ⊕ Nat :=
  sb (P_requireTabled count length) (fun v_2 =>
    if isNext = 0 then
      Sum.inl (P_smallestOf t count length)
    else
      Sum.inl (P_nextOf g count length))
abbrev rm_X6_table : Room := { frames := 5, cells := 0, slots := 0, locals := 117 }
set_option maxHeartbeats 4000000 in
set_option maxRecDepth 100000 in
theorem k_X6_table (l : Launch) (dC : Nat → ClassId) (dI : Nat → Nat → Nat) (cI cN : ClassId) (h0 : Nat) (s0 : Nat) (sc0 : Nat) (kp0 : Nat) (ta0 : Nat) (km : Int32) (rf : Int32) (a0 : Nat) (d0 : Nat) (c0 : Nat) (q0 : Nat) (q1 : Nat) (q2 : Nat) (g : Nat → Int32) (t : Nat → Int32) (count : Int32) (length : Int32) (isNext : Int32) (v : Int32) (hok : P_table g t count length isNext = .inl v) : Met l yX6_table wsX6_table rm_X6_table (va_Pc [.ref s0, .int count, .int length, .int isNext] (kW dC dI cI cN [(s0, .inr (5, [.ref h0, .ref sc0, .ref kp0, .ref a0, .ref q0, .ref d0, .ref c0, .ref ta0, .int km, .int rf])), (q0, .inr (1, [.ref q1, .ref q2])), (q1, .inl (cI, 102, .inl g)), (q2, .inl (cI, 54, .inl t))])) (kR v) 0 0 (fun _ => False) := by
  refine Met.ofW (cc := cX6_table) (maxL := 4) (ret := (some .int)) (by decide) rfl ?_
  intro p e s m args below meth c s₁ B hml hv
  obtain ⟨rfl, hP, hK, hD, hN⟩ := hv
  have hx := B.exec
  have hb := B.bytes
  have hr0 := B.returns
  have hts := atoms_spec (ws := wsX6_table) B.pre
  have hown : s.vm.findClass RX6 = some m.cls := findClass_of_methodNamed B.named
  have hlocks := B.notSynchronized
  have hS : va_S (fun _ => False) s.heap s.heap [] := va_S.rf
  have hl := lv_entry ([.ref s0, .int count, .int length, .int isNext]) (n := 4) (Nat.le_of_ble_eq_true rfl)
  rw [lg_entry_eq]
  generalize (lg_sl ([.ref s0, .int count, .int length, .int isNext]) ++ List.replicate (4 - (lg_sl ([.ref s0, .int count, .int length, .int isNext])).length) Slot.unset).toArray = ls at hl ⊢
  have hl : lv_has ls 4 [(0, .ref s0), (1, .int count), (2, .int length), (3, .int isNext)] := hl
  obtain ⟨ρ, hρ⟩ : ∃ ρ : Int32 ⊕ Nat, ρ = P_table g t count length isNext := ⟨_, rfl⟩
  have hr : P_table g t count length isNext = ρ := hρ.symm
  rewrite [P_table] at hr
  refine lv_aload_n hx hb dX6_table_0 rfl (lv_at hl 0 rfl) ?_
  refine lv_iload_n hx hb dX6_table_1 rfl (lv_at hl 1 rfl) ?_
  refine lv_iload_n hx hb dX6_table_2 rfl (lv_at hl 2 rfl) ?_
  rcases hq_1 : P_requireTabled count length with v_2 | kk_3
  · have hr := sb_l hr hq_1
    refine kCall0 (va_runV (As := [.int count, .int length]) (rest := []) ⟨hx, hb, hml, hown, hts⟩ (k_X6_requireTabled l dC dI cI cN h0 s0 sc0 kp0 ta0 km rf a0 q0 d0 c0 count length v_2 hq_1) (cwV 2 hts gX6_table_X6_requireTabled rfl rfl rfl (by decide +kernel) ⟨Nat.le_of_ble_eq_true rfl, Nat.le_of_ble_eq_true rfl⟩) (kW_V hP hK hD hN (ci := 5) (q0 := 0) rfl rfl [0] rfl rfl rfl) rfl rfl hl.1 rfl (lv_room (Nat.le_of_ble_eq_true rfl)) dX6_table_3 ⟨Nat.zero_le _, Nat.zero_le _⟩) hP hS (fun H locs hP hS => ?_)
    refine lv_iload_n hx hb dX6_table_6 rfl (lv_at hl 3 rfl) ?_
    refine lv_if_eq (tgt := 22) hx hb dX6_table_7 (by decide) (fun c_4 => ?_) (fun c_4 => ?_)
    · have hr := if_to hr c_4
      refine lv_aload_n hx hb dX6_table_22 rfl (lv_at hl 0 rfl) ?_
      refine va_get (D := (dC, dI)) (ci := 5) (v := .ref q0) (C := RX6) (T := TX6) (N := 10) hx hb hts (by decide +kernel) hown hK hP 0 rfl rfl 4 (by decide) (hts (.fieldLink RX6 33 "Shortring" "ledger" "LShortring$Ledger;") (by decide +kernel)) (fun _ h9 => h9) rfl dX6_table_23 ?_
      refine lv_iload_n hx hb dX6_table_26 rfl (lv_at hl 1 rfl) ?_
      refine lv_iload_n hx hb dX6_table_27 rfl (lv_at hl 2 rfl) ?_
      refine kCall (va_runVN (As := [.int count, .int length]) (rest := []) ⟨hx, hb, hml, hown, hts⟩ (k_X1_smallestOf l dC dI cI cN q0 q1 q2 g t count length) ⟨va_cnB 2 hts gX6_table_X1_smallestOf_n306 rfl rfl rfl (hN.1 37 _ rfl) (hts (.initialized RX1) (by decide +kernel)) (by decide +kernel) ⟨Nat.le_of_ble_eq_true rfl, Nat.le_of_ble_eq_true rfl⟩, hts (.instanceMethod yX1_smallestOf) (by decide +kernel), hts (.selects RX1 yX1_smallestOf yX1_smallestOf) (by decide +kernel)⟩ (kW_V hP hK hD hN (ci := 1) (q0 := 1) rfl rfl [1, 2, 3] rfl rfl rfl) rfl rfl hl.1 rfl (lv_room (Nat.le_of_ble_eq_true rfl)) dX6_table_28 ⟨Nat.zero_le _, Nat.zero_le _⟩) hP hS (fun H locs hP hS => ?_)
      have he := Sum.inl.inj (hr.trans (hρ.trans hok))
      subst he
      exact W.iret (v := P_smallestOf t count length) hx hb hr0 (fun t ht hW => kR_end rfl hS ht) hS.2.2 dX6_table_31
    · have hr := if_no hr c_4
      refine lv_aload_n hx hb dX6_table_10 rfl (lv_at hl 0 rfl) ?_
      refine va_get (D := (dC, dI)) (ci := 5) (v := .ref q0) (C := RX6) (T := TX6) (N := 10) hx hb hts (by decide +kernel) hown hK hP 0 rfl rfl 4 (by decide) (hts (.fieldLink RX6 33 "Shortring" "ledger" "LShortring$Ledger;") (by decide +kernel)) (fun _ h9 => h9) rfl dX6_table_11 ?_
      refine lv_iload_n hx hb dX6_table_14 rfl (lv_at hl 1 rfl) ?_
      refine lv_iload_n hx hb dX6_table_15 rfl (lv_at hl 2 rfl) ?_
      refine kCall (va_runVN (As := [.int count, .int length]) (rest := []) ⟨hx, hb, hml, hown, hts⟩ (k_X1_nextOf l dC dI cI cN q0 q1 q2 g t count length) ⟨va_cnB 2 hts gX6_table_X1_nextOf_n303 rfl rfl rfl (hN.1 36 _ rfl) (hts (.initialized RX1) (by decide +kernel)) (by decide +kernel) ⟨Nat.le_of_ble_eq_true rfl, Nat.le_of_ble_eq_true rfl⟩, hts (.instanceMethod yX1_nextOf) (by decide +kernel), hts (.selects RX1 yX1_nextOf yX1_nextOf) (by decide +kernel)⟩ (kW_V hP hK hD hN (ci := 1) (q0 := 1) rfl rfl [1, 2, 3] rfl rfl rfl) rfl rfl hl.1 rfl (lv_room (Nat.le_of_ble_eq_true rfl)) dX6_table_16 ⟨Nat.zero_le _, Nat.zero_le _⟩) hP hS (fun H locs hP hS => ?_)
      refine lv_goto (tgt := 31) hx hb dX6_table_19 (by decide) ?_
      have he := Sum.inl.inj (hr.trans (hρ.trans hok))
      subst he
      exact W.iret (v := P_nextOf g count length) hx hb hr0 (fun t ht hW => kR_end rfl hS ht) hS.2.2 dX6_table_31
  · have hr := sb_r hr hq_1
    cases hr.trans (hρ.trans hok)
abbrev rx_X6_table : Room := { frames := 7, cells := 1, slots := 6, locals := 117 }
set_option maxHeartbeats 4000000 in
set_option maxRecDepth 100000 in
theorem e_X6_table (l : Launch) (hl9 : l.stackTraces = false) (dC : Nat → ClassId) (dI : Nat → Nat → Nat) (cI cN : ClassId) (h0 : Nat) (s0 : Nat) (sc0 : Nat) (kp0 : Nat) (ta0 : Nat) (km : Int32) (rf : Int32) (a0 : Nat) (d0 : Nat) (c0 : Nat) (q0 : Nat) (q1 : Nat) (q2 : Nat) (g : Nat → Int32) (t : Nat → Int32) (count : Int32) (length : Int32) (isNext : Int32) (kx : Nat) (hex : P_table g t count length isNext = .inr kx) : vx_Met l yX6_table wsX6_table rx_X6_table (va_Pc [.ref s0, .int count, .int length, .int isNext] (kWE dC dI cI cN [(s0, .inr (5, [.ref h0, .ref sc0, .ref kp0, .ref a0, .ref q0, .ref d0, .ref c0, .ref ta0, .int km, .int rf])), (q0, .inr (1, [.ref q1, .ref q2])), (q1, .inl (cI, 102, .inl g)), (q2, .inl (cI, 54, .inl t))])) kNoi (kX kx) 1 6 (fun _ => False) := by
  refine vx_ofW (cc := cX6_table) (maxL := 4) (ret := (some .int)) (by decide) rfl ?_
  intro p e s m args below meth c s₁ B hml hxt hv
  obtain ⟨rfl, ⟨hP, hK, hD, hN⟩, hE⟩ := hv
  have hx := B.exec
  have hb := B.bytes
  have hr0 := B.returns
  have hts := atoms_spec (ws := wsX6_table) B.pre
  have hown : s.vm.findClass RX6 = some m.cls := findClass_of_methodNamed B.named
  have hlocks := B.notSynchronized
  have hS : va_S (fun _ => False) s.heap s.heap [] := va_S.rf
  have hl := lv_entry ([.ref s0, .int count, .int length, .int isNext]) (n := 4) (Nat.le_of_ble_eq_true rfl)
  rw [lg_entry_eq]
  generalize (lg_sl ([.ref s0, .int count, .int length, .int isNext]) ++ List.replicate (4 - (lg_sl ([.ref s0, .int count, .int length, .int isNext])).length) Slot.unset).toArray = ls at hl ⊢
  have hl : lv_has ls 4 [(0, .ref s0), (1, .int count), (2, .int length), (3, .int isNext)] := hl
  obtain ⟨ρ, hρ⟩ : ∃ ρ : Int32 ⊕ Nat, ρ = P_table g t count length isNext := ⟨_, rfl⟩
  have hr : P_table g t count length isNext = ρ := hρ.symm
  rewrite [P_table] at hr
  refine lv_aload_n hx hb dX6_table_0 rfl (lv_at hl 0 rfl) ?_
  refine lv_iload_n hx hb dX6_table_1 rfl (lv_at hl 1 rfl) ?_
  refine lv_iload_n hx hb dX6_table_2 rfl (lv_at hl 2 rfl) ?_
  rcases hq_1 : P_requireTabled count length with v_2 | kk_3
  · have hr := sb_l hr hq_1
    refine kCall0 (va_runV (As := [.int count, .int length]) (rest := []) ⟨hx, hb, hml, hown, hts⟩ (k_X6_requireTabled l dC dI cI cN h0 s0 sc0 kp0 ta0 km rf a0 q0 d0 c0 count length v_2 hq_1) (cwV 2 hts gX6_table_X6_requireTabled rfl rfl rfl (by decide +kernel) ⟨Nat.le_of_ble_eq_true rfl, Nat.le_of_ble_eq_true rfl⟩) (kW_V hP hK hD hN (ci := 5) (q0 := 0) rfl rfl [0] rfl rfl rfl) rfl rfl hl.1 rfl (lv_room (Nat.le_of_ble_eq_true rfl)) dX6_table_3 ⟨Nat.zero_le _, Nat.zero_le _⟩) hP hS (fun H locs hP hS => ?_)
    refine lv_iload_n hx hb dX6_table_6 rfl (lv_at hl 3 rfl) ?_
    refine lv_if_eq (tgt := 22) hx hb dX6_table_7 (by decide) (fun c_4 => ?_) (fun c_4 => ?_)
    · have hr := if_to hr c_4
      refine lv_aload_n hx hb dX6_table_22 rfl (lv_at hl 0 rfl) ?_
      refine va_get (D := (dC, dI)) (ci := 5) (v := .ref q0) (C := RX6) (T := TX6) (N := 10) hx hb hts (by decide +kernel) hown hK hP 0 rfl rfl 4 (by decide) (hts (.fieldLink RX6 33 "Shortring" "ledger" "LShortring$Ledger;") (by decide +kernel)) (fun _ h9 => h9) rfl dX6_table_23 ?_
      refine lv_iload_n hx hb dX6_table_26 rfl (lv_at hl 1 rfl) ?_
      refine lv_iload_n hx hb dX6_table_27 rfl (lv_at hl 2 rfl) ?_
      refine kCall (va_runVN (As := [.int count, .int length]) (rest := []) ⟨hx, hb, hml, hown, hts⟩ (k_X1_smallestOf l dC dI cI cN q0 q1 q2 g t count length) ⟨va_cnB 2 hts gX6_table_X1_smallestOf_n306 rfl rfl rfl (hN.1 37 _ rfl) (hts (.initialized RX1) (by decide +kernel)) (by decide +kernel) ⟨Nat.le_of_ble_eq_true rfl, Nat.le_of_ble_eq_true rfl⟩, hts (.instanceMethod yX1_smallestOf) (by decide +kernel), hts (.selects RX1 yX1_smallestOf yX1_smallestOf) (by decide +kernel)⟩ (kW_V hP hK hD hN (ci := 1) (q0 := 1) rfl rfl [1, 2, 3] rfl rfl rfl) rfl rfl hl.1 rfl (lv_room (Nat.le_of_ble_eq_true rfl)) dX6_table_28 ⟨Nat.zero_le _, Nat.zero_le _⟩) hP hS (fun H locs hP hS => ?_)
      cases hr.trans (hρ.trans hex)
    · have hr := if_no hr c_4
      refine lv_aload_n hx hb dX6_table_10 rfl (lv_at hl 0 rfl) ?_
      refine va_get (D := (dC, dI)) (ci := 5) (v := .ref q0) (C := RX6) (T := TX6) (N := 10) hx hb hts (by decide +kernel) hown hK hP 0 rfl rfl 4 (by decide) (hts (.fieldLink RX6 33 "Shortring" "ledger" "LShortring$Ledger;") (by decide +kernel)) (fun _ h9 => h9) rfl dX6_table_11 ?_
      refine lv_iload_n hx hb dX6_table_14 rfl (lv_at hl 1 rfl) ?_
      refine lv_iload_n hx hb dX6_table_15 rfl (lv_at hl 2 rfl) ?_
      refine kCall (va_runVN (As := [.int count, .int length]) (rest := []) ⟨hx, hb, hml, hown, hts⟩ (k_X1_nextOf l dC dI cI cN q0 q1 q2 g t count length) ⟨va_cnB 2 hts gX6_table_X1_nextOf_n303 rfl rfl rfl (hN.1 36 _ rfl) (hts (.initialized RX1) (by decide +kernel)) (by decide +kernel) ⟨Nat.le_of_ble_eq_true rfl, Nat.le_of_ble_eq_true rfl⟩, hts (.instanceMethod yX1_nextOf) (by decide +kernel), hts (.selects RX1 yX1_nextOf yX1_nextOf) (by decide +kernel)⟩ (kW_V hP hK hD hN (ci := 1) (q0 := 1) rfl rfl [1, 2, 3] rfl rfl rfl) rfl rfl hl.1 rfl (lv_room (Nat.le_of_ble_eq_true rfl)) dX6_table_16 ⟨Nat.zero_le _, Nat.zero_le _⟩) hP hS (fun H locs hP hS => ?_)
      refine lv_goto (tgt := 31) hx hb dX6_table_19 (by decide) ?_
      cases hr.trans (hρ.trans hex)
  · have hr := sb_r hr hq_1
    exact kXcallv (Sum.inr.inj (hr.trans (hρ.trans hex))) hxt hlocks (vx_runV (As := [.int count, .int length]) (rest := []) ⟨hx, hb, hml, hown, hts⟩ (e_X6_requireTabled l hl9 dC dI cI cN h0 s0 sc0 kp0 ta0 km rf a0 q0 d0 c0 count length kk_3 hq_1) (cwV 2 hts gX6_table_X6_requireTabled rfl rfl rfl (by decide +kernel) ⟨Nat.le_of_ble_eq_true rfl, Nat.le_of_ble_eq_true rfl⟩) (kWE_V hP hK hD hN (kE_kept hE hS.2.1) (ci := 5) (q0 := 0) rfl rfl [0] rfl rfl rfl) rfl rfl hl.1 rfl (lv_room (Nat.le_of_ble_eq_true rfl)) dX6_table_3 ⟨Nat.le_refl 1, Nat.le_refl 6⟩) hS
def P_search (K : Nat) (f : Nat → Int32) (bw : Nat → Int32) (isOn : Int32) (cnt : Int32) (len : Int32) (stp : Int32) (sta : Int32) (pm : Int32) (bm : Int32) (what : Int32) : Int32 ⊕ Nat :=
  if (P_isWithin what 0 7) = 0 then
    Sum.inr 1
  else
    if isOn = 0 then
      Sum.inl (-1)
    else
      if what = (0 : Int32) then
        Sum.inl cnt
      else
        if what = (1 : Int32) then
          Sum.inl len
        else
          if what = (2 : Int32) then
            Sum.inl pm
          else
            if what = (3 : Int32) then
              Sum.inl bm
            else
              if what = (4 : Int32) then
                Sum.inl stp
              else
                if what = (5 : Int32) then
                  Sum.inl sta
                else
                  if what = (6 : Int32) then
                    Sum.inl (P_nextKnot K f bw cnt len sta)
                  else
                    Sum.inl (P_partnerOf K f bw cnt len (P_nextKnot K f bw cnt len sta))
abbrev rm_X6_search : Room := { frames := 5, cells := 0, slots := 0, locals := 120 }
set_option maxHeartbeats 4000000 in
set_option maxRecDepth 100000 in
theorem k_X6_search (l : Launch) (dC : Nat → ClassId) (dI : Nat → Nat → Nat) (cI cN : ClassId) (s0 : Nat) (sc0 : Nat) (kp0 : Nat) (ta0 : Nat) (km : Int32) (rf : Int32) (q0 : Nat) (d0 : Nat) (c0 : Nat) (h0 : Nat) (h1 : Nat) (K : Nat) (f : Nat → Int32) (a0 : Nat) (a1 : Nat) (a2 : Nat) (a3 : Nat) (a4 : Nat) (isOn : Int32) (cnt : Int32) (len : Int32) (stp : Int32) (sta : Int32) (pm : Int32) (bm : Int32) (bw : Nat → Int32) (bars : Nat → Int32) (puts : Nat → Int32) (bap : Nat → Int32) (what : Int32) (hK : K ≤ 16) (v : Int32) (hok : P_search K f bw isOn cnt len stp sta pm bm what = .inl v) : Met l yX6_search wsX6_search rm_X6_search (va_Pc [.ref s0, .int what] (kW dC dI cI cN [(s0, .inr (5, [.ref h0, .ref sc0, .ref kp0, .ref a0, .ref q0, .ref d0, .ref c0, .ref ta0, .int km, .int rf])), (h0, .inr (3, [.ref h1, .int (nI K)])), (h1, .inl (cI, 16, .inl f)), (a0, .inr (0, [.ref a1, .ref a2, .ref a3, .ref a4, .int isOn, .int cnt, .int len, .int stp, .int sta, .int pm, .int bm])), (a1, .inl (cI, 16, .inl bw)), (a2, .inl (cI, 120, .inl bars)), (a3, .inl (cI, 40, .inl puts)), (a4, .inl (cI, 40, .inl bap))])) (kR v) 0 0 (fun _ => False) := by
  refine Met.ofW (cc := cX6_search) (maxL := 2) (ret := (some .int)) (by decide) rfl ?_
  intro p e s m args below meth c s₁ B hml hv
  obtain ⟨rfl, hP, hK, hD, hN⟩ := hv
  have hx := B.exec
  have hb := B.bytes
  have hr0 := B.returns
  have hts := atoms_spec (ws := wsX6_search) B.pre
  have hown : s.vm.findClass RX6 = some m.cls := findClass_of_methodNamed B.named
  have hlocks := B.notSynchronized
  have hS : va_S (fun _ => False) s.heap s.heap [] := va_S.rf
  have hl := lv_entry ([.ref s0, .int what]) (n := 2) (Nat.le_of_ble_eq_true rfl)
  rw [lg_entry_eq]
  generalize (lg_sl ([.ref s0, .int what]) ++ List.replicate (2 - (lg_sl ([.ref s0, .int what])).length) Slot.unset).toArray = ls at hl ⊢
  have hl : lv_has ls 2 [(0, .ref s0), (1, .int what)] := hl
  obtain ⟨ρ, hρ⟩ : ∃ ρ : Int32 ⊕ Nat, ρ = P_search K f bw isOn cnt len stp sta pm bm what := ⟨_, rfl⟩
  have hr : P_search K f bw isOn cnt len stp sta pm bm what = ρ := hρ.symm
  rewrite [P_search] at hr
  refine lv_iload_n hx hb dX6_search_0 rfl (lv_at hl 1 rfl) ?_
  refine lv_iconst (v := 0) hx hb dX6_search_1 (by decide) ?_
  refine lv_bipush (v := 7) hx hb dX6_search_2 (by decide) ?_
  refine kCall (va_runS (As := [.int what, .int 0, .int 7]) (rest := []) ⟨hx, hb, hml, hown, hts⟩ (k_X6_isWithin l dC dI cI cN what 0 7) (va_cwS 3 hts gX6_search_X6_isWithin rfl rfl rfl (by decide +kernel) ⟨Nat.le_of_ble_eq_true rfl, Nat.le_of_ble_eq_true rfl⟩) (kW_S hP hK hD hN [] rfl rfl rfl) rfl rfl hl.1 rfl (lv_room (Nat.le_of_ble_eq_true rfl)) dX6_search_4 ⟨Nat.zero_le _, Nat.zero_le _⟩) hP hS (fun H locs hP hS => ?_)
  refine lv_if_ne (tgt := 20) hx hb dX6_search_7 (by decide) (fun c_1 => ?_) (fun c_1 => ?_)
  · have hr := if_no hr c_1
    refine lv_aload_n hx hb dX6_search_20 rfl (lv_at hl 0 rfl) ?_
    refine va_get (D := (dC, dI)) (ci := 5) (v := .ref a0) (C := RX6) (T := TX6) (N := 10) hx hb hts (by decide +kernel) hown hK hP 0 rfl rfl 3 (by decide) (hts (.fieldLink RX6 26 "Shortring" "hunt" "LShortring$Hunt;") (by decide +kernel)) (fun _ h9 => h9) rfl dX6_search_21 ?_
    refine va_getN (D := (dC, dI)) (ci := 0) (v := .int isOn) (C := RX0) (T := TX0) (N := 11) hx hb hts (by decide +kernel) hown hK hP 3 rfl rfl 4 (by decide) (va_Nw.use rfl (hN.2 1 _ rfl)) (fun _ h9 => h9) rfl dX6_search_24 ?_
    refine lv_if_ne (tgt := 32) hx hb dX6_search_27 (by decide) (fun c_2 => ?_) (fun c_2 => ?_)
    · have hr := if_no hr c_2
      refine lv_iload_n hx hb dX6_search_32 rfl (lv_at hl 1 rfl) ?_
      by_cases c_3 : what = (0 : Int32)
      · have hr := if_to hr c_3
        refine lv_tableIn (off := 43) (tgt := 76) hx hb dX6_search_33 (by rw [c_3]; decide) (by rw [c_3]; decide) (by rw [c_3]; decide) (by decide) ?_
        refine lv_aload_n hx hb dX6_search_76 rfl (lv_at hl 0 rfl) ?_
        refine va_get (D := (dC, dI)) (ci := 5) (v := .ref a0) (C := RX6) (T := TX6) (N := 10) hx hb hts (by decide +kernel) hown hK hP 0 rfl rfl 3 (by decide) (hts (.fieldLink RX6 26 "Shortring" "hunt" "LShortring$Hunt;") (by decide +kernel)) (fun _ h9 => h9) rfl dX6_search_77 ?_
        refine va_getN (D := (dC, dI)) (ci := 0) (v := .int cnt) (C := RX0) (T := TX0) (N := 11) hx hb hts (by decide +kernel) hown hK hP 3 rfl rfl 5 (by decide) (va_Nw.use rfl (hN.2 3 _ rfl)) (fun _ h9 => h9) rfl dX6_search_80 ?_
        have he := Sum.inl.inj (hr.trans (hρ.trans hok))
        subst he
        exact W.iret (v := cnt) hx hb hr0 (fun t ht hW => kR_end rfl hS ht) hS.2.2 dX6_search_83
      · have hr := if_no hr c_3
        by_cases c_4 : what = (1 : Int32)
        · have hr := if_to hr c_4
          refine lv_tableIn (off := 51) (tgt := 84) hx hb dX6_search_33 (by rw [c_4]; decide) (by rw [c_4]; decide) (by rw [c_4]; decide) (by decide) ?_
          refine lv_aload_n hx hb dX6_search_84 rfl (lv_at hl 0 rfl) ?_
          refine va_get (D := (dC, dI)) (ci := 5) (v := .ref a0) (C := RX6) (T := TX6) (N := 10) hx hb hts (by decide +kernel) hown hK hP 0 rfl rfl 3 (by decide) (hts (.fieldLink RX6 26 "Shortring" "hunt" "LShortring$Hunt;") (by decide +kernel)) (fun _ h9 => h9) rfl dX6_search_85 ?_
          refine va_getN (D := (dC, dI)) (ci := 0) (v := .int len) (C := RX0) (T := TX0) (N := 11) hx hb hts (by decide +kernel) hown hK hP 3 rfl rfl 6 (by decide) (va_Nw.use rfl (hN.2 4 _ rfl)) (fun _ h9 => h9) rfl dX6_search_88 ?_
          have he := Sum.inl.inj (hr.trans (hρ.trans hok))
          subst he
          exact W.iret (v := len) hx hb hr0 (fun t ht hW => kR_end rfl hS ht) hS.2.2 dX6_search_91
        · have hr := if_no hr c_4
          by_cases c_5 : what = (2 : Int32)
          · have hr := if_to hr c_5
            refine lv_tableIn (off := 59) (tgt := 92) hx hb dX6_search_33 (by rw [c_5]; decide) (by rw [c_5]; decide) (by rw [c_5]; decide) (by decide) ?_
            refine lv_aload_n hx hb dX6_search_92 rfl (lv_at hl 0 rfl) ?_
            refine va_get (D := (dC, dI)) (ci := 5) (v := .ref a0) (C := RX6) (T := TX6) (N := 10) hx hb hts (by decide +kernel) hown hK hP 0 rfl rfl 3 (by decide) (hts (.fieldLink RX6 26 "Shortring" "hunt" "LShortring$Hunt;") (by decide +kernel)) (fun _ h9 => h9) rfl dX6_search_93 ?_
            refine va_getN (D := (dC, dI)) (ci := 0) (v := .int pm) (C := RX0) (T := TX0) (N := 11) hx hb hts (by decide +kernel) hown hK hP 3 rfl rfl 9 (by decide) (va_Nw.use rfl (hN.2 5 _ rfl)) (fun _ h9 => h9) rfl dX6_search_96 ?_
            have he := Sum.inl.inj (hr.trans (hρ.trans hok))
            subst he
            exact W.iret (v := pm) hx hb hr0 (fun t ht hW => kR_end rfl hS ht) hS.2.2 dX6_search_99
          · have hr := if_no hr c_5
            by_cases c_6 : what = (3 : Int32)
            · have hr := if_to hr c_6
              refine lv_tableIn (off := 67) (tgt := 100) hx hb dX6_search_33 (by rw [c_6]; decide) (by rw [c_6]; decide) (by rw [c_6]; decide) (by decide) ?_
              refine lv_aload_n hx hb dX6_search_100 rfl (lv_at hl 0 rfl) ?_
              refine va_get (D := (dC, dI)) (ci := 5) (v := .ref a0) (C := RX6) (T := TX6) (N := 10) hx hb hts (by decide +kernel) hown hK hP 0 rfl rfl 3 (by decide) (hts (.fieldLink RX6 26 "Shortring" "hunt" "LShortring$Hunt;") (by decide +kernel)) (fun _ h9 => h9) rfl dX6_search_101 ?_
              refine va_getN (D := (dC, dI)) (ci := 0) (v := .int bm) (C := RX0) (T := TX0) (N := 11) hx hb hts (by decide +kernel) hown hK hP 3 rfl rfl 10 (by decide) (va_Nw.use rfl (hN.2 6 _ rfl)) (fun _ h9 => h9) rfl dX6_search_104 ?_
              have he := Sum.inl.inj (hr.trans (hρ.trans hok))
              subst he
              exact W.iret (v := bm) hx hb hr0 (fun t ht hW => kR_end rfl hS ht) hS.2.2 dX6_search_107
            · have hr := if_no hr c_6
              by_cases c_7 : what = (4 : Int32)
              · have hr := if_to hr c_7
                refine lv_tableIn (off := 75) (tgt := 108) hx hb dX6_search_33 (by rw [c_7]; decide) (by rw [c_7]; decide) (by rw [c_7]; decide) (by decide) ?_
                refine lv_aload_n hx hb dX6_search_108 rfl (lv_at hl 0 rfl) ?_
                refine va_get (D := (dC, dI)) (ci := 5) (v := .ref a0) (C := RX6) (T := TX6) (N := 10) hx hb hts (by decide +kernel) hown hK hP 0 rfl rfl 3 (by decide) (hts (.fieldLink RX6 26 "Shortring" "hunt" "LShortring$Hunt;") (by decide +kernel)) (fun _ h9 => h9) rfl dX6_search_109 ?_
                refine va_getN (D := (dC, dI)) (ci := 0) (v := .int stp) (C := RX0) (T := TX0) (N := 11) hx hb hts (by decide +kernel) hown hK hP 3 rfl rfl 7 (by decide) (va_Nw.use rfl (hN.2 7 _ rfl)) (fun _ h9 => h9) rfl dX6_search_112 ?_
                have he := Sum.inl.inj (hr.trans (hρ.trans hok))
                subst he
                exact W.iret (v := stp) hx hb hr0 (fun t ht hW => kR_end rfl hS ht) hS.2.2 dX6_search_115
              · have hr := if_no hr c_7
                by_cases c_8 : what = (5 : Int32)
                · have hr := if_to hr c_8
                  refine lv_tableIn (off := 83) (tgt := 116) hx hb dX6_search_33 (by rw [c_8]; decide) (by rw [c_8]; decide) (by rw [c_8]; decide) (by decide) ?_
                  refine lv_aload_n hx hb dX6_search_116 rfl (lv_at hl 0 rfl) ?_
                  refine va_get (D := (dC, dI)) (ci := 5) (v := .ref a0) (C := RX6) (T := TX6) (N := 10) hx hb hts (by decide +kernel) hown hK hP 0 rfl rfl 3 (by decide) (hts (.fieldLink RX6 26 "Shortring" "hunt" "LShortring$Hunt;") (by decide +kernel)) (fun _ h9 => h9) rfl dX6_search_117 ?_
                  refine va_getN (D := (dC, dI)) (ci := 0) (v := .int sta) (C := RX0) (T := TX0) (N := 11) hx hb hts (by decide +kernel) hown hK hP 3 rfl rfl 8 (by decide) (va_Nw.use rfl (hN.2 2 _ rfl)) (fun _ h9 => h9) rfl dX6_search_120 ?_
                  have he := Sum.inl.inj (hr.trans (hρ.trans hok))
                  subst he
                  exact W.iret (v := sta) hx hb hr0 (fun t ht hW => kR_end rfl hS ht) hS.2.2 dX6_search_123
                · have hr := if_no hr c_8
                  by_cases c_9 : what = (6 : Int32)
                  · have hr := if_to hr c_9
                    refine lv_tableIn (off := 91) (tgt := 124) hx hb dX6_search_33 (by rw [c_9]; decide) (by rw [c_9]; decide) (by rw [c_9]; decide) (by decide) ?_
                    refine lv_aload_n hx hb dX6_search_124 rfl (lv_at hl 0 rfl) ?_
                    refine va_get (D := (dC, dI)) (ci := 5) (v := .ref a0) (C := RX6) (T := TX6) (N := 10) hx hb hts (by decide +kernel) hown hK hP 0 rfl rfl 3 (by decide) (hts (.fieldLink RX6 26 "Shortring" "hunt" "LShortring$Hunt;") (by decide +kernel)) (fun _ h9 => h9) rfl dX6_search_125 ?_
                    refine lv_aload_n hx hb dX6_search_128 rfl (lv_at hl 0 rfl) ?_
                    refine va_get (D := (dC, dI)) (ci := 5) (v := .ref h0) (C := RX6) (T := TX6) (N := 10) hx hb hts (by decide +kernel) hown hK hP 0 rfl rfl 0 (by decide) (hts (.fieldLink RX6 12 "Shortring" "net" "LShortring$Net;") (by decide +kernel)) (fun _ h9 => h9) rfl dX6_search_129 ?_
                    refine kCall (va_runVN (As := [.ref h0]) (rest := []) ⟨hx, hb, hml, hown, hts⟩ (k_X0_nextKnot l dC dI cI cN a0 a1 a2 a3 a4 isOn cnt len stp sta pm bm bw bars puts bap h0 h1 K f (by first | assumption | omega | exact Int32.le_refl _ | decide)) ⟨va_cnB 1 hts gX6_search_X0_nextKnot_n226 rfl rfl rfl (hN.1 21 _ rfl) (hts (.initialized RX0) (by decide +kernel)) (by decide +kernel) ⟨Nat.le_of_ble_eq_true rfl, Nat.le_of_ble_eq_true rfl⟩, hts (.instanceMethod yX0_nextKnot) (by decide +kernel), hts (.selects RX0 yX0_nextKnot yX0_nextKnot) (by decide +kernel)⟩ (kW_V hP hK hD hN (ci := 0) (q0 := 3) rfl rfl [3, 4, 5, 6, 7, 1, 2] rfl rfl rfl) rfl rfl hl.1 rfl (lv_room (Nat.le_of_ble_eq_true rfl)) dX6_search_132 ⟨Nat.zero_le _, Nat.zero_le _⟩) hP hS (fun H locs hP hS => ?_)
                    have he := Sum.inl.inj (hr.trans (hρ.trans hok))
                    subst he
                    exact W.iret (v := P_nextKnot K f bw cnt len sta) hx hb hr0 (fun t ht hW => kR_end rfl hS ht) hS.2.2 dX6_search_135
                  · have hr := if_no hr c_9
                    refine lv_tableOut (tgt := 136) hx hb dX6_search_33 (by have z0 := lv_neT c_3 (show (0 : Int32).toInt = 0 from by decide); have z1 := lv_neT c_4 (show (1 : Int32).toInt = 1 from by decide); have z2 := lv_neT c_5 (show (2 : Int32).toInt = 2 from by decide); have z3 := lv_neT c_6 (show (3 : Int32).toInt = 3 from by decide); have z4 := lv_neT c_7 (show (4 : Int32).toInt = 4 from by decide); have z5 := lv_neT c_8 (show (5 : Int32).toInt = 5 from by decide); have z6 := lv_neT c_9 (show (6 : Int32).toInt = 6 from by decide); omega) (by decide) ?_
                    refine lv_aload_n hx hb dX6_search_136 rfl (lv_at hl 0 rfl) ?_
                    refine va_get (D := (dC, dI)) (ci := 5) (v := .ref a0) (C := RX6) (T := TX6) (N := 10) hx hb hts (by decide +kernel) hown hK hP 0 rfl rfl 3 (by decide) (hts (.fieldLink RX6 26 "Shortring" "hunt" "LShortring$Hunt;") (by decide +kernel)) (fun _ h9 => h9) rfl dX6_search_137 ?_
                    refine lv_aload_n hx hb dX6_search_140 rfl (lv_at hl 0 rfl) ?_
                    refine va_get (D := (dC, dI)) (ci := 5) (v := .ref h0) (C := RX6) (T := TX6) (N := 10) hx hb hts (by decide +kernel) hown hK hP 0 rfl rfl 0 (by decide) (hts (.fieldLink RX6 12 "Shortring" "net" "LShortring$Net;") (by decide +kernel)) (fun _ h9 => h9) rfl dX6_search_141 ?_
                    refine lv_aload_n hx hb dX6_search_144 rfl (lv_at hl 0 rfl) ?_
                    refine va_get (D := (dC, dI)) (ci := 5) (v := .ref a0) (C := RX6) (T := TX6) (N := 10) hx hb hts (by decide +kernel) hown hK hP 0 rfl rfl 3 (by decide) (hts (.fieldLink RX6 26 "Shortring" "hunt" "LShortring$Hunt;") (by decide +kernel)) (fun _ h9 => h9) rfl dX6_search_145 ?_
                    refine lv_aload_n hx hb dX6_search_148 rfl (lv_at hl 0 rfl) ?_
                    refine va_get (D := (dC, dI)) (ci := 5) (v := .ref h0) (C := RX6) (T := TX6) (N := 10) hx hb hts (by decide +kernel) hown hK hP 0 rfl rfl 0 (by decide) (hts (.fieldLink RX6 12 "Shortring" "net" "LShortring$Net;") (by decide +kernel)) (fun _ h9 => h9) rfl dX6_search_149 ?_
                    refine kCall (va_runVN (As := [.ref h0]) (rest := [.ref h0, .ref a0]) ⟨hx, hb, hml, hown, hts⟩ (k_X0_nextKnot l dC dI cI cN a0 a1 a2 a3 a4 isOn cnt len stp sta pm bm bw bars puts bap h0 h1 K f (by first | assumption | omega | exact Int32.le_refl _ | decide)) ⟨va_cnB 1 hts gX6_search_X0_nextKnot_n226 rfl rfl rfl (hN.1 21 _ rfl) (hts (.initialized RX0) (by decide +kernel)) (by decide +kernel) ⟨Nat.le_of_ble_eq_true rfl, Nat.le_of_ble_eq_true rfl⟩, hts (.instanceMethod yX0_nextKnot) (by decide +kernel), hts (.selects RX0 yX0_nextKnot yX0_nextKnot) (by decide +kernel)⟩ (kW_V hP hK hD hN (ci := 0) (q0 := 3) rfl rfl [3, 4, 5, 6, 7, 1, 2] rfl rfl rfl) rfl rfl hl.1 rfl (lv_room (Nat.le_of_ble_eq_true rfl)) dX6_search_152 ⟨Nat.zero_le _, Nat.zero_le _⟩) hP hS (fun H locs hP hS => ?_)
                    refine kCall (va_runVN (As := [.ref h0, .int (P_nextKnot K f bw cnt len sta)]) (rest := []) ⟨hx, hb, hml, hown, hts⟩ (k_X0_partnerOf l dC dI cI cN a0 a1 a2 a3 a4 isOn cnt len stp sta pm bm bw bars puts bap h0 h1 K f (P_nextKnot K f bw cnt len sta) (by first | assumption | omega | exact Int32.le_refl _ | decide)) ⟨va_cnB 2 hts gX6_search_X0_partnerOf_n229 rfl rfl rfl (hN.1 22 _ rfl) (hts (.initialized RX0) (by decide +kernel)) (by decide +kernel) ⟨Nat.le_of_ble_eq_true rfl, Nat.le_of_ble_eq_true rfl⟩, hts (.instanceMethod yX0_partnerOf) (by decide +kernel), hts (.selects RX0 yX0_partnerOf yX0_partnerOf) (by decide +kernel)⟩ (kW_V hP hK hD hN (ci := 0) (q0 := 3) rfl rfl [3, 4, 5, 6, 7, 1, 2] rfl rfl rfl) rfl rfl hl.1 rfl (lv_room (Nat.le_of_ble_eq_true rfl)) dX6_search_155 ⟨Nat.zero_le _, Nat.zero_le _⟩) hP hS (fun H locs hP hS => ?_)
                    have he := Sum.inl.inj (hr.trans (hρ.trans hok))
                    subst he
                    exact W.iret (v := P_partnerOf K f bw cnt len (P_nextKnot K f bw cnt len sta)) hx hb hr0 (fun t ht hW => kR_end rfl hS ht) hS.2.2 dX6_search_158
    · have hr := if_to hr c_2
      refine lv_iconst (v := (-1)) hx hb dX6_search_30 (by decide) ?_
      have he := Sum.inl.inj (hr.trans (hρ.trans hok))
      subst he
      exact W.iret (v := (-1)) hx hb hr0 (fun t ht hW => kR_end rfl hS ht) hS.2.2 dX6_search_31
  · have hr := if_to hr c_1
    cases hr.trans (hρ.trans hok)
theorem gfX6_search_1 : ∀ w ∈ (vx_atS RX6 70 (kCls 1) kNs).filter goodWord, w ∈ wsX6_search := fun w h => List.mem_cons_of_mem _ (List.mem_append_right _ h)
abbrev rx_X6_search : Room := { frames := 6, cells := 1, slots := 6, locals := 120 }
set_option maxHeartbeats 4000000 in
set_option maxRecDepth 100000 in
theorem e_X6_search (l : Launch) (hl9 : l.stackTraces = false) (dC : Nat → ClassId) (dI : Nat → Nat → Nat) (cI cN : ClassId) (s0 : Nat) (sc0 : Nat) (kp0 : Nat) (ta0 : Nat) (km : Int32) (rf : Int32) (q0 : Nat) (d0 : Nat) (c0 : Nat) (h0 : Nat) (h1 : Nat) (K : Nat) (f : Nat → Int32) (a0 : Nat) (a1 : Nat) (a2 : Nat) (a3 : Nat) (a4 : Nat) (isOn : Int32) (cnt : Int32) (len : Int32) (stp : Int32) (sta : Int32) (pm : Int32) (bm : Int32) (bw : Nat → Int32) (bars : Nat → Int32) (puts : Nat → Int32) (bap : Nat → Int32) (what : Int32) (hK : K ≤ 16) (kx : Nat) (hex : P_search K f bw isOn cnt len stp sta pm bm what = .inr kx) : vx_Met l yX6_search wsX6_search rx_X6_search (va_Pc [.ref s0, .int what] (kWE dC dI cI cN [(s0, .inr (5, [.ref h0, .ref sc0, .ref kp0, .ref a0, .ref q0, .ref d0, .ref c0, .ref ta0, .int km, .int rf])), (h0, .inr (3, [.ref h1, .int (nI K)])), (h1, .inl (cI, 16, .inl f)), (a0, .inr (0, [.ref a1, .ref a2, .ref a3, .ref a4, .int isOn, .int cnt, .int len, .int stp, .int sta, .int pm, .int bm])), (a1, .inl (cI, 16, .inl bw)), (a2, .inl (cI, 120, .inl bars)), (a3, .inl (cI, 40, .inl puts)), (a4, .inl (cI, 40, .inl bap))])) kNoi (kX kx) 1 6 (fun _ => False) := by
  refine vx_ofW (cc := cX6_search) (maxL := 2) (ret := (some .int)) (by decide) rfl ?_
  intro p e s m args below meth c s₁ B hml hxt hv
  obtain ⟨rfl, ⟨hP, hK, hD, hN⟩, hE⟩ := hv
  have hx := B.exec
  have hb := B.bytes
  have hr0 := B.returns
  have hts := atoms_spec (ws := wsX6_search) B.pre
  have hown : s.vm.findClass RX6 = some m.cls := findClass_of_methodNamed B.named
  have hlocks := B.notSynchronized
  have hS : va_S (fun _ => False) s.heap s.heap [] := va_S.rf
  have hl := lv_entry ([.ref s0, .int what]) (n := 2) (Nat.le_of_ble_eq_true rfl)
  rw [lg_entry_eq]
  generalize (lg_sl ([.ref s0, .int what]) ++ List.replicate (2 - (lg_sl ([.ref s0, .int what])).length) Slot.unset).toArray = ls at hl ⊢
  have hl : lv_has ls 2 [(0, .ref s0), (1, .int what)] := hl
  obtain ⟨ρ, hρ⟩ : ∃ ρ : Int32 ⊕ Nat, ρ = P_search K f bw isOn cnt len stp sta pm bm what := ⟨_, rfl⟩
  have hr : P_search K f bw isOn cnt len stp sta pm bm what = ρ := hρ.symm
  rewrite [P_search] at hr
  refine lv_iload_n hx hb dX6_search_0 rfl (lv_at hl 1 rfl) ?_
  refine lv_iconst (v := 0) hx hb dX6_search_1 (by decide) ?_
  refine lv_bipush (v := 7) hx hb dX6_search_2 (by decide) ?_
  refine kCall (va_runS (As := [.int what, .int 0, .int 7]) (rest := []) ⟨hx, hb, hml, hown, hts⟩ (k_X6_isWithin l dC dI cI cN what 0 7) (va_cwS 3 hts gX6_search_X6_isWithin rfl rfl rfl (by decide +kernel) ⟨Nat.le_of_ble_eq_true rfl, Nat.le_of_ble_eq_true rfl⟩) (kW_S hP hK hD hN [] rfl rfl rfl) rfl rfl hl.1 rfl (lv_room (Nat.le_of_ble_eq_true rfl)) dX6_search_4 ⟨Nat.zero_le _, Nat.zero_le _⟩) hP hS (fun H locs hP hS => ?_)
  refine lv_if_ne (tgt := 20) hx hb dX6_search_7 (by decide) (fun c_1 => ?_) (fun c_1 => ?_)
  · have hr := if_no hr c_1
    refine lv_aload_n hx hb dX6_search_20 rfl (lv_at hl 0 rfl) ?_
    refine va_get (D := (dC, dI)) (ci := 5) (v := .ref a0) (C := RX6) (T := TX6) (N := 10) hx hb hts (by decide +kernel) hown hK hP 0 rfl rfl 3 (by decide) (hts (.fieldLink RX6 26 "Shortring" "hunt" "LShortring$Hunt;") (by decide +kernel)) (fun _ h9 => h9) rfl dX6_search_21 ?_
    refine va_getN (D := (dC, dI)) (ci := 0) (v := .int isOn) (C := RX0) (T := TX0) (N := 11) hx hb hts (by decide +kernel) hown hK hP 3 rfl rfl 4 (by decide) (va_Nw.use rfl (hN.2 1 _ rfl)) (fun _ h9 => h9) rfl dX6_search_24 ?_
    refine lv_if_ne (tgt := 32) hx hb dX6_search_27 (by decide) (fun c_2 => ?_) (fun c_2 => ?_)
    · have hr := if_no hr c_2
      refine lv_iload_n hx hb dX6_search_32 rfl (lv_at hl 1 rfl) ?_
      by_cases c_3 : what = (0 : Int32)
      · have hr := if_to hr c_3
        refine lv_tableIn (off := 43) (tgt := 76) hx hb dX6_search_33 (by rw [c_3]; decide) (by rw [c_3]; decide) (by rw [c_3]; decide) (by decide) ?_
        refine lv_aload_n hx hb dX6_search_76 rfl (lv_at hl 0 rfl) ?_
        refine va_get (D := (dC, dI)) (ci := 5) (v := .ref a0) (C := RX6) (T := TX6) (N := 10) hx hb hts (by decide +kernel) hown hK hP 0 rfl rfl 3 (by decide) (hts (.fieldLink RX6 26 "Shortring" "hunt" "LShortring$Hunt;") (by decide +kernel)) (fun _ h9 => h9) rfl dX6_search_77 ?_
        refine va_getN (D := (dC, dI)) (ci := 0) (v := .int cnt) (C := RX0) (T := TX0) (N := 11) hx hb hts (by decide +kernel) hown hK hP 3 rfl rfl 5 (by decide) (va_Nw.use rfl (hN.2 3 _ rfl)) (fun _ h9 => h9) rfl dX6_search_80 ?_
        cases hr.trans (hρ.trans hex)
      · have hr := if_no hr c_3
        by_cases c_4 : what = (1 : Int32)
        · have hr := if_to hr c_4
          refine lv_tableIn (off := 51) (tgt := 84) hx hb dX6_search_33 (by rw [c_4]; decide) (by rw [c_4]; decide) (by rw [c_4]; decide) (by decide) ?_
          refine lv_aload_n hx hb dX6_search_84 rfl (lv_at hl 0 rfl) ?_
          refine va_get (D := (dC, dI)) (ci := 5) (v := .ref a0) (C := RX6) (T := TX6) (N := 10) hx hb hts (by decide +kernel) hown hK hP 0 rfl rfl 3 (by decide) (hts (.fieldLink RX6 26 "Shortring" "hunt" "LShortring$Hunt;") (by decide +kernel)) (fun _ h9 => h9) rfl dX6_search_85 ?_
          refine va_getN (D := (dC, dI)) (ci := 0) (v := .int len) (C := RX0) (T := TX0) (N := 11) hx hb hts (by decide +kernel) hown hK hP 3 rfl rfl 6 (by decide) (va_Nw.use rfl (hN.2 4 _ rfl)) (fun _ h9 => h9) rfl dX6_search_88 ?_
          cases hr.trans (hρ.trans hex)
        · have hr := if_no hr c_4
          by_cases c_5 : what = (2 : Int32)
          · have hr := if_to hr c_5
            refine lv_tableIn (off := 59) (tgt := 92) hx hb dX6_search_33 (by rw [c_5]; decide) (by rw [c_5]; decide) (by rw [c_5]; decide) (by decide) ?_
            refine lv_aload_n hx hb dX6_search_92 rfl (lv_at hl 0 rfl) ?_
            refine va_get (D := (dC, dI)) (ci := 5) (v := .ref a0) (C := RX6) (T := TX6) (N := 10) hx hb hts (by decide +kernel) hown hK hP 0 rfl rfl 3 (by decide) (hts (.fieldLink RX6 26 "Shortring" "hunt" "LShortring$Hunt;") (by decide +kernel)) (fun _ h9 => h9) rfl dX6_search_93 ?_
            refine va_getN (D := (dC, dI)) (ci := 0) (v := .int pm) (C := RX0) (T := TX0) (N := 11) hx hb hts (by decide +kernel) hown hK hP 3 rfl rfl 9 (by decide) (va_Nw.use rfl (hN.2 5 _ rfl)) (fun _ h9 => h9) rfl dX6_search_96 ?_
            cases hr.trans (hρ.trans hex)
          · have hr := if_no hr c_5
            by_cases c_6 : what = (3 : Int32)
            · have hr := if_to hr c_6
              refine lv_tableIn (off := 67) (tgt := 100) hx hb dX6_search_33 (by rw [c_6]; decide) (by rw [c_6]; decide) (by rw [c_6]; decide) (by decide) ?_
              refine lv_aload_n hx hb dX6_search_100 rfl (lv_at hl 0 rfl) ?_
              refine va_get (D := (dC, dI)) (ci := 5) (v := .ref a0) (C := RX6) (T := TX6) (N := 10) hx hb hts (by decide +kernel) hown hK hP 0 rfl rfl 3 (by decide) (hts (.fieldLink RX6 26 "Shortring" "hunt" "LShortring$Hunt;") (by decide +kernel)) (fun _ h9 => h9) rfl dX6_search_101 ?_
              refine va_getN (D := (dC, dI)) (ci := 0) (v := .int bm) (C := RX0) (T := TX0) (N := 11) hx hb hts (by decide +kernel) hown hK hP 3 rfl rfl 10 (by decide) (va_Nw.use rfl (hN.2 6 _ rfl)) (fun _ h9 => h9) rfl dX6_search_104 ?_
              cases hr.trans (hρ.trans hex)
            · have hr := if_no hr c_6
              by_cases c_7 : what = (4 : Int32)
              · have hr := if_to hr c_7
                refine lv_tableIn (off := 75) (tgt := 108) hx hb dX6_search_33 (by rw [c_7]; decide) (by rw [c_7]; decide) (by rw [c_7]; decide) (by decide) ?_
                refine lv_aload_n hx hb dX6_search_108 rfl (lv_at hl 0 rfl) ?_
                refine va_get (D := (dC, dI)) (ci := 5) (v := .ref a0) (C := RX6) (T := TX6) (N := 10) hx hb hts (by decide +kernel) hown hK hP 0 rfl rfl 3 (by decide) (hts (.fieldLink RX6 26 "Shortring" "hunt" "LShortring$Hunt;") (by decide +kernel)) (fun _ h9 => h9) rfl dX6_search_109 ?_
                refine va_getN (D := (dC, dI)) (ci := 0) (v := .int stp) (C := RX0) (T := TX0) (N := 11) hx hb hts (by decide +kernel) hown hK hP 3 rfl rfl 7 (by decide) (va_Nw.use rfl (hN.2 7 _ rfl)) (fun _ h9 => h9) rfl dX6_search_112 ?_
                cases hr.trans (hρ.trans hex)
              · have hr := if_no hr c_7
                by_cases c_8 : what = (5 : Int32)
                · have hr := if_to hr c_8
                  refine lv_tableIn (off := 83) (tgt := 116) hx hb dX6_search_33 (by rw [c_8]; decide) (by rw [c_8]; decide) (by rw [c_8]; decide) (by decide) ?_
                  refine lv_aload_n hx hb dX6_search_116 rfl (lv_at hl 0 rfl) ?_
                  refine va_get (D := (dC, dI)) (ci := 5) (v := .ref a0) (C := RX6) (T := TX6) (N := 10) hx hb hts (by decide +kernel) hown hK hP 0 rfl rfl 3 (by decide) (hts (.fieldLink RX6 26 "Shortring" "hunt" "LShortring$Hunt;") (by decide +kernel)) (fun _ h9 => h9) rfl dX6_search_117 ?_
                  refine va_getN (D := (dC, dI)) (ci := 0) (v := .int sta) (C := RX0) (T := TX0) (N := 11) hx hb hts (by decide +kernel) hown hK hP 3 rfl rfl 8 (by decide) (va_Nw.use rfl (hN.2 2 _ rfl)) (fun _ h9 => h9) rfl dX6_search_120 ?_
                  cases hr.trans (hρ.trans hex)
                · have hr := if_no hr c_8
                  by_cases c_9 : what = (6 : Int32)
                  · have hr := if_to hr c_9
                    refine lv_tableIn (off := 91) (tgt := 124) hx hb dX6_search_33 (by rw [c_9]; decide) (by rw [c_9]; decide) (by rw [c_9]; decide) (by decide) ?_
                    refine lv_aload_n hx hb dX6_search_124 rfl (lv_at hl 0 rfl) ?_
                    refine va_get (D := (dC, dI)) (ci := 5) (v := .ref a0) (C := RX6) (T := TX6) (N := 10) hx hb hts (by decide +kernel) hown hK hP 0 rfl rfl 3 (by decide) (hts (.fieldLink RX6 26 "Shortring" "hunt" "LShortring$Hunt;") (by decide +kernel)) (fun _ h9 => h9) rfl dX6_search_125 ?_
                    refine lv_aload_n hx hb dX6_search_128 rfl (lv_at hl 0 rfl) ?_
                    refine va_get (D := (dC, dI)) (ci := 5) (v := .ref h0) (C := RX6) (T := TX6) (N := 10) hx hb hts (by decide +kernel) hown hK hP 0 rfl rfl 0 (by decide) (hts (.fieldLink RX6 12 "Shortring" "net" "LShortring$Net;") (by decide +kernel)) (fun _ h9 => h9) rfl dX6_search_129 ?_
                    refine kCall (va_runVN (As := [.ref h0]) (rest := []) ⟨hx, hb, hml, hown, hts⟩ (k_X0_nextKnot l dC dI cI cN a0 a1 a2 a3 a4 isOn cnt len stp sta pm bm bw bars puts bap h0 h1 K f (by first | assumption | omega | exact Int32.le_refl _ | decide)) ⟨va_cnB 1 hts gX6_search_X0_nextKnot_n226 rfl rfl rfl (hN.1 21 _ rfl) (hts (.initialized RX0) (by decide +kernel)) (by decide +kernel) ⟨Nat.le_of_ble_eq_true rfl, Nat.le_of_ble_eq_true rfl⟩, hts (.instanceMethod yX0_nextKnot) (by decide +kernel), hts (.selects RX0 yX0_nextKnot yX0_nextKnot) (by decide +kernel)⟩ (kW_V hP hK hD hN (ci := 0) (q0 := 3) rfl rfl [3, 4, 5, 6, 7, 1, 2] rfl rfl rfl) rfl rfl hl.1 rfl (lv_room (Nat.le_of_ble_eq_true rfl)) dX6_search_132 ⟨Nat.zero_le _, Nat.zero_le _⟩) hP hS (fun H locs hP hS => ?_)
                    cases hr.trans (hρ.trans hex)
                  · have hr := if_no hr c_9
                    refine lv_tableOut (tgt := 136) hx hb dX6_search_33 (by have z0 := lv_neT c_3 (show (0 : Int32).toInt = 0 from by decide); have z1 := lv_neT c_4 (show (1 : Int32).toInt = 1 from by decide); have z2 := lv_neT c_5 (show (2 : Int32).toInt = 2 from by decide); have z3 := lv_neT c_6 (show (3 : Int32).toInt = 3 from by decide); have z4 := lv_neT c_7 (show (4 : Int32).toInt = 4 from by decide); have z5 := lv_neT c_8 (show (5 : Int32).toInt = 5 from by decide); have z6 := lv_neT c_9 (show (6 : Int32).toInt = 6 from by decide); omega) (by decide) ?_
                    refine lv_aload_n hx hb dX6_search_136 rfl (lv_at hl 0 rfl) ?_
                    refine va_get (D := (dC, dI)) (ci := 5) (v := .ref a0) (C := RX6) (T := TX6) (N := 10) hx hb hts (by decide +kernel) hown hK hP 0 rfl rfl 3 (by decide) (hts (.fieldLink RX6 26 "Shortring" "hunt" "LShortring$Hunt;") (by decide +kernel)) (fun _ h9 => h9) rfl dX6_search_137 ?_
                    refine lv_aload_n hx hb dX6_search_140 rfl (lv_at hl 0 rfl) ?_
                    refine va_get (D := (dC, dI)) (ci := 5) (v := .ref h0) (C := RX6) (T := TX6) (N := 10) hx hb hts (by decide +kernel) hown hK hP 0 rfl rfl 0 (by decide) (hts (.fieldLink RX6 12 "Shortring" "net" "LShortring$Net;") (by decide +kernel)) (fun _ h9 => h9) rfl dX6_search_141 ?_
                    refine lv_aload_n hx hb dX6_search_144 rfl (lv_at hl 0 rfl) ?_
                    refine va_get (D := (dC, dI)) (ci := 5) (v := .ref a0) (C := RX6) (T := TX6) (N := 10) hx hb hts (by decide +kernel) hown hK hP 0 rfl rfl 3 (by decide) (hts (.fieldLink RX6 26 "Shortring" "hunt" "LShortring$Hunt;") (by decide +kernel)) (fun _ h9 => h9) rfl dX6_search_145 ?_
                    refine lv_aload_n hx hb dX6_search_148 rfl (lv_at hl 0 rfl) ?_
                    refine va_get (D := (dC, dI)) (ci := 5) (v := .ref h0) (C := RX6) (T := TX6) (N := 10) hx hb hts (by decide +kernel) hown hK hP 0 rfl rfl 0 (by decide) (hts (.fieldLink RX6 12 "Shortring" "net" "LShortring$Net;") (by decide +kernel)) (fun _ h9 => h9) rfl dX6_search_149 ?_
                    refine kCall (va_runVN (As := [.ref h0]) (rest := [.ref h0, .ref a0]) ⟨hx, hb, hml, hown, hts⟩ (k_X0_nextKnot l dC dI cI cN a0 a1 a2 a3 a4 isOn cnt len stp sta pm bm bw bars puts bap h0 h1 K f (by first | assumption | omega | exact Int32.le_refl _ | decide)) ⟨va_cnB 1 hts gX6_search_X0_nextKnot_n226 rfl rfl rfl (hN.1 21 _ rfl) (hts (.initialized RX0) (by decide +kernel)) (by decide +kernel) ⟨Nat.le_of_ble_eq_true rfl, Nat.le_of_ble_eq_true rfl⟩, hts (.instanceMethod yX0_nextKnot) (by decide +kernel), hts (.selects RX0 yX0_nextKnot yX0_nextKnot) (by decide +kernel)⟩ (kW_V hP hK hD hN (ci := 0) (q0 := 3) rfl rfl [3, 4, 5, 6, 7, 1, 2] rfl rfl rfl) rfl rfl hl.1 rfl (lv_room (Nat.le_of_ble_eq_true rfl)) dX6_search_152 ⟨Nat.zero_le _, Nat.zero_le _⟩) hP hS (fun H locs hP hS => ?_)
                    refine kCall (va_runVN (As := [.ref h0, .int (P_nextKnot K f bw cnt len sta)]) (rest := []) ⟨hx, hb, hml, hown, hts⟩ (k_X0_partnerOf l dC dI cI cN a0 a1 a2 a3 a4 isOn cnt len stp sta pm bm bw bars puts bap h0 h1 K f (P_nextKnot K f bw cnt len sta) (by first | assumption | omega | exact Int32.le_refl _ | decide)) ⟨va_cnB 2 hts gX6_search_X0_partnerOf_n229 rfl rfl rfl (hN.1 22 _ rfl) (hts (.initialized RX0) (by decide +kernel)) (by decide +kernel) ⟨Nat.le_of_ble_eq_true rfl, Nat.le_of_ble_eq_true rfl⟩, hts (.instanceMethod yX0_partnerOf) (by decide +kernel), hts (.selects RX0 yX0_partnerOf yX0_partnerOf) (by decide +kernel)⟩ (kW_V hP hK hD hN (ci := 0) (q0 := 3) rfl rfl [3, 4, 5, 6, 7, 1, 2] rfl rfl rfl) rfl rfl hl.1 rfl (lv_room (Nat.le_of_ble_eq_true rfl)) dX6_search_155 ⟨Nat.zero_le _, Nat.zero_le _⟩) hP hS (fun H locs hP hS => ?_)
                    cases hr.trans (hρ.trans hex)
    · have hr := if_to hr c_2
      refine lv_iconst (v := (-1)) hx hb dX6_search_30 (by decide) ?_
      cases hr.trans (hρ.trans hex)
  · have hr := if_to hr c_1
    exact kThrowS hx hb hl9 hown 1 (ik := 66) (is := 215) (ic := 70) (Sum.inr.inj (hr.trans (hρ.trans hex))) (by decide +kernel) (hts (.classLink RX6 66 "java/lang/IllegalArgumentException") (by decide +kernel)) (hts (.initialized "java/lang/IllegalArgumentException") (by decide +kernel)) 15 rfl (fun w h => hts w (gfX6_search_1 w h)) kBad1 (kHg kOt1) hE hS (hl.1.trans hml.symm) dX6_search_10 dX6_search_13 dX6_search_14 dX6_search_16 dX6_search_19 hxt (Nat.le_of_ble_eq_true rfl) (Nat.le_of_ble_eq_true rfl) (Nat.le_of_ble_eq_true rfl) (Nat.le_of_ble_eq_true rfl) hlocks
