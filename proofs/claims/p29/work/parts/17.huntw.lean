/-! the hunt that is changed (printed by wip/gen) -/
def P_flipBar (bw : Nat → Int32) (one : Int32) (other : Int32) : Nat → Int32 :=
  if one < 0 then
    bw
  else
    if (16 : Int32) ≤ one then
      bw
    else
      if other < 0 then
        bw
      else
        if (16 : Int32) ≤ other then
          bw
        else
          bd (upd bw (one).toNatClampNeg ((bw (one).toNatClampNeg) ^^^ (P_bit other))) (fun bw_5 =>
            bd (upd bw_5 (other).toNatClampNeg ((bw_5 (other).toNatClampNeg) ^^^ (P_bit one))) (fun bw_6 =>
              bw_6))
abbrev rm_X0_flipBar : Room := { frames := 1, cells := 0, slots := 0, locals := 20 }
set_option maxHeartbeats 4000000 in
set_option maxRecDepth 100000 in
theorem k_X0_flipBar (l : Launch) (dC : Nat → ClassId) (dI : Nat → Nat → Nat) (cI cN : ClassId) (a0 : Nat) (a1 : Nat) (a2 : Nat) (a3 : Nat) (a4 : Nat) (isOn : Int32) (cnt : Int32) (len : Int32) (stp : Int32) (sta : Int32) (pm : Int32) (bm : Int32) (bw : Nat → Int32) (one : Int32) (other : Int32) (sz : Nat) : Met l yX0_flipBar wsX0_flipBar rm_X0_flipBar (va_Pc [.ref a0, .int one, .int other] (kU dC dI cI cN [(a0, .inr (0, [.ref a1, .ref a2, .ref a3, .ref a4, .int isOn, .int cnt, .int len, .int stp, .int sta, .int pm, .int bm])), (a1, .inl (cI, 16, .inl bw))] sz)) (kV dC dI [(a0, .inr (0, [.ref a1, .ref a2, .ref a3, .ref a4, .int isOn, .int cnt, .int len, .int stp, .int sta, .int pm, .int bm])), (a1, .inl (cI, 16, .inl ((P_flipBar bw one other))))] (va_A [(a0, .inr (0, [.ref a1, .ref a2, .ref a3, .ref a4, .int isOn, .int cnt, .int len, .int stp, .int sta, .int pm, .int bm])), (a1, .inl (cI, 16, .inl bw))] sz)) 0 0 (va_A [(a0, .inr (0, [.ref a1, .ref a2, .ref a3, .ref a4, .int isOn, .int cnt, .int len, .int stp, .int sta, .int pm, .int bm])), (a1, .inl (cI, 16, .inl bw))] sz) := by
  refine Met.ofW (cc := cX0_flipBar) (maxL := 3) (ret := none) (by decide) rfl ?_
  intro p e s m args below meth c s₁ B hml hv
  obtain ⟨rfl, hsz, hP, hK, hD0, hN⟩ := hv
  have hx := B.exec
  have hb := B.bytes
  have hr0 := B.returns
  have hts := atoms_spec (ws := wsX0_flipBar) B.pre
  have hown : s.vm.findClass RX0 = some m.cls := findClass_of_methodNamed B.named
  have hlocks := B.notSynchronized
  subst hsz
  have hD := hD0.self (sz := s.heap.size)
  generalize hAe : va_A [(a0, .inr (0, [.ref a1, .ref a2, .ref a3, .ref a4, .int isOn, .int cnt, .int len, .int stp, .int sta, .int pm, .int bm])), (a1, .inl (cI, 16, .inl bw))] s.heap.size = A at hD ⊢
  have hA : ∀ q : Nat, s.heap.size ≤ q → A q := fun q h => by rw [← hAe]; exact Or.inr h
  have hS : va_S A s.heap s.heap [] := va_S.rf
  have hl := lv_entry ([.ref a0, .int one, .int other]) (n := 3) (Nat.le_of_ble_eq_true rfl)
  rw [lg_entry_eq]
  generalize (lg_sl ([.ref a0, .int one, .int other]) ++ List.replicate (3 - (lg_sl ([.ref a0, .int one, .int other])).length) Slot.unset).toArray = ls at hl ⊢
  have hl : lv_has ls 3 [(0, .ref a0), (1, .int one), (2, .int other)] := hl
  obtain ⟨ρ, hρ⟩ : ∃ ρ : Nat → Int32, ρ = P_flipBar bw one other := ⟨_, rfl⟩
  have hr : P_flipBar bw one other = ρ := hρ.symm
  rewrite [P_flipBar] at hr
  refine lv_iload_n hx hb dX0_flipBar_0 rfl (lv_at hl 1 rfl) ?_
  refine lv_if_lt (tgt := 52) hx hb dX0_flipBar_1 (by decide) (fun c_1 => ?_) (fun c_1 => ?_)
  · have hr := if_to hr c_1
    have he := hr.trans hρ
    exact W.vret hx hb hr0 (fun t ht hW => kV_end (by rw [← he]; exact hP) hS ht) hS.2.2 dX0_flipBar_52
  · have hr := if_no hr c_1
    refine lv_iload_n hx hb dX0_flipBar_4 rfl (lv_at hl 1 rfl) ?_
    refine lv_aload_n hx hb dX0_flipBar_5 rfl (lv_at hl 0 rfl) ?_
    refine va_get (D := (dC, dI)) (ci := 0) (v := .ref a1) (C := RX0) (T := TX0) (N := 11) hx hb hts (by decide +kernel) hown hK hP 0 rfl rfl 0 (by decide) (hts (.fieldLink RX0 9 "Shortring$Hunt" "barredWith" "[I") (by decide +kernel)) (fun _ h9 => h9) rfl dX0_flipBar_6 ?_
    refine va_alen (v := 16) hx hb hK hP 1 0 rfl rfl rfl dX0_flipBar_9 ?_
    refine lv_icmp_ge (tgt := 52) hx hb dX0_flipBar_10 (by decide) (fun c_2 => ?_) (fun c_2 => ?_)
    · have hr := if_to hr c_2
      have he := hr.trans hρ
      exact W.vret hx hb hr0 (fun t ht hW => kV_end (by rw [← he]; exact hP) hS ht) hS.2.2 dX0_flipBar_52
    · have hr := if_no hr c_2
      refine lv_iload_n hx hb dX0_flipBar_13 rfl (lv_at hl 2 rfl) ?_
      refine lv_if_lt (tgt := 52) hx hb dX0_flipBar_14 (by decide) (fun c_3 => ?_) (fun c_3 => ?_)
      · have hr := if_to hr c_3
        have he := hr.trans hρ
        exact W.vret hx hb hr0 (fun t ht hW => kV_end (by rw [← he]; exact hP) hS ht) hS.2.2 dX0_flipBar_52
      · have hr := if_no hr c_3
        refine lv_iload_n hx hb dX0_flipBar_17 rfl (lv_at hl 2 rfl) ?_
        refine lv_aload_n hx hb dX0_flipBar_18 rfl (lv_at hl 0 rfl) ?_
        refine va_get (D := (dC, dI)) (ci := 0) (v := .ref a1) (C := RX0) (T := TX0) (N := 11) hx hb hts (by decide +kernel) hown hK hP 0 rfl rfl 0 (by decide) (hts (.fieldLink RX0 9 "Shortring$Hunt" "barredWith" "[I") (by decide +kernel)) (fun _ h9 => h9) rfl dX0_flipBar_19 ?_
        refine va_alen (v := 16) hx hb hK hP 1 0 rfl rfl rfl dX0_flipBar_22 ?_
        refine lv_icmp_ge (tgt := 52) hx hb dX0_flipBar_23 (by decide) (fun c_4 => ?_) (fun c_4 => ?_)
        · have hr := if_to hr c_4
          have he := hr.trans hρ
          exact W.vret hx hb hr0 (fun t ht hW => kV_end (by rw [← he]; exact hP) hS ht) hS.2.2 dX0_flipBar_52
        · have hr := if_no hr c_4
          refine lv_aload_n hx hb dX0_flipBar_26 rfl (lv_at hl 0 rfl) ?_
          refine va_get (D := (dC, dI)) (ci := 0) (v := .ref a1) (C := RX0) (T := TX0) (N := 11) hx hb hts (by decide +kernel) hown hK hP 0 rfl rfl 0 (by decide) (hts (.fieldLink RX0 9 "Shortring$Hunt" "barredWith" "[I") (by decide +kernel)) (fun _ h9 => h9) rfl dX0_flipBar_27 ?_
          refine lv_iload_n hx hb dX0_flipBar_30 rfl (lv_at hl 1 rfl) ?_
          refine lv_dup2_11 hx hb dX0_flipBar_31 rfl rfl ?_
          refine va_iald hx hb hK hP 1 0 rfl rfl (kIn (N := 16) (by decide) (by assumption) (by assumption)) dX0_flipBar_32 ?_
          refine lv_iload_n hx hb dX0_flipBar_33 rfl (lv_at hl 2 rfl) ?_
          refine kCall (va_runSN (As := [.int other]) (rest := [.int (bw (one).toNatClampNeg), .int one, .ref a1]) ⟨hx, hb, hml, hown, hts⟩ (k_X6_bit l dC dI cI cN other) ⟨va_cnB 1 hts gX0_flipBar_X6_bit_n93 rfl rfl rfl (hN.1 46 _ rfl) (hts (.initialized RX6) (by decide +kernel)) (by decide +kernel) ⟨Nat.le_of_ble_eq_true rfl, Nat.le_of_ble_eq_true rfl⟩, hts (.static yX6_bit) (by decide +kernel), trivial⟩ (kW_S hP hK hD hN [] rfl rfl rfl) rfl rfl hl.1 rfl (lv_room (Nat.le_of_ble_eq_true rfl)) dX0_flipBar_34 ⟨Nat.zero_le _, Nat.zero_le _⟩) hP hS (fun H locs hP hS => ?_)
          refine lv_ixor hx hb dX0_flipBar_37 ?_
          refine va_iast hx hb hK hP hD hS 1 0 rfl rfl (kIn (N := 16) (by decide) (by assumption) (by assumption)) dX0_flipBar_38 (fun H locs hP hD hS => ?_)
          have hP : va_P (dC, dI) kCl [(a0, .inr (0, [.ref a1, .ref a2, .ref a3, .ref a4, .int isOn, .int cnt, .int len, .int stp, .int sta, .int pm, .int bm])), (a1, .inl (cI, 16, .inl (upd bw (one).toNatClampNeg ((bw (one).toNatClampNeg) ^^^ (P_bit other)))))] H := hP
          have hD : va_D A [(a0, .inr (0, [.ref a1, .ref a2, .ref a3, .ref a4, .int isOn, .int cnt, .int len, .int stp, .int sta, .int pm, .int bm])), (a1, .inl (cI, 16, .inl (upd bw (one).toNatClampNeg ((bw (one).toNatClampNeg) ^^^ (P_bit other)))))] := hD
          obtain ⟨bw_5, ebw_5⟩ : ∃ y : Nat → Int32, y = upd bw (one).toNatClampNeg ((bw (one).toNatClampNeg) ^^^ (P_bit other)) := ⟨_, rfl⟩
          rw [← ebw_5] at hP hD
          have hr := bd_to hr ebw_5
          refine lv_aload_n hx hb dX0_flipBar_39 rfl (lv_at hl 0 rfl) ?_
          refine va_get (D := (dC, dI)) (ci := 0) (v := .ref a1) (C := RX0) (T := TX0) (N := 11) hx hb hts (by decide +kernel) hown hK hP 0 rfl rfl 0 (by decide) (hts (.fieldLink RX0 9 "Shortring$Hunt" "barredWith" "[I") (by decide +kernel)) (fun _ h9 => h9) rfl dX0_flipBar_40 ?_
          refine lv_iload_n hx hb dX0_flipBar_43 rfl (lv_at hl 2 rfl) ?_
          refine lv_dup2_11 hx hb dX0_flipBar_44 rfl rfl ?_
          refine va_iald hx hb hK hP 1 0 rfl rfl (kIn (N := 16) (by decide) (by assumption) (by assumption)) dX0_flipBar_45 ?_
          refine lv_iload_n hx hb dX0_flipBar_46 rfl (lv_at hl 1 rfl) ?_
          refine kCall (va_runSN (As := [.int one]) (rest := [.int (bw_5 (other).toNatClampNeg), .int other, .ref a1]) ⟨hx, hb, hml, hown, hts⟩ (k_X6_bit l dC dI cI cN one) ⟨va_cnB 1 hts gX0_flipBar_X6_bit_n93 rfl rfl rfl (hN.1 46 _ rfl) (hts (.initialized RX6) (by decide +kernel)) (by decide +kernel) ⟨Nat.le_of_ble_eq_true rfl, Nat.le_of_ble_eq_true rfl⟩, hts (.static yX6_bit) (by decide +kernel), trivial⟩ (kW_S hP hK hD hN [] rfl rfl rfl) rfl rfl hl.1 rfl (lv_room (Nat.le_of_ble_eq_true rfl)) dX0_flipBar_47 ⟨Nat.zero_le _, Nat.zero_le _⟩) hP hS (fun H locs hP hS => ?_)
          refine lv_ixor hx hb dX0_flipBar_50 ?_
          refine va_iast hx hb hK hP hD hS 1 0 rfl rfl (kIn (N := 16) (by decide) (by assumption) (by assumption)) dX0_flipBar_51 (fun H locs hP hD hS => ?_)
          have hP : va_P (dC, dI) kCl [(a0, .inr (0, [.ref a1, .ref a2, .ref a3, .ref a4, .int isOn, .int cnt, .int len, .int stp, .int sta, .int pm, .int bm])), (a1, .inl (cI, 16, .inl (upd bw_5 (other).toNatClampNeg ((bw_5 (other).toNatClampNeg) ^^^ (P_bit one)))))] H := hP
          have hD : va_D A [(a0, .inr (0, [.ref a1, .ref a2, .ref a3, .ref a4, .int isOn, .int cnt, .int len, .int stp, .int sta, .int pm, .int bm])), (a1, .inl (cI, 16, .inl (upd bw_5 (other).toNatClampNeg ((bw_5 (other).toNatClampNeg) ^^^ (P_bit one)))))] := hD
          obtain ⟨bw_6, ebw_6⟩ : ∃ y : Nat → Int32, y = upd bw_5 (other).toNatClampNeg ((bw_5 (other).toNatClampNeg) ^^^ (P_bit one)) := ⟨_, rfl⟩
          rw [← ebw_6] at hP hD
          have hr := bd_to hr ebw_6
          have he := hr.trans hρ
          exact W.vret hx hb hr0 (fun t ht hW => kV_end (by rw [← he]; exact hP) hS ht) hS.2.2 dX0_flipBar_52
def P_bar (bw : Nat → Int32) (bars : Nat → Int32) (bm : Int32) (pair : Int32) : (Nat → Int32) × (Nat → Int32) × Int32 :=
  if bm < 0 then
    (bw, bars, bm)
  else
    if (120 : Int32) ≤ bm then
      (bw, bars, bm)
    else
      bd (P_flipBar bw (P_oneOf pair) (P_otherOf pair)) (fun r_3 =>
        (r_3, upd bars (bm).toNatClampNeg pair, bm + (1 : Int32)))
abbrev rm_X0_bar : Room := { frames := 2, cells := 0, slots := 0, locals := 42 }
set_option maxHeartbeats 4000000 in
set_option maxRecDepth 100000 in
theorem k_X0_bar (l : Launch) (dC : Nat → ClassId) (dI : Nat → Nat → Nat) (cI cN : ClassId) (a0 : Nat) (a1 : Nat) (a2 : Nat) (a3 : Nat) (a4 : Nat) (isOn : Int32) (cnt : Int32) (len : Int32) (stp : Int32) (sta : Int32) (pm : Int32) (bm : Int32) (bw : Nat → Int32) (bars : Nat → Int32) (puts : Nat → Int32) (bap : Nat → Int32) (pair : Int32) (sz : Nat) : Met l yX0_bar wsX0_bar rm_X0_bar (va_Pc [.ref a0, .int pair] (kU dC dI cI cN [(a0, .inr (0, [.ref a1, .ref a2, .ref a3, .ref a4, .int isOn, .int cnt, .int len, .int stp, .int sta, .int pm, .int bm])), (a1, .inl (cI, 16, .inl bw)), (a2, .inl (cI, 120, .inl bars)), (a3, .inl (cI, 40, .inl puts)), (a4, .inl (cI, 40, .inl bap))] sz)) (kV dC dI [(a0, .inr (0, [.ref a1, .ref a2, .ref a3, .ref a4, .int isOn, .int cnt, .int len, .int stp, .int sta, .int pm, .int ((P_bar bw bars bm pair).2.2)])), (a1, .inl (cI, 16, .inl ((P_bar bw bars bm pair).1))), (a2, .inl (cI, 120, .inl ((P_bar bw bars bm pair).2.1))), (a3, .inl (cI, 40, .inl puts)), (a4, .inl (cI, 40, .inl bap))] (va_A [(a0, .inr (0, [.ref a1, .ref a2, .ref a3, .ref a4, .int isOn, .int cnt, .int len, .int stp, .int sta, .int pm, .int bm])), (a1, .inl (cI, 16, .inl bw)), (a2, .inl (cI, 120, .inl bars)), (a3, .inl (cI, 40, .inl puts)), (a4, .inl (cI, 40, .inl bap))] sz)) 0 0 (va_A [(a0, .inr (0, [.ref a1, .ref a2, .ref a3, .ref a4, .int isOn, .int cnt, .int len, .int stp, .int sta, .int pm, .int bm])), (a1, .inl (cI, 16, .inl bw)), (a2, .inl (cI, 120, .inl bars)), (a3, .inl (cI, 40, .inl puts)), (a4, .inl (cI, 40, .inl bap))] sz) := by
  refine Met.ofW (cc := cX0_bar) (maxL := 2) (ret := none) (by decide) rfl ?_
  intro p e s m args below meth c s₁ B hml hv
  obtain ⟨rfl, hsz, hP, hK, hD0, hN⟩ := hv
  have hx := B.exec
  have hb := B.bytes
  have hr0 := B.returns
  have hts := atoms_spec (ws := wsX0_bar) B.pre
  have hown : s.vm.findClass RX0 = some m.cls := findClass_of_methodNamed B.named
  have hlocks := B.notSynchronized
  subst hsz
  have hD := hD0.self (sz := s.heap.size)
  generalize hAe : va_A [(a0, .inr (0, [.ref a1, .ref a2, .ref a3, .ref a4, .int isOn, .int cnt, .int len, .int stp, .int sta, .int pm, .int bm])), (a1, .inl (cI, 16, .inl bw)), (a2, .inl (cI, 120, .inl bars)), (a3, .inl (cI, 40, .inl puts)), (a4, .inl (cI, 40, .inl bap))] s.heap.size = A at hD ⊢
  have hA : ∀ q : Nat, s.heap.size ≤ q → A q := fun q h => by rw [← hAe]; exact Or.inr h
  have hS : va_S A s.heap s.heap [] := va_S.rf
  have hl := lv_entry ([.ref a0, .int pair]) (n := 2) (Nat.le_of_ble_eq_true rfl)
  rw [lg_entry_eq]
  generalize (lg_sl ([.ref a0, .int pair]) ++ List.replicate (2 - (lg_sl ([.ref a0, .int pair])).length) Slot.unset).toArray = ls at hl ⊢
  have hl : lv_has ls 2 [(0, .ref a0), (1, .int pair)] := hl
  obtain ⟨ρ, hρ⟩ : ∃ ρ : (Nat → Int32) × (Nat → Int32) × Int32, ρ = P_bar bw bars bm pair := ⟨_, rfl⟩
  have hr : P_bar bw bars bm pair = ρ := hρ.symm
  rewrite [P_bar] at hr
  refine lv_aload_n hx hb dX0_bar_0 rfl (lv_at hl 0 rfl) ?_
  refine va_get (D := (dC, dI)) (ci := 0) (v := .int bm) (C := RX0) (T := TX0) (N := 11) hx hb hts (by decide +kernel) hown hK hP 0 rfl rfl 10 (by decide) (hts (.fieldLink RX0 68 "Shortring$Hunt" "barMany" "I") (by decide +kernel)) (fun _ h9 => h9) rfl dX0_bar_1 ?_
  refine lv_if_lt (tgt := 51) hx hb dX0_bar_4 (by decide) (fun c_1 => ?_) (fun c_1 => ?_)
  · have hr := if_to hr c_1
    have he := hr.trans hρ
    exact W.vret hx hb hr0 (fun t ht hW => kV_end (by rw [← he]; exact hP) hS ht) hS.2.2 dX0_bar_51
  · have hr := if_no hr c_1
    refine lv_aload_n hx hb dX0_bar_7 rfl (lv_at hl 0 rfl) ?_
    refine va_get (D := (dC, dI)) (ci := 0) (v := .int bm) (C := RX0) (T := TX0) (N := 11) hx hb hts (by decide +kernel) hown hK hP 0 rfl rfl 10 (by decide) (hts (.fieldLink RX0 68 "Shortring$Hunt" "barMany" "I") (by decide +kernel)) (fun _ h9 => h9) rfl dX0_bar_8 ?_
    refine lv_aload_n hx hb dX0_bar_11 rfl (lv_at hl 0 rfl) ?_
    refine va_get (D := (dC, dI)) (ci := 0) (v := .ref a2) (C := RX0) (T := TX0) (N := 11) hx hb hts (by decide +kernel) hown hK hP 0 rfl rfl 1 (by decide) (hts (.fieldLink RX0 15 "Shortring$Hunt" "bars" "[I") (by decide +kernel)) (fun _ h9 => h9) rfl dX0_bar_12 ?_
    refine va_alen (v := 120) hx hb hK hP 2 0 rfl rfl rfl dX0_bar_15 ?_
    refine lv_icmp_ge (tgt := 51) hx hb dX0_bar_16 (by decide) (fun c_2 => ?_) (fun c_2 => ?_)
    · have hr := if_to hr c_2
      have he := hr.trans hρ
      exact W.vret hx hb hr0 (fun t ht hW => kV_end (by rw [← he]; exact hP) hS ht) hS.2.2 dX0_bar_51
    · have hr := if_no hr c_2
      refine lv_aload_n hx hb dX0_bar_19 rfl (lv_at hl 0 rfl) ?_
      refine va_get (D := (dC, dI)) (ci := 0) (v := .ref a2) (C := RX0) (T := TX0) (N := 11) hx hb hts (by decide +kernel) hown hK hP 0 rfl rfl 1 (by decide) (hts (.fieldLink RX0 15 "Shortring$Hunt" "bars" "[I") (by decide +kernel)) (fun _ h9 => h9) rfl dX0_bar_20 ?_
      refine lv_aload_n hx hb dX0_bar_23 rfl (lv_at hl 0 rfl) ?_
      refine va_get (D := (dC, dI)) (ci := 0) (v := .int bm) (C := RX0) (T := TX0) (N := 11) hx hb hts (by decide +kernel) hown hK hP 0 rfl rfl 10 (by decide) (hts (.fieldLink RX0 68 "Shortring$Hunt" "barMany" "I") (by decide +kernel)) (fun _ h9 => h9) rfl dX0_bar_24 ?_
      refine lv_iload_n hx hb dX0_bar_27 rfl (lv_at hl 1 rfl) ?_
      refine va_iast hx hb hK hP hD hS 2 0 rfl rfl (kIn (N := 120) (by decide) (by assumption) (by assumption)) dX0_bar_28 (fun H locs hP hD hS => ?_)
      have hP : va_P (dC, dI) kCl [(a0, .inr (0, [.ref a1, .ref a2, .ref a3, .ref a4, .int isOn, .int cnt, .int len, .int stp, .int sta, .int pm, .int bm])), (a1, .inl (cI, 16, .inl bw)), (a2, .inl (cI, 120, .inl (upd bars (bm).toNatClampNeg pair))), (a3, .inl (cI, 40, .inl puts)), (a4, .inl (cI, 40, .inl bap))] H := hP
      have hD : va_D A [(a0, .inr (0, [.ref a1, .ref a2, .ref a3, .ref a4, .int isOn, .int cnt, .int len, .int stp, .int sta, .int pm, .int bm])), (a1, .inl (cI, 16, .inl bw)), (a2, .inl (cI, 120, .inl (upd bars (bm).toNatClampNeg pair))), (a3, .inl (cI, 40, .inl puts)), (a4, .inl (cI, 40, .inl bap))] := hD
      refine lv_aload_n hx hb dX0_bar_29 rfl (lv_at hl 0 rfl) ?_
      refine lv_dup hx hb dX0_bar_30 rfl ?_
      refine va_get (D := (dC, dI)) (ci := 0) (v := .int bm) (C := RX0) (T := TX0) (N := 11) hx hb hts (by decide +kernel) hown hK hP 0 rfl rfl 10 (by decide) (hts (.fieldLink RX0 68 "Shortring$Hunt" "barMany" "I") (by decide +kernel)) (fun _ h9 => h9) rfl dX0_bar_31 ?_
      refine lv_iconst (v := 1) hx hb dX0_bar_34 (by decide) ?_
      refine lv_iadd hx hb dX0_bar_35 ?_
      refine va_put (D := (dC, dI)) (ci := 0) (v := .int (bm + (1 : Int32))) (ty := .int) (C := RX0) (T := TX0) (N := 11) hx hb hts (by decide +kernel) tyX0 tyX0_ok nmX0 hown hK hP hD hS 0 rfl rfl 10 (by decide) (hts (.fieldLink RX0 68 "Shortring$Hunt" "barMany" "I") (by decide +kernel)) (fun _ h9 => h9) rfl (by decide +kernel) rfl rfl (Nat.le_of_ble_eq_true rfl) dX0_bar_36 (fun H locs hP hD hS => ?_)
      have hP : va_P (dC, dI) kCl [(a0, .inr (0, [.ref a1, .ref a2, .ref a3, .ref a4, .int isOn, .int cnt, .int len, .int stp, .int sta, .int pm, .int (bm + (1 : Int32))])), (a1, .inl (cI, 16, .inl bw)), (a2, .inl (cI, 120, .inl (upd bars (bm).toNatClampNeg pair))), (a3, .inl (cI, 40, .inl puts)), (a4, .inl (cI, 40, .inl bap))] H := hP
      have hD : va_D A [(a0, .inr (0, [.ref a1, .ref a2, .ref a3, .ref a4, .int isOn, .int cnt, .int len, .int stp, .int sta, .int pm, .int (bm + (1 : Int32))])), (a1, .inl (cI, 16, .inl bw)), (a2, .inl (cI, 120, .inl (upd bars (bm).toNatClampNeg pair))), (a3, .inl (cI, 40, .inl puts)), (a4, .inl (cI, 40, .inl bap))] := hD
      refine lv_aload_n hx hb dX0_bar_39 rfl (lv_at hl 0 rfl) ?_
      refine lv_iload_n hx hb dX0_bar_40 rfl (lv_at hl 1 rfl) ?_
      refine kCall (va_runSN (As := [.int pair]) (rest := [.ref a0]) ⟨hx, hb, hml, hown, hts⟩ (k_X6_oneOf l dC dI cI cN pair) ⟨va_cnB 1 hts gX0_bar_X6_oneOf_n77 rfl rfl rfl (hN.1 43 _ rfl) (hts (.initialized RX6) (by decide +kernel)) (by decide +kernel) ⟨Nat.le_of_ble_eq_true rfl, Nat.le_of_ble_eq_true rfl⟩, hts (.static yX6_oneOf) (by decide +kernel), trivial⟩ (kW_S hP hK hD hN [] rfl rfl rfl) rfl rfl hl.1 rfl (lv_room (Nat.le_of_ble_eq_true rfl)) dX0_bar_41 ⟨Nat.zero_le _, Nat.zero_le _⟩) hP hS (fun H locs hP hS => ?_)
      refine lv_iload_n hx hb dX0_bar_44 rfl (lv_at hl 1 rfl) ?_
      refine kCall (va_runSN (As := [.int pair]) (rest := [.int (P_oneOf pair), .ref a0]) ⟨hx, hb, hml, hown, hts⟩ (k_X6_otherOf l dC dI cI cN pair) ⟨va_cnB 1 hts gX0_bar_X6_otherOf_n81 rfl rfl rfl (hN.1 44 _ rfl) (hts (.initialized RX6) (by decide +kernel)) (by decide +kernel) ⟨Nat.le_of_ble_eq_true rfl, Nat.le_of_ble_eq_true rfl⟩, hts (.static yX6_otherOf) (by decide +kernel), trivial⟩ (kW_S hP hK hD hN [] rfl rfl rfl) rfl rfl hl.1 rfl (lv_room (Nat.le_of_ble_eq_true rfl)) dX0_bar_45 ⟨Nat.zero_le _, Nat.zero_le _⟩) hP hS (fun H locs hP hS => ?_)
      refine kCallV (wr := [(a2, .inl (cI, 120, .inl (upd bars (bm).toNatClampNeg pair))), (a3, .inl (cI, 40, .inl puts)), (a4, .inl (cI, 40, .inl bap))]) (va_runV (As := [.int (P_oneOf pair), .int (P_otherOf pair)]) (rest := []) ⟨hx, hb, hml, hown, hts⟩ (k_X0_flipBar l dC dI cI cN a0 a1 a2 a3 a4 isOn cnt len stp sta pm (bm + (1 : Int32)) bw (P_oneOf pair) (P_otherOf pair) _) (cwV 2 hts gX0_bar_X0_flipBar rfl rfl rfl (by decide +kernel) ⟨Nat.le_of_ble_eq_true rfl, Nat.le_of_ble_eq_true rfl⟩) (kU_V hP hK hD hN (ci := 0) (q0 := 0) rfl rfl [0, 1] rfl rfl rfl) rfl rfl hl.1 rfl (lv_room (Nat.le_of_ble_eq_true rfl)) dX0_bar_48 ⟨Nat.zero_le _, Nat.zero_le _⟩) hP hD hS hA [0, 1] [2, 3, 4] rfl rfl rfl rfl (by decide) rfl (fun H locs hP hD hS => ?_)
      obtain ⟨r_3, er_3⟩ : ∃ y : Nat → Int32, y = (P_flipBar bw (P_oneOf pair) (P_otherOf pair)) := ⟨_, rfl⟩
      try rw [← er_3] at hP hD
      have hr := bd_to hr er_3
      have hP : va_P (dC, dI) kCl [(a0, .inr (0, [.ref a1, .ref a2, .ref a3, .ref a4, .int isOn, .int cnt, .int len, .int stp, .int sta, .int pm, .int (bm + (1 : Int32))])), (a1, .inl (cI, 16, .inl r_3)), (a2, .inl (cI, 120, .inl (upd bars (bm).toNatClampNeg pair))), (a3, .inl (cI, 40, .inl puts)), (a4, .inl (cI, 40, .inl bap))] H := hP.sub [3, 4, 0, 1, 2] rfl
      have hD : va_D A [(a0, .inr (0, [.ref a1, .ref a2, .ref a3, .ref a4, .int isOn, .int cnt, .int len, .int stp, .int sta, .int pm, .int (bm + (1 : Int32))])), (a1, .inl (cI, 16, .inl r_3)), (a2, .inl (cI, 120, .inl (upd bars (bm).toNatClampNeg pair))), (a3, .inl (cI, 40, .inl puts)), (a4, .inl (cI, 40, .inl bap))] := hD.sub [3, 4, 0, 1, 2] (by decide) rfl
      have he := hr.trans hρ
      exact W.vret hx hb hr0 (fun t ht hW => kV_end (by rw [← he]; exact hP) hS ht) hS.2.2 dX0_bar_51
def L_unbarDownTo_7 (bars : Nat → Int32) (many : Int32) (k : (Nat → Int32) → Int32 → (Nat → Int32) × Int32) : Nat → Int32 → (Nat → Int32) → Int32 → (Nat → Int32) × Int32
  | 0, number, b, many_ => k b many_
  | n + 1, number, b, many_ =>
    if number < 0 then
      L_unbarDownTo_7 bars many k n (number + (-1)) b many_
    else
      if (120 : Int32) ≤ number then
        L_unbarDownTo_7 bars many k n (number + (-1)) b many_
      else
        bd (P_flipBar b (P_oneOf (bars (number).toNatClampNeg)) (P_otherOf (bars (number).toNatClampNeg))) (fun r_1 =>
          L_unbarDownTo_7 bars many k n (number + (-1)) r_1 number)
def P_unbarDownTo (bw : Nat → Int32) (bars : Nat → Int32) (bm : Int32) (many : Int32) : (Nat → Int32) × Int32 :=
  bd (bm - (1 : Int32)) (fun last_1 =>
    L_unbarDownTo_7 bars many (fun b many_ => (b, many_)) ((last_1.toInt + 1 - (many).toInt).toNat) last_1 bw bm)
abbrev rm_X0_unbarDownTo : Room := { frames := 2, cells := 0, slots := 0, locals := 42 }
set_option maxHeartbeats 4000000 in
set_option maxRecDepth 100000 in
theorem k_X0_unbarDownTo (l : Launch) (dC : Nat → ClassId) (dI : Nat → Nat → Nat) (cI cN : ClassId) (a0 : Nat) (a1 : Nat) (a2 : Nat) (a3 : Nat) (a4 : Nat) (isOn : Int32) (cnt : Int32) (len : Int32) (stp : Int32) (sta : Int32) (pm : Int32) (bm : Int32) (bw : Nat → Int32) (bars : Nat → Int32) (puts : Nat → Int32) (bap : Nat → Int32) (many : Int32) (hmany : 0 ≤ many) (sz : Nat) : Met l yX0_unbarDownTo wsX0_unbarDownTo rm_X0_unbarDownTo (va_Pc [.ref a0, .int many] (kU dC dI cI cN [(a0, .inr (0, [.ref a1, .ref a2, .ref a3, .ref a4, .int isOn, .int cnt, .int len, .int stp, .int sta, .int pm, .int bm])), (a1, .inl (cI, 16, .inl bw)), (a2, .inl (cI, 120, .inl bars)), (a3, .inl (cI, 40, .inl puts)), (a4, .inl (cI, 40, .inl bap))] sz)) (kV dC dI [(a0, .inr (0, [.ref a1, .ref a2, .ref a3, .ref a4, .int isOn, .int cnt, .int len, .int stp, .int sta, .int pm, .int ((P_unbarDownTo bw bars bm many).2)])), (a1, .inl (cI, 16, .inl ((P_unbarDownTo bw bars bm many).1))), (a2, .inl (cI, 120, .inl bars)), (a3, .inl (cI, 40, .inl puts)), (a4, .inl (cI, 40, .inl bap))] (va_A [(a0, .inr (0, [.ref a1, .ref a2, .ref a3, .ref a4, .int isOn, .int cnt, .int len, .int stp, .int sta, .int pm, .int bm])), (a1, .inl (cI, 16, .inl bw)), (a2, .inl (cI, 120, .inl bars)), (a3, .inl (cI, 40, .inl puts)), (a4, .inl (cI, 40, .inl bap))] sz)) 0 0 (va_A [(a0, .inr (0, [.ref a1, .ref a2, .ref a3, .ref a4, .int isOn, .int cnt, .int len, .int stp, .int sta, .int pm, .int bm])), (a1, .inl (cI, 16, .inl bw)), (a2, .inl (cI, 120, .inl bars)), (a3, .inl (cI, 40, .inl puts)), (a4, .inl (cI, 40, .inl bap))] sz) := by
  refine Met.ofW (cc := cX0_unbarDownTo) (maxL := 3) (ret := none) (by decide) rfl ?_
  intro p e s m args below meth c s₁ B hml hv
  obtain ⟨rfl, hsz, hP, hK, hD0, hN⟩ := hv
  have hx := B.exec
  have hb := B.bytes
  have hr0 := B.returns
  have hts := atoms_spec (ws := wsX0_unbarDownTo) B.pre
  have hown : s.vm.findClass RX0 = some m.cls := findClass_of_methodNamed B.named
  have hlocks := B.notSynchronized
  subst hsz
  have hD := hD0.self (sz := s.heap.size)
  generalize hAe : va_A [(a0, .inr (0, [.ref a1, .ref a2, .ref a3, .ref a4, .int isOn, .int cnt, .int len, .int stp, .int sta, .int pm, .int bm])), (a1, .inl (cI, 16, .inl bw)), (a2, .inl (cI, 120, .inl bars)), (a3, .inl (cI, 40, .inl puts)), (a4, .inl (cI, 40, .inl bap))] s.heap.size = A at hD ⊢
  have hA : ∀ q : Nat, s.heap.size ≤ q → A q := fun q h => by rw [← hAe]; exact Or.inr h
  have hS : va_S A s.heap s.heap [] := va_S.rf
  have hl := lv_entry ([.ref a0, .int many]) (n := 3) (Nat.le_of_ble_eq_true rfl)
  rw [lg_entry_eq]
  generalize (lg_sl ([.ref a0, .int many]) ++ List.replicate (3 - (lg_sl ([.ref a0, .int many])).length) Slot.unset).toArray = ls at hl ⊢
  have hl : lv_has ls 3 [(0, .ref a0), (1, .int many)] := hl
  obtain ⟨ρ, hρ⟩ : ∃ ρ : (Nat → Int32) × Int32, ρ = P_unbarDownTo bw bars bm many := ⟨_, rfl⟩
  have hr : P_unbarDownTo bw bars bm many = ρ := hρ.symm
  rewrite [P_unbarDownTo] at hr
  refine lv_aload_n hx hb dX0_unbarDownTo_0 rfl (lv_at hl 0 rfl) ?_
  refine va_get (D := (dC, dI)) (ci := 0) (v := .int bm) (C := RX0) (T := TX0) (N := 11) hx hb hts (by decide +kernel) hown hK hP 0 rfl rfl 10 (by decide) (hts (.fieldLink RX0 68 "Shortring$Hunt" "barMany" "I") (by decide +kernel)) (fun _ h9 => h9) rfl dX0_unbarDownTo_1 ?_
  refine lv_iconst (v := 1) hx hb dX0_unbarDownTo_4 (by decide) ?_
  refine lv_isub hx hb dX0_unbarDownTo_5 ?_
  refine lv_topi (fun last_1 elast_1 => ?_)
  have hr := bd_to hr elast_1
  refine lv_istore_n (lv' := [(2, .int last_1), (0, .ref a0), (1, .int many)]) hx hb dX0_unbarDownTo_6 rfl hl (by decide) rfl (fun ls hl => ?_)
  have ex_7 : ∀ (b : Nat → Int32) (many_ : Int32) (H : Heap) (locs : List Loc) (ls : Array Slot), ((b, many_)) = ρ → va_P (dC, dI) kCl [(a0, .inr (0, [.ref a1, .ref a2, .ref a3, .ref a4, .int isOn, .int cnt, .int len, .int stp, .int sta, .int pm, .int many_])), (a1, .inl (cI, 16, .inl b)), (a2, .inl (cI, 120, .inl bars)), (a3, .inl (cI, 40, .inl puts)), (a4, .inl (cI, 40, .inl bap))] H → va_D A [(a0, .inr (0, [.ref a1, .ref a2, .ref a3, .ref a4, .int isOn, .int cnt, .int len, .int stp, .int sta, .int pm, .int many_])), (a1, .inl (cI, 16, .inl b)), (a2, .inl (cI, 120, .inl bars)), (a3, .inl (cI, 40, .inl puts)), (a4, .inl (cI, 40, .inl bap))] → va_S A s.heap H locs → lv_has ls 3 [(0, .ref a0), (1, .int many)] → W p l e (headSpec wsX0_unbarDownTo rm_X0_unbarDownTo).room s m (([.ref a0, .int many] : List Value).toArray) below meth c H locs 0 0 (MQ below (kV dC dI [(a0, .inr (0, [.ref a1, .ref a2, .ref a3, .ref a4, .int isOn, .int cnt, .int len, .int stp, .int sta, .int pm, .int ((P_unbarDownTo bw bars bm many).2)])), (a1, .inl (cI, 16, .inl ((P_unbarDownTo bw bars bm many).1))), (a2, .inl (cI, 120, .inl bars)), (a3, .inl (cI, 40, .inl puts)), (a4, .inl (cI, 40, .inl bap))] A) (([.ref a0, .int many] : List Value).toArray) s 0 0 A) (F0 m 58 ls []) := by
    intro b many_ H locs ls hr hP hD hS hl
    have he := hr.trans hρ
    exact W.vret hx hb hr0 (fun t ht hW => kV_end (by rw [← he]; exact hP) hS ht) hS.2.2 dX0_unbarDownTo_58
  have lp_7 : ∀ (n_7 : Nat) (number : Int32) (b : Nat → Int32) (many_ : Int32) (H : Heap) (locs : List Loc) (ls : Array Slot), (number.toInt + 1 - (many).toInt).toNat = n_7 → L_unbarDownTo_7 bars many (fun b many_ => (b, many_)) n_7 number b many_ = ρ → va_P (dC, dI) kCl [(a0, .inr (0, [.ref a1, .ref a2, .ref a3, .ref a4, .int isOn, .int cnt, .int len, .int stp, .int sta, .int pm, .int many_])), (a1, .inl (cI, 16, .inl b)), (a2, .inl (cI, 120, .inl bars)), (a3, .inl (cI, 40, .inl puts)), (a4, .inl (cI, 40, .inl bap))] H → va_D A [(a0, .inr (0, [.ref a1, .ref a2, .ref a3, .ref a4, .int isOn, .int cnt, .int len, .int stp, .int sta, .int pm, .int many_])), (a1, .inl (cI, 16, .inl b)), (a2, .inl (cI, 120, .inl bars)), (a3, .inl (cI, 40, .inl puts)), (a4, .inl (cI, 40, .inl bap))] → va_S A s.heap H locs → lv_has ls 3 [(2, .int number), (0, .ref a0), (1, .int many)] → W p l e (headSpec wsX0_unbarDownTo rm_X0_unbarDownTo).room s m (([.ref a0, .int many] : List Value).toArray) below meth c H locs 0 0 (MQ below (kV dC dI [(a0, .inr (0, [.ref a1, .ref a2, .ref a3, .ref a4, .int isOn, .int cnt, .int len, .int stp, .int sta, .int pm, .int ((P_unbarDownTo bw bars bm many).2)])), (a1, .inl (cI, 16, .inl ((P_unbarDownTo bw bars bm many).1))), (a2, .inl (cI, 120, .inl bars)), (a3, .inl (cI, 40, .inl puts)), (a4, .inl (cI, 40, .inl bap))] A) (([.ref a0, .int many] : List Value).toArray) s 0 0 A) (F0 m 7 ls []) := by
    intro n_7
    induction n_7 with
    | zero =>
      intro number b many_ H locs ls hi hr hP hD hS hl
      rewrite [L_unbarDownTo_7] at hr
      refine lv_iload_n hx hb dX0_unbarDownTo_7 rfl (lv_at hl 0 rfl) ?_
      refine lv_iload_n hx hb dX0_unbarDownTo_8 rfl (lv_at hl 2 rfl) ?_
      refine lv_icmp_lt (tgt := 58) hx hb dX0_unbarDownTo_9 (by decide) (fun c_2 => ?_) (fun c_2 => ?_)
      · exact ex_7 b many_ _ _ _ hr hP hD hS (lv_sub hl [1, 2] rfl)
      · exact absurd (kDn0 hi) c_2
    | succ n_7 ih_7 =>
      intro number b many_ H locs ls hi hr hP hD hS hl
      rewrite [L_unbarDownTo_7] at hr
      refine lv_iload_n hx hb dX0_unbarDownTo_7 rfl (lv_at hl 0 rfl) ?_
      refine lv_iload_n hx hb dX0_unbarDownTo_8 rfl (lv_at hl 2 rfl) ?_
      refine lv_icmp_lt (tgt := 58) hx hb dX0_unbarDownTo_9 (by decide) (fun c_3 => ?_) (fun c_3 => ?_)
      · exact absurd c_3 (kDnS hi)
      · refine lv_iload_n hx hb dX0_unbarDownTo_12 rfl (lv_at hl 0 rfl) ?_
        refine lv_if_lt (tgt := 52) hx hb dX0_unbarDownTo_13 (by decide) (fun c_4 => ?_) (fun c_4 => ?_)
        · have hr := if_to hr c_4
          refine lv_iinc (v := number + (-1)) (lv' := [(2, .int (number + (-1))), (0, .ref a0), (1, .int many)]) hx hb dX0_unbarDownTo_52 hl (k := 0) rfl rfl (by decide) rfl (fun ls hl => ?_)
          refine lv_goto (tgt := 7) hx hb dX0_unbarDownTo_55 (by decide) ?_
          exact ih_7 (number + (-1)) b many_ _ _ _ (kDnN hi (by assumption)) hr hP hD hS (lv_sub hl [0, 1, 2] rfl)
        · have hr := if_no hr c_4
          refine lv_iload_n hx hb dX0_unbarDownTo_16 rfl (lv_at hl 0 rfl) ?_
          refine lv_aload_n hx hb dX0_unbarDownTo_17 rfl (lv_at hl 1 rfl) ?_
          refine va_get (D := (dC, dI)) (ci := 0) (v := .ref a2) (C := RX0) (T := TX0) (N := 11) hx hb hts (by decide +kernel) hown hK hP 0 rfl rfl 1 (by decide) (hts (.fieldLink RX0 15 "Shortring$Hunt" "bars" "[I") (by decide +kernel)) (fun _ h9 => h9) rfl dX0_unbarDownTo_18 ?_
          refine va_alen (v := 120) hx hb hK hP 2 0 rfl rfl rfl dX0_unbarDownTo_21 ?_
          refine lv_icmp_ge (tgt := 52) hx hb dX0_unbarDownTo_22 (by decide) (fun c_5 => ?_) (fun c_5 => ?_)
          · have hr := if_to hr c_5
            refine lv_iinc (v := number + (-1)) (lv' := [(2, .int (number + (-1))), (0, .ref a0), (1, .int many)]) hx hb dX0_unbarDownTo_52 hl (k := 0) rfl rfl (by decide) rfl (fun ls hl => ?_)
            refine lv_goto (tgt := 7) hx hb dX0_unbarDownTo_55 (by decide) ?_
            exact ih_7 (number + (-1)) b many_ _ _ _ (kDnN hi (by assumption)) hr hP hD hS (lv_sub hl [0, 1, 2] rfl)
          · have hr := if_no hr c_5
            refine lv_aload_n hx hb dX0_unbarDownTo_25 rfl (lv_at hl 1 rfl) ?_
            refine lv_aload_n hx hb dX0_unbarDownTo_26 rfl (lv_at hl 1 rfl) ?_
            refine va_get (D := (dC, dI)) (ci := 0) (v := .ref a2) (C := RX0) (T := TX0) (N := 11) hx hb hts (by decide +kernel) hown hK hP 0 rfl rfl 1 (by decide) (hts (.fieldLink RX0 15 "Shortring$Hunt" "bars" "[I") (by decide +kernel)) (fun _ h9 => h9) rfl dX0_unbarDownTo_27 ?_
            refine lv_iload_n hx hb dX0_unbarDownTo_30 rfl (lv_at hl 0 rfl) ?_
            refine va_iald hx hb hK hP 2 0 rfl rfl (kIn (N := 120) (by decide) (by assumption) (by assumption)) dX0_unbarDownTo_31 ?_
            refine kCall (va_runSN (As := [.int (bars (number).toNatClampNeg)]) (rest := [.ref a0]) ⟨hx, hb, hml, hown, hts⟩ (k_X6_oneOf l dC dI cI cN (bars (number).toNatClampNeg)) ⟨va_cnB 1 hts gX0_unbarDownTo_X6_oneOf_n77 rfl rfl rfl (hN.1 43 _ rfl) (hts (.initialized RX6) (by decide +kernel)) (by decide +kernel) ⟨Nat.le_of_ble_eq_true rfl, Nat.le_of_ble_eq_true rfl⟩, hts (.static yX6_oneOf) (by decide +kernel), trivial⟩ (kW_S hP hK hD hN [] rfl rfl rfl) rfl rfl hl.1 rfl (lv_room (Nat.le_of_ble_eq_true rfl)) dX0_unbarDownTo_32 ⟨Nat.zero_le _, Nat.zero_le _⟩) hP hS (fun H locs hP hS => ?_)
            refine lv_aload_n hx hb dX0_unbarDownTo_35 rfl (lv_at hl 1 rfl) ?_
            refine va_get (D := (dC, dI)) (ci := 0) (v := .ref a2) (C := RX0) (T := TX0) (N := 11) hx hb hts (by decide +kernel) hown hK hP 0 rfl rfl 1 (by decide) (hts (.fieldLink RX0 15 "Shortring$Hunt" "bars" "[I") (by decide +kernel)) (fun _ h9 => h9) rfl dX0_unbarDownTo_36 ?_
            refine lv_iload_n hx hb dX0_unbarDownTo_39 rfl (lv_at hl 0 rfl) ?_
            refine va_iald hx hb hK hP 2 0 rfl rfl (kIn (N := 120) (by decide) (by assumption) (by assumption)) dX0_unbarDownTo_40 ?_
            refine kCall (va_runSN (As := [.int (bars (number).toNatClampNeg)]) (rest := [.int (P_oneOf (bars (number).toNatClampNeg)), .ref a0]) ⟨hx, hb, hml, hown, hts⟩ (k_X6_otherOf l dC dI cI cN (bars (number).toNatClampNeg)) ⟨va_cnB 1 hts gX0_unbarDownTo_X6_otherOf_n81 rfl rfl rfl (hN.1 44 _ rfl) (hts (.initialized RX6) (by decide +kernel)) (by decide +kernel) ⟨Nat.le_of_ble_eq_true rfl, Nat.le_of_ble_eq_true rfl⟩, hts (.static yX6_otherOf) (by decide +kernel), trivial⟩ (kW_S hP hK hD hN [] rfl rfl rfl) rfl rfl hl.1 rfl (lv_room (Nat.le_of_ble_eq_true rfl)) dX0_unbarDownTo_41 ⟨Nat.zero_le _, Nat.zero_le _⟩) hP hS (fun H locs hP hS => ?_)
            refine kCallV (wr := [(a2, .inl (cI, 120, .inl bars)), (a3, .inl (cI, 40, .inl puts)), (a4, .inl (cI, 40, .inl bap))]) (va_runV (As := [.int (P_oneOf (bars (number).toNatClampNeg)), .int (P_otherOf (bars (number).toNatClampNeg))]) (rest := []) ⟨hx, hb, hml, hown, hts⟩ (k_X0_flipBar l dC dI cI cN a0 a1 a2 a3 a4 isOn cnt len stp sta pm many_ b (P_oneOf (bars (number).toNatClampNeg)) (P_otherOf (bars (number).toNatClampNeg)) _) (cwV 2 hts gX0_unbarDownTo_X0_flipBar rfl rfl rfl (by decide +kernel) ⟨Nat.le_of_ble_eq_true rfl, Nat.le_of_ble_eq_true rfl⟩) (kU_V hP hK hD hN (ci := 0) (q0 := 0) rfl rfl [0, 1] rfl rfl rfl) rfl rfl hl.1 rfl (lv_room (Nat.le_of_ble_eq_true rfl)) dX0_unbarDownTo_44 ⟨Nat.zero_le _, Nat.zero_le _⟩) hP hD hS hA [0, 1] [2, 3, 4] rfl rfl rfl rfl (by decide) rfl (fun H locs hP hD hS => ?_)
            obtain ⟨r_6, er_6⟩ : ∃ y : Nat → Int32, y = (P_flipBar b (P_oneOf (bars (number).toNatClampNeg)) (P_otherOf (bars (number).toNatClampNeg))) := ⟨_, rfl⟩
            try rw [← er_6] at hP hD
            have hr := bd_to hr er_6
            have hP : va_P (dC, dI) kCl [(a0, .inr (0, [.ref a1, .ref a2, .ref a3, .ref a4, .int isOn, .int cnt, .int len, .int stp, .int sta, .int pm, .int many_])), (a1, .inl (cI, 16, .inl r_6)), (a2, .inl (cI, 120, .inl bars)), (a3, .inl (cI, 40, .inl puts)), (a4, .inl (cI, 40, .inl bap))] H := hP.sub [3, 4, 0, 1, 2] rfl
            have hD : va_D A [(a0, .inr (0, [.ref a1, .ref a2, .ref a3, .ref a4, .int isOn, .int cnt, .int len, .int stp, .int sta, .int pm, .int many_])), (a1, .inl (cI, 16, .inl r_6)), (a2, .inl (cI, 120, .inl bars)), (a3, .inl (cI, 40, .inl puts)), (a4, .inl (cI, 40, .inl bap))] := hD.sub [3, 4, 0, 1, 2] (by decide) rfl
            refine lv_aload_n hx hb dX0_unbarDownTo_47 rfl (lv_at hl 1 rfl) ?_
            refine lv_iload_n hx hb dX0_unbarDownTo_48 rfl (lv_at hl 0 rfl) ?_
            refine va_put (D := (dC, dI)) (ci := 0) (v := .int number) (ty := .int) (C := RX0) (T := TX0) (N := 11) hx hb hts (by decide +kernel) tyX0 tyX0_ok nmX0 hown hK hP hD hS 0 rfl rfl 10 (by decide) (hts (.fieldLink RX0 68 "Shortring$Hunt" "barMany" "I") (by decide +kernel)) (fun _ h9 => h9) rfl (by decide +kernel) rfl rfl (Nat.le_of_ble_eq_true rfl) dX0_unbarDownTo_49 (fun H locs hP hD hS => ?_)
            have hP : va_P (dC, dI) kCl [(a0, .inr (0, [.ref a1, .ref a2, .ref a3, .ref a4, .int isOn, .int cnt, .int len, .int stp, .int sta, .int pm, .int number])), (a1, .inl (cI, 16, .inl r_6)), (a2, .inl (cI, 120, .inl bars)), (a3, .inl (cI, 40, .inl puts)), (a4, .inl (cI, 40, .inl bap))] H := hP
            have hD : va_D A [(a0, .inr (0, [.ref a1, .ref a2, .ref a3, .ref a4, .int isOn, .int cnt, .int len, .int stp, .int sta, .int pm, .int number])), (a1, .inl (cI, 16, .inl r_6)), (a2, .inl (cI, 120, .inl bars)), (a3, .inl (cI, 40, .inl puts)), (a4, .inl (cI, 40, .inl bap))] := hD
            refine lv_iinc (v := number + (-1)) (lv' := [(2, .int (number + (-1))), (0, .ref a0), (1, .int many)]) hx hb dX0_unbarDownTo_52 hl (k := 0) rfl rfl (by decide) rfl (fun ls hl => ?_)
            refine lv_goto (tgt := 7) hx hb dX0_unbarDownTo_55 (by decide) ?_
            exact ih_7 (number + (-1)) r_6 number _ _ _ (kDnN hi (by assumption)) hr hP hD hS (lv_sub hl [0, 1, 2] rfl)
  exact lp_7 ((last_1.toInt + 1 - (many).toInt).toNat) last_1 bw bm _ _ _ rfl hr hP hD hS (lv_sub hl [0, 1, 2] rfl)
def P_put (K : Nat) (f : Nat → Int32) (puts : Nat → Int32) (bap : Nat → Int32) (pm : Int32) (bm : Int32) (knot : Int32) (partner : Int32) : (Nat → Int32) × (Nat → Int32) × (Nat → Int32) × Int32 :=
  if pm < 0 then
    (puts, bap, f, pm)
  else
    if (40 : Int32) ≤ pm then
      (puts, bap, f, pm)
    else
      if (40 : Int32) ≤ pm then
        (puts, bap, f, pm)
      else
        bd (P_join K f knot partner) (fun r_4 =>
          (upd puts (pm).toNatClampNeg (P_pairOf knot partner), upd bap (pm).toNatClampNeg bm, r_4, pm + (1 : Int32)))
abbrev rm_X0_put : Room := { frames := 2, cells := 0, slots := 0, locals := 43 }
set_option maxHeartbeats 4000000 in
set_option maxRecDepth 100000 in
theorem k_X0_put (l : Launch) (dC : Nat → ClassId) (dI : Nat → Nat → Nat) (cI cN : ClassId) (a0 : Nat) (a1 : Nat) (a2 : Nat) (a3 : Nat) (a4 : Nat) (isOn : Int32) (cnt : Int32) (len : Int32) (stp : Int32) (sta : Int32) (pm : Int32) (bm : Int32) (bw : Nat → Int32) (bars : Nat → Int32) (puts : Nat → Int32) (bap : Nat → Int32) (h0 : Nat) (h1 : Nat) (K : Nat) (f : Nat → Int32) (knot : Int32) (partner : Int32) (hK : K ≤ 16) (sz : Nat) : Met l yX0_put wsX0_put rm_X0_put (va_Pc [.ref a0, .ref h0, .int knot, .int partner] (kU dC dI cI cN [(a0, .inr (0, [.ref a1, .ref a2, .ref a3, .ref a4, .int isOn, .int cnt, .int len, .int stp, .int sta, .int pm, .int bm])), (a1, .inl (cI, 16, .inl bw)), (a2, .inl (cI, 120, .inl bars)), (a3, .inl (cI, 40, .inl puts)), (a4, .inl (cI, 40, .inl bap)), (h0, .inr (3, [.ref h1, .int (nI K)])), (h1, .inl (cI, 16, .inl f))] sz)) (kV dC dI [(a0, .inr (0, [.ref a1, .ref a2, .ref a3, .ref a4, .int isOn, .int cnt, .int len, .int stp, .int sta, .int ((P_put K f puts bap pm bm knot partner).2.2.2), .int bm])), (a1, .inl (cI, 16, .inl bw)), (a2, .inl (cI, 120, .inl bars)), (a3, .inl (cI, 40, .inl ((P_put K f puts bap pm bm knot partner).1))), (a4, .inl (cI, 40, .inl ((P_put K f puts bap pm bm knot partner).2.1))), (h0, .inr (3, [.ref h1, .int (nI K)])), (h1, .inl (cI, 16, .inl ((P_put K f puts bap pm bm knot partner).2.2.1)))] (va_A [(a0, .inr (0, [.ref a1, .ref a2, .ref a3, .ref a4, .int isOn, .int cnt, .int len, .int stp, .int sta, .int pm, .int bm])), (a1, .inl (cI, 16, .inl bw)), (a2, .inl (cI, 120, .inl bars)), (a3, .inl (cI, 40, .inl puts)), (a4, .inl (cI, 40, .inl bap)), (h0, .inr (3, [.ref h1, .int (nI K)])), (h1, .inl (cI, 16, .inl f))] sz)) 0 0 (va_A [(a0, .inr (0, [.ref a1, .ref a2, .ref a3, .ref a4, .int isOn, .int cnt, .int len, .int stp, .int sta, .int pm, .int bm])), (a1, .inl (cI, 16, .inl bw)), (a2, .inl (cI, 120, .inl bars)), (a3, .inl (cI, 40, .inl puts)), (a4, .inl (cI, 40, .inl bap)), (h0, .inr (3, [.ref h1, .int (nI K)])), (h1, .inl (cI, 16, .inl f))] sz) := by
  refine Met.ofW (cc := cX0_put) (maxL := 4) (ret := none) (by decide) rfl ?_
  intro p e s m args below meth c s₁ B hml hv
  obtain ⟨rfl, hsz, hP, hK, hD0, hN⟩ := hv
  have hx := B.exec
  have hb := B.bytes
  have hr0 := B.returns
  have hts := atoms_spec (ws := wsX0_put) B.pre
  have hown : s.vm.findClass RX0 = some m.cls := findClass_of_methodNamed B.named
  have hlocks := B.notSynchronized
  subst hsz
  have hD := hD0.self (sz := s.heap.size)
  generalize hAe : va_A [(a0, .inr (0, [.ref a1, .ref a2, .ref a3, .ref a4, .int isOn, .int cnt, .int len, .int stp, .int sta, .int pm, .int bm])), (a1, .inl (cI, 16, .inl bw)), (a2, .inl (cI, 120, .inl bars)), (a3, .inl (cI, 40, .inl puts)), (a4, .inl (cI, 40, .inl bap)), (h0, .inr (3, [.ref h1, .int (nI K)])), (h1, .inl (cI, 16, .inl f))] s.heap.size = A at hD ⊢
  have hA : ∀ q : Nat, s.heap.size ≤ q → A q := fun q h => by rw [← hAe]; exact Or.inr h
  have hS : va_S A s.heap s.heap [] := va_S.rf
  have hl := lv_entry ([.ref a0, .ref h0, .int knot, .int partner]) (n := 4) (Nat.le_of_ble_eq_true rfl)
  rw [lg_entry_eq]
  generalize (lg_sl ([.ref a0, .ref h0, .int knot, .int partner]) ++ List.replicate (4 - (lg_sl ([.ref a0, .ref h0, .int knot, .int partner])).length) Slot.unset).toArray = ls at hl ⊢
  have hl : lv_has ls 4 [(0, .ref a0), (1, .ref h0), (2, .int knot), (3, .int partner)] := hl
  obtain ⟨ρ, hρ⟩ : ∃ ρ : (Nat → Int32) × (Nat → Int32) × (Nat → Int32) × Int32, ρ = P_put K f puts bap pm bm knot partner := ⟨_, rfl⟩
  have hr : P_put K f puts bap pm bm knot partner = ρ := hρ.symm
  rewrite [P_put] at hr
  refine lv_aload_n hx hb dX0_put_0 rfl (lv_at hl 0 rfl) ?_
  refine va_get (D := (dC, dI)) (ci := 0) (v := .int pm) (C := RX0) (T := TX0) (N := 11) hx hb hts (by decide +kernel) hown hK hP 0 rfl rfl 9 (by decide) (hts (.fieldLink RX0 41 "Shortring$Hunt" "putMany" "I") (by decide +kernel)) (fun _ h9 => h9) rfl dX0_put_1 ?_
  refine lv_if_lt (tgt := 74) hx hb dX0_put_4 (by decide) (fun c_1 => ?_) (fun c_1 => ?_)
  · have hr := if_to hr c_1
    have he := hr.trans hρ
    exact W.vret hx hb hr0 (fun t ht hW => kV_end (by rw [← he]; exact hP) hS ht) hS.2.2 dX0_put_74
  · have hr := if_no hr c_1
    refine lv_aload_n hx hb dX0_put_7 rfl (lv_at hl 0 rfl) ?_
    refine va_get (D := (dC, dI)) (ci := 0) (v := .int pm) (C := RX0) (T := TX0) (N := 11) hx hb hts (by decide +kernel) hown hK hP 0 rfl rfl 9 (by decide) (hts (.fieldLink RX0 41 "Shortring$Hunt" "putMany" "I") (by decide +kernel)) (fun _ h9 => h9) rfl dX0_put_8 ?_
    refine lv_aload_n hx hb dX0_put_11 rfl (lv_at hl 0 rfl) ?_
    refine va_get (D := (dC, dI)) (ci := 0) (v := .ref a3) (C := RX0) (T := TX0) (N := 11) hx hb hts (by decide +kernel) hown hK hP 0 rfl rfl 2 (by decide) (hts (.fieldLink RX0 18 "Shortring$Hunt" "puts" "[I") (by decide +kernel)) (fun _ h9 => h9) rfl dX0_put_12 ?_
    refine va_alen (v := 40) hx hb hK hP 3 0 rfl rfl rfl dX0_put_15 ?_
    refine lv_icmp_ge (tgt := 74) hx hb dX0_put_16 (by decide) (fun c_2 => ?_) (fun c_2 => ?_)
    · have hr := if_to hr c_2
      have he := hr.trans hρ
      exact W.vret hx hb hr0 (fun t ht hW => kV_end (by rw [← he]; exact hP) hS ht) hS.2.2 dX0_put_74
    · have hr := if_no hr c_2
      refine lv_aload_n hx hb dX0_put_19 rfl (lv_at hl 0 rfl) ?_
      refine va_get (D := (dC, dI)) (ci := 0) (v := .int pm) (C := RX0) (T := TX0) (N := 11) hx hb hts (by decide +kernel) hown hK hP 0 rfl rfl 9 (by decide) (hts (.fieldLink RX0 41 "Shortring$Hunt" "putMany" "I") (by decide +kernel)) (fun _ h9 => h9) rfl dX0_put_20 ?_
      refine lv_aload_n hx hb dX0_put_23 rfl (lv_at hl 0 rfl) ?_
      refine va_get (D := (dC, dI)) (ci := 0) (v := .ref a4) (C := RX0) (T := TX0) (N := 11) hx hb hts (by decide +kernel) hown hK hP 0 rfl rfl 3 (by decide) (hts (.fieldLink RX0 21 "Shortring$Hunt" "barsAtPut" "[I") (by decide +kernel)) (fun _ h9 => h9) rfl dX0_put_24 ?_
      refine va_alen (v := 40) hx hb hK hP 4 0 rfl rfl rfl dX0_put_27 ?_
      refine lv_icmp_ge (tgt := 74) hx hb dX0_put_28 (by decide) (fun c_3 => ?_) (fun c_3 => ?_)
      · have hr := if_to hr c_3
        have he := hr.trans hρ
        exact W.vret hx hb hr0 (fun t ht hW => kV_end (by rw [← he]; exact hP) hS ht) hS.2.2 dX0_put_74
      · have hr := if_no hr c_3
        refine lv_aload_n hx hb dX0_put_31 rfl (lv_at hl 0 rfl) ?_
        refine va_get (D := (dC, dI)) (ci := 0) (v := .ref a3) (C := RX0) (T := TX0) (N := 11) hx hb hts (by decide +kernel) hown hK hP 0 rfl rfl 2 (by decide) (hts (.fieldLink RX0 18 "Shortring$Hunt" "puts" "[I") (by decide +kernel)) (fun _ h9 => h9) rfl dX0_put_32 ?_
        refine lv_aload_n hx hb dX0_put_35 rfl (lv_at hl 0 rfl) ?_
        refine va_get (D := (dC, dI)) (ci := 0) (v := .int pm) (C := RX0) (T := TX0) (N := 11) hx hb hts (by decide +kernel) hown hK hP 0 rfl rfl 9 (by decide) (hts (.fieldLink RX0 41 "Shortring$Hunt" "putMany" "I") (by decide +kernel)) (fun _ h9 => h9) rfl dX0_put_36 ?_
        refine lv_iload_n hx hb dX0_put_39 rfl (lv_at hl 2 rfl) ?_
        refine lv_iload_n hx hb dX0_put_40 rfl (lv_at hl 3 rfl) ?_
        refine kCall (va_runSN (As := [.int knot, .int partner]) (rest := [.int pm, .ref a3]) ⟨hx, hb, hml, hown, hts⟩ (k_X6_pairOf l dC dI cI cN knot partner) ⟨va_cnB 2 hts gX0_put_X6_pairOf_n64 rfl rfl rfl (hN.1 41 _ rfl) (hts (.initialized RX6) (by decide +kernel)) (by decide +kernel) ⟨Nat.le_of_ble_eq_true rfl, Nat.le_of_ble_eq_true rfl⟩, hts (.static yX6_pairOf) (by decide +kernel), trivial⟩ (kW_S hP hK hD hN [] rfl rfl rfl) rfl rfl hl.1 rfl (lv_room (Nat.le_of_ble_eq_true rfl)) dX0_put_41 ⟨Nat.zero_le _, Nat.zero_le _⟩) hP hS (fun H locs hP hS => ?_)
        refine va_iast hx hb hK hP hD hS 3 0 rfl rfl (kIn (N := 40) (by decide) (by assumption) (by assumption)) dX0_put_44 (fun H locs hP hD hS => ?_)
        have hP : va_P (dC, dI) kCl [(a0, .inr (0, [.ref a1, .ref a2, .ref a3, .ref a4, .int isOn, .int cnt, .int len, .int stp, .int sta, .int pm, .int bm])), (a1, .inl (cI, 16, .inl bw)), (a2, .inl (cI, 120, .inl bars)), (a3, .inl (cI, 40, .inl (upd puts (pm).toNatClampNeg (P_pairOf knot partner)))), (a4, .inl (cI, 40, .inl bap)), (h0, .inr (3, [.ref h1, .int (nI K)])), (h1, .inl (cI, 16, .inl f))] H := hP
        have hD : va_D A [(a0, .inr (0, [.ref a1, .ref a2, .ref a3, .ref a4, .int isOn, .int cnt, .int len, .int stp, .int sta, .int pm, .int bm])), (a1, .inl (cI, 16, .inl bw)), (a2, .inl (cI, 120, .inl bars)), (a3, .inl (cI, 40, .inl (upd puts (pm).toNatClampNeg (P_pairOf knot partner)))), (a4, .inl (cI, 40, .inl bap)), (h0, .inr (3, [.ref h1, .int (nI K)])), (h1, .inl (cI, 16, .inl f))] := hD
        refine lv_aload_n hx hb dX0_put_45 rfl (lv_at hl 0 rfl) ?_
        refine va_get (D := (dC, dI)) (ci := 0) (v := .ref a4) (C := RX0) (T := TX0) (N := 11) hx hb hts (by decide +kernel) hown hK hP 0 rfl rfl 3 (by decide) (hts (.fieldLink RX0 21 "Shortring$Hunt" "barsAtPut" "[I") (by decide +kernel)) (fun _ h9 => h9) rfl dX0_put_46 ?_
        refine lv_aload_n hx hb dX0_put_49 rfl (lv_at hl 0 rfl) ?_
        refine va_get (D := (dC, dI)) (ci := 0) (v := .int pm) (C := RX0) (T := TX0) (N := 11) hx hb hts (by decide +kernel) hown hK hP 0 rfl rfl 9 (by decide) (hts (.fieldLink RX0 41 "Shortring$Hunt" "putMany" "I") (by decide +kernel)) (fun _ h9 => h9) rfl dX0_put_50 ?_
        refine lv_aload_n hx hb dX0_put_53 rfl (lv_at hl 0 rfl) ?_
        refine va_get (D := (dC, dI)) (ci := 0) (v := .int bm) (C := RX0) (T := TX0) (N := 11) hx hb hts (by decide +kernel) hown hK hP 0 rfl rfl 10 (by decide) (hts (.fieldLink RX0 68 "Shortring$Hunt" "barMany" "I") (by decide +kernel)) (fun _ h9 => h9) rfl dX0_put_54 ?_
        refine va_iast hx hb hK hP hD hS 4 0 rfl rfl (kIn (N := 40) (by decide) (by assumption) (by assumption)) dX0_put_57 (fun H locs hP hD hS => ?_)
        have hP : va_P (dC, dI) kCl [(a0, .inr (0, [.ref a1, .ref a2, .ref a3, .ref a4, .int isOn, .int cnt, .int len, .int stp, .int sta, .int pm, .int bm])), (a1, .inl (cI, 16, .inl bw)), (a2, .inl (cI, 120, .inl bars)), (a3, .inl (cI, 40, .inl (upd puts (pm).toNatClampNeg (P_pairOf knot partner)))), (a4, .inl (cI, 40, .inl (upd bap (pm).toNatClampNeg bm))), (h0, .inr (3, [.ref h1, .int (nI K)])), (h1, .inl (cI, 16, .inl f))] H := hP
        have hD : va_D A [(a0, .inr (0, [.ref a1, .ref a2, .ref a3, .ref a4, .int isOn, .int cnt, .int len, .int stp, .int sta, .int pm, .int bm])), (a1, .inl (cI, 16, .inl bw)), (a2, .inl (cI, 120, .inl bars)), (a3, .inl (cI, 40, .inl (upd puts (pm).toNatClampNeg (P_pairOf knot partner)))), (a4, .inl (cI, 40, .inl (upd bap (pm).toNatClampNeg bm))), (h0, .inr (3, [.ref h1, .int (nI K)])), (h1, .inl (cI, 16, .inl f))] := hD
        refine lv_aload_n hx hb dX0_put_58 rfl (lv_at hl 0 rfl) ?_
        refine lv_dup hx hb dX0_put_59 rfl ?_
        refine va_get (D := (dC, dI)) (ci := 0) (v := .int pm) (C := RX0) (T := TX0) (N := 11) hx hb hts (by decide +kernel) hown hK hP 0 rfl rfl 9 (by decide) (hts (.fieldLink RX0 41 "Shortring$Hunt" "putMany" "I") (by decide +kernel)) (fun _ h9 => h9) rfl dX0_put_60 ?_
        refine lv_iconst (v := 1) hx hb dX0_put_63 (by decide) ?_
        refine lv_iadd hx hb dX0_put_64 ?_
        refine va_put (D := (dC, dI)) (ci := 0) (v := .int (pm + (1 : Int32))) (ty := .int) (C := RX0) (T := TX0) (N := 11) hx hb hts (by decide +kernel) tyX0 tyX0_ok nmX0 hown hK hP hD hS 0 rfl rfl 9 (by decide) (hts (.fieldLink RX0 41 "Shortring$Hunt" "putMany" "I") (by decide +kernel)) (fun _ h9 => h9) rfl (by decide +kernel) rfl rfl (Nat.le_of_ble_eq_true rfl) dX0_put_65 (fun H locs hP hD hS => ?_)
        have hP : va_P (dC, dI) kCl [(a0, .inr (0, [.ref a1, .ref a2, .ref a3, .ref a4, .int isOn, .int cnt, .int len, .int stp, .int sta, .int (pm + (1 : Int32)), .int bm])), (a1, .inl (cI, 16, .inl bw)), (a2, .inl (cI, 120, .inl bars)), (a3, .inl (cI, 40, .inl (upd puts (pm).toNatClampNeg (P_pairOf knot partner)))), (a4, .inl (cI, 40, .inl (upd bap (pm).toNatClampNeg bm))), (h0, .inr (3, [.ref h1, .int (nI K)])), (h1, .inl (cI, 16, .inl f))] H := hP
        have hD : va_D A [(a0, .inr (0, [.ref a1, .ref a2, .ref a3, .ref a4, .int isOn, .int cnt, .int len, .int stp, .int sta, .int (pm + (1 : Int32)), .int bm])), (a1, .inl (cI, 16, .inl bw)), (a2, .inl (cI, 120, .inl bars)), (a3, .inl (cI, 40, .inl (upd puts (pm).toNatClampNeg (P_pairOf knot partner)))), (a4, .inl (cI, 40, .inl (upd bap (pm).toNatClampNeg bm))), (h0, .inr (3, [.ref h1, .int (nI K)])), (h1, .inl (cI, 16, .inl f))] := hD
        refine lv_aload_n hx hb dX0_put_68 rfl (lv_at hl 1 rfl) ?_
        refine lv_iload_n hx hb dX0_put_69 rfl (lv_at hl 2 rfl) ?_
        refine lv_iload_n hx hb dX0_put_70 rfl (lv_at hl 3 rfl) ?_
        refine kCallV (wr := [(a0, .inr (0, [.ref a1, .ref a2, .ref a3, .ref a4, .int isOn, .int cnt, .int len, .int stp, .int sta, .int (pm + (1 : Int32)), .int bm])), (a1, .inl (cI, 16, .inl bw)), (a2, .inl (cI, 120, .inl bars)), (a3, .inl (cI, 40, .inl (upd puts (pm).toNatClampNeg (P_pairOf knot partner)))), (a4, .inl (cI, 40, .inl (upd bap (pm).toNatClampNeg bm)))]) (va_runVN (As := [.int knot, .int partner]) (rest := []) ⟨hx, hb, hml, hown, hts⟩ (k_X3_join l dC dI cI cN h0 h1 K f knot partner (by first | assumption | omega | exact Int32.le_refl _ | decide) _) ⟨va_cnB 2 hts gX0_put_X3_join_n71 rfl rfl rfl (hN.1 42 _ rfl) (hts (.initialized RX3) (by decide +kernel)) (by decide +kernel) ⟨Nat.le_of_ble_eq_true rfl, Nat.le_of_ble_eq_true rfl⟩, hts (.instanceMethod yX3_join) (by decide +kernel), hts (.selects RX3 yX3_join yX3_join) (by decide +kernel)⟩ (kU_V hP hK hD hN (ci := 3) (q0 := 5) rfl rfl [5, 6] rfl rfl rfl) rfl rfl hl.1 rfl (lv_room (Nat.le_of_ble_eq_true rfl)) dX0_put_71 ⟨Nat.zero_le _, Nat.zero_le _⟩) hP hD hS hA [5, 6] [0, 1, 2, 3, 4] rfl rfl rfl rfl (by decide) rfl (fun H locs hP hD hS => ?_)
        obtain ⟨r_4, er_4⟩ : ∃ y : Nat → Int32, y = (P_join K f knot partner) := ⟨_, rfl⟩
        try rw [← er_4] at hP hD
        have hr := bd_to hr er_4
        have hP : va_P (dC, dI) kCl [(a0, .inr (0, [.ref a1, .ref a2, .ref a3, .ref a4, .int isOn, .int cnt, .int len, .int stp, .int sta, .int (pm + (1 : Int32)), .int bm])), (a1, .inl (cI, 16, .inl bw)), (a2, .inl (cI, 120, .inl bars)), (a3, .inl (cI, 40, .inl (upd puts (pm).toNatClampNeg (P_pairOf knot partner)))), (a4, .inl (cI, 40, .inl (upd bap (pm).toNatClampNeg bm))), (h0, .inr (3, [.ref h1, .int (nI K)])), (h1, .inl (cI, 16, .inl r_4))] H := hP.sub [0, 1, 2, 3, 4, 5, 6] rfl
        have hD : va_D A [(a0, .inr (0, [.ref a1, .ref a2, .ref a3, .ref a4, .int isOn, .int cnt, .int len, .int stp, .int sta, .int (pm + (1 : Int32)), .int bm])), (a1, .inl (cI, 16, .inl bw)), (a2, .inl (cI, 120, .inl bars)), (a3, .inl (cI, 40, .inl (upd puts (pm).toNatClampNeg (P_pairOf knot partner)))), (a4, .inl (cI, 40, .inl (upd bap (pm).toNatClampNeg bm))), (h0, .inr (3, [.ref h1, .int (nI K)])), (h1, .inl (cI, 16, .inl r_4))] := hD.sub [0, 1, 2, 3, 4, 5, 6] (by decide) rfl
        have he := hr.trans hρ
        exact W.vret hx hb hr0 (fun t ht hW => kV_end (by rw [← he]; exact hP) hS ht) hS.2.2 dX0_put_74
def P_goBack (K : Nat) (f : Nat → Int32) (bw : Nat → Int32) (bars : Nat → Int32) (puts : Nat → Int32) (bap : Nat → Int32) (sta : Int32) (pm : Int32) (bm : Int32) : (Nat → Int32) × (Nat → Int32) × (Nat → Int32) × Int32 × Int32 × Int32 :=
  bd (pm - (1 : Int32)) (fun last_1 =>
    if last_1 < 0 then
      bd (P_unbarDownTo bw bars bm 0) (fun r_3 =>
        (r_3.1, bars, f, 2, pm, r_3.2))
    else
      if (40 : Int32) ≤ last_1 then
        bd (P_unbarDownTo bw bars bm 0) (fun r_5 =>
          (r_5.1, bars, f, 2, pm, r_5.2))
      else
        if last_1 < (40 : Int32) then
          bd (P_loosen K f (P_oneOf (puts (last_1).toNatClampNeg)) (P_otherOf (puts (last_1).toNatClampNeg))) (fun r_7 =>
            bd (P_unbarDownTo bw bars bm (bap (last_1).toNatClampNeg)) (fun r_8 =>
              bd (P_bar r_8.1 bars r_8.2 (puts (last_1).toNatClampNeg)) (fun r_9 =>
                (r_9.1, r_9.2.1, r_7, sta, last_1, r_9.2.2))))
        else
          bd (P_unbarDownTo bw bars bm 0) (fun r_10 =>
            (r_10.1, bars, f, 2, pm, r_10.2)))
abbrev rm_X0_goBack : Room := { frames := 3, cells := 0, slots := 0, locals := 64 }
set_option maxHeartbeats 4000000 in
set_option maxRecDepth 100000 in
theorem k_X0_goBack (l : Launch) (dC : Nat → ClassId) (dI : Nat → Nat → Nat) (cI cN : ClassId) (a0 : Nat) (a1 : Nat) (a2 : Nat) (a3 : Nat) (a4 : Nat) (isOn : Int32) (cnt : Int32) (len : Int32) (stp : Int32) (sta : Int32) (pm : Int32) (bm : Int32) (bw : Nat → Int32) (bars : Nat → Int32) (puts : Nat → Int32) (bap : Nat → Int32) (h0 : Nat) (h1 : Nat) (K : Nat) (f : Nat → Int32) (hK : K ≤ 16) (hbap : ∀ j, 0 ≤ bap j) (sz : Nat) : Met l yX0_goBack wsX0_goBack rm_X0_goBack (va_Pc [.ref a0, .ref h0] (kU dC dI cI cN [(a0, .inr (0, [.ref a1, .ref a2, .ref a3, .ref a4, .int isOn, .int cnt, .int len, .int stp, .int sta, .int pm, .int bm])), (a1, .inl (cI, 16, .inl bw)), (a2, .inl (cI, 120, .inl bars)), (a3, .inl (cI, 40, .inl puts)), (a4, .inl (cI, 40, .inl bap)), (h0, .inr (3, [.ref h1, .int (nI K)])), (h1, .inl (cI, 16, .inl f))] sz)) (kV dC dI [(a0, .inr (0, [.ref a1, .ref a2, .ref a3, .ref a4, .int isOn, .int cnt, .int len, .int stp, .int ((P_goBack K f bw bars puts bap sta pm bm).2.2.2.1), .int ((P_goBack K f bw bars puts bap sta pm bm).2.2.2.2.1), .int ((P_goBack K f bw bars puts bap sta pm bm).2.2.2.2.2)])), (a1, .inl (cI, 16, .inl ((P_goBack K f bw bars puts bap sta pm bm).1))), (a2, .inl (cI, 120, .inl ((P_goBack K f bw bars puts bap sta pm bm).2.1))), (a3, .inl (cI, 40, .inl puts)), (a4, .inl (cI, 40, .inl bap)), (h0, .inr (3, [.ref h1, .int (nI K)])), (h1, .inl (cI, 16, .inl ((P_goBack K f bw bars puts bap sta pm bm).2.2.1)))] (va_A [(a0, .inr (0, [.ref a1, .ref a2, .ref a3, .ref a4, .int isOn, .int cnt, .int len, .int stp, .int sta, .int pm, .int bm])), (a1, .inl (cI, 16, .inl bw)), (a2, .inl (cI, 120, .inl bars)), (a3, .inl (cI, 40, .inl puts)), (a4, .inl (cI, 40, .inl bap)), (h0, .inr (3, [.ref h1, .int (nI K)])), (h1, .inl (cI, 16, .inl f))] sz)) 0 0 (va_A [(a0, .inr (0, [.ref a1, .ref a2, .ref a3, .ref a4, .int isOn, .int cnt, .int len, .int stp, .int sta, .int pm, .int bm])), (a1, .inl (cI, 16, .inl bw)), (a2, .inl (cI, 120, .inl bars)), (a3, .inl (cI, 40, .inl puts)), (a4, .inl (cI, 40, .inl bap)), (h0, .inr (3, [.ref h1, .int (nI K)])), (h1, .inl (cI, 16, .inl f))] sz) := by
  refine Met.ofW (cc := cX0_goBack) (maxL := 3) (ret := none) (by decide) rfl ?_
  intro p e s m args below meth c s₁ B hml hv
  obtain ⟨rfl, hsz, hP, hK, hD0, hN⟩ := hv
  have hx := B.exec
  have hb := B.bytes
  have hr0 := B.returns
  have hts := atoms_spec (ws := wsX0_goBack) B.pre
  have hown : s.vm.findClass RX0 = some m.cls := findClass_of_methodNamed B.named
  have hlocks := B.notSynchronized
  subst hsz
  have hD := hD0.self (sz := s.heap.size)
  generalize hAe : va_A [(a0, .inr (0, [.ref a1, .ref a2, .ref a3, .ref a4, .int isOn, .int cnt, .int len, .int stp, .int sta, .int pm, .int bm])), (a1, .inl (cI, 16, .inl bw)), (a2, .inl (cI, 120, .inl bars)), (a3, .inl (cI, 40, .inl puts)), (a4, .inl (cI, 40, .inl bap)), (h0, .inr (3, [.ref h1, .int (nI K)])), (h1, .inl (cI, 16, .inl f))] s.heap.size = A at hD ⊢
  have hA : ∀ q : Nat, s.heap.size ≤ q → A q := fun q h => by rw [← hAe]; exact Or.inr h
  have hS : va_S A s.heap s.heap [] := va_S.rf
  have hl := lv_entry ([.ref a0, .ref h0]) (n := 3) (Nat.le_of_ble_eq_true rfl)
  rw [lg_entry_eq]
  generalize (lg_sl ([.ref a0, .ref h0]) ++ List.replicate (3 - (lg_sl ([.ref a0, .ref h0])).length) Slot.unset).toArray = ls at hl ⊢
  have hl : lv_has ls 3 [(0, .ref a0), (1, .ref h0)] := hl
  obtain ⟨ρ, hρ⟩ : ∃ ρ : (Nat → Int32) × (Nat → Int32) × (Nat → Int32) × Int32 × Int32 × Int32, ρ = P_goBack K f bw bars puts bap sta pm bm := ⟨_, rfl⟩
  have hr : P_goBack K f bw bars puts bap sta pm bm = ρ := hρ.symm
  rewrite [P_goBack] at hr
  refine lv_aload_n hx hb dX0_goBack_0 rfl (lv_at hl 0 rfl) ?_
  refine va_get (D := (dC, dI)) (ci := 0) (v := .int pm) (C := RX0) (T := TX0) (N := 11) hx hb hts (by decide +kernel) hown hK hP 0 rfl rfl 9 (by decide) (hts (.fieldLink RX0 41 "Shortring$Hunt" "putMany" "I") (by decide +kernel)) (fun _ h9 => h9) rfl dX0_goBack_1 ?_
  refine lv_iconst (v := 1) hx hb dX0_goBack_4 (by decide) ?_
  refine lv_isub hx hb dX0_goBack_5 ?_
  refine lv_topi (fun last_1 elast_1 => ?_)
  have hr := bd_to hr elast_1
  refine lv_istore_n (lv' := [(2, .int last_1), (0, .ref a0), (1, .ref h0)]) hx hb dX0_goBack_6 rfl hl (by decide) rfl (fun ls hl => ?_)
  refine lv_iload_n hx hb dX0_goBack_7 rfl (lv_at hl 0 rfl) ?_
  refine lv_if_lt (tgt := 29) hx hb dX0_goBack_8 (by decide) (fun c_2 => ?_) (fun c_2 => ?_)
  · have hr := if_to hr c_2
    refine lv_aload_n hx hb dX0_goBack_29 rfl (lv_at hl 1 rfl) ?_
    refine lv_iconst (v := 0) hx hb dX0_goBack_30 (by decide) ?_
    refine kCallV (wr := [(h0, .inr (3, [.ref h1, .int (nI K)])), (h1, .inl (cI, 16, .inl f))]) (va_runV (As := [.int 0]) (rest := []) ⟨hx, hb, hml, hown, hts⟩ (k_X0_unbarDownTo l dC dI cI cN a0 a1 a2 a3 a4 isOn cnt len stp sta pm bm bw bars puts bap 0 (by first | assumption | omega | exact Int32.le_refl _ | decide) _) (cwV 1 hts gX0_goBack_X0_unbarDownTo rfl rfl rfl (by decide +kernel) ⟨Nat.le_of_ble_eq_true rfl, Nat.le_of_ble_eq_true rfl⟩) (kU_V hP hK hD hN (ci := 0) (q0 := 0) rfl rfl [0, 1, 2, 3, 4] rfl rfl rfl) rfl rfl hl.1 rfl (lv_room (Nat.le_of_ble_eq_true rfl)) dX0_goBack_31 ⟨Nat.zero_le _, Nat.zero_le _⟩) hP hD hS hA [0, 1, 2, 3, 4] [5, 6] rfl rfl rfl rfl (by decide) rfl (fun H locs hP hD hS => ?_)
    obtain ⟨r_3, er_3⟩ : ∃ y : (Nat → Int32) × Int32, y = (P_unbarDownTo bw bars bm 0) := ⟨_, rfl⟩
    try rw [← er_3] at hP hD
    have hr := bd_to hr er_3
    have hP : va_P (dC, dI) kCl [(a0, .inr (0, [.ref a1, .ref a2, .ref a3, .ref a4, .int isOn, .int cnt, .int len, .int stp, .int sta, .int pm, .int r_3.2])), (a1, .inl (cI, 16, .inl r_3.1)), (a2, .inl (cI, 120, .inl bars)), (a3, .inl (cI, 40, .inl puts)), (a4, .inl (cI, 40, .inl bap)), (h0, .inr (3, [.ref h1, .int (nI K)])), (h1, .inl (cI, 16, .inl f))] H := hP.sub [2, 3, 4, 5, 6, 0, 1] rfl
    have hD : va_D A [(a0, .inr (0, [.ref a1, .ref a2, .ref a3, .ref a4, .int isOn, .int cnt, .int len, .int stp, .int sta, .int pm, .int r_3.2])), (a1, .inl (cI, 16, .inl r_3.1)), (a2, .inl (cI, 120, .inl bars)), (a3, .inl (cI, 40, .inl puts)), (a4, .inl (cI, 40, .inl bap)), (h0, .inr (3, [.ref h1, .int (nI K)])), (h1, .inl (cI, 16, .inl f))] := hD.sub [2, 3, 4, 5, 6, 0, 1] (by decide) rfl
    refine lv_aload_n hx hb dX0_goBack_34 rfl (lv_at hl 1 rfl) ?_
    refine lv_iconst (v := 2) hx hb dX0_goBack_35 (by decide) ?_
    refine va_put (D := (dC, dI)) (ci := 0) (v := .int 2) (ty := .int) (C := RX0) (T := TX0) (N := 11) hx hb hts (by decide +kernel) tyX0 tyX0_ok nmX0 hown hK hP hD hS 0 rfl rfl 8 (by decide) (hts (.fieldLink RX0 28 "Shortring$Hunt" "state" "I") (by decide +kernel)) (fun _ h9 => h9) rfl (by decide +kernel) rfl rfl (Nat.le_of_ble_eq_true rfl) dX0_goBack_36 (fun H locs hP hD hS => ?_)
    have hP : va_P (dC, dI) kCl [(a0, .inr (0, [.ref a1, .ref a2, .ref a3, .ref a4, .int isOn, .int cnt, .int len, .int stp, .int 2, .int pm, .int r_3.2])), (a1, .inl (cI, 16, .inl r_3.1)), (a2, .inl (cI, 120, .inl bars)), (a3, .inl (cI, 40, .inl puts)), (a4, .inl (cI, 40, .inl bap)), (h0, .inr (3, [.ref h1, .int (nI K)])), (h1, .inl (cI, 16, .inl f))] H := hP
    have hD : va_D A [(a0, .inr (0, [.ref a1, .ref a2, .ref a3, .ref a4, .int isOn, .int cnt, .int len, .int stp, .int 2, .int pm, .int r_3.2])), (a1, .inl (cI, 16, .inl r_3.1)), (a2, .inl (cI, 120, .inl bars)), (a3, .inl (cI, 40, .inl puts)), (a4, .inl (cI, 40, .inl bap)), (h0, .inr (3, [.ref h1, .int (nI K)])), (h1, .inl (cI, 16, .inl f))] := hD
    have he := hr.trans hρ
    exact W.vret hx hb hr0 (fun t ht hW => kV_end (by rw [← he]; exact hP) hS ht) hS.2.2 dX0_goBack_39
  · have hr := if_no hr c_2
    refine lv_iload_n hx hb dX0_goBack_11 rfl (lv_at hl 0 rfl) ?_
    refine lv_aload_n hx hb dX0_goBack_12 rfl (lv_at hl 1 rfl) ?_
    refine va_get (D := (dC, dI)) (ci := 0) (v := .ref a3) (C := RX0) (T := TX0) (N := 11) hx hb hts (by decide +kernel) hown hK hP 0 rfl rfl 2 (by decide) (hts (.fieldLink RX0 18 "Shortring$Hunt" "puts" "[I") (by decide +kernel)) (fun _ h9 => h9) rfl dX0_goBack_13 ?_
    refine va_alen (v := 40) hx hb hK hP 3 0 rfl rfl rfl dX0_goBack_16 ?_
    refine lv_icmp_ge (tgt := 29) hx hb dX0_goBack_17 (by decide) (fun c_4 => ?_) (fun c_4 => ?_)
    · have hr := if_to hr c_4
      refine lv_aload_n hx hb dX0_goBack_29 rfl (lv_at hl 1 rfl) ?_
      refine lv_iconst (v := 0) hx hb dX0_goBack_30 (by decide) ?_
      refine kCallV (wr := [(h0, .inr (3, [.ref h1, .int (nI K)])), (h1, .inl (cI, 16, .inl f))]) (va_runV (As := [.int 0]) (rest := []) ⟨hx, hb, hml, hown, hts⟩ (k_X0_unbarDownTo l dC dI cI cN a0 a1 a2 a3 a4 isOn cnt len stp sta pm bm bw bars puts bap 0 (by first | assumption | omega | exact Int32.le_refl _ | decide) _) (cwV 1 hts gX0_goBack_X0_unbarDownTo rfl rfl rfl (by decide +kernel) ⟨Nat.le_of_ble_eq_true rfl, Nat.le_of_ble_eq_true rfl⟩) (kU_V hP hK hD hN (ci := 0) (q0 := 0) rfl rfl [0, 1, 2, 3, 4] rfl rfl rfl) rfl rfl hl.1 rfl (lv_room (Nat.le_of_ble_eq_true rfl)) dX0_goBack_31 ⟨Nat.zero_le _, Nat.zero_le _⟩) hP hD hS hA [0, 1, 2, 3, 4] [5, 6] rfl rfl rfl rfl (by decide) rfl (fun H locs hP hD hS => ?_)
      obtain ⟨r_5, er_5⟩ : ∃ y : (Nat → Int32) × Int32, y = (P_unbarDownTo bw bars bm 0) := ⟨_, rfl⟩
      try rw [← er_5] at hP hD
      have hr := bd_to hr er_5
      have hP : va_P (dC, dI) kCl [(a0, .inr (0, [.ref a1, .ref a2, .ref a3, .ref a4, .int isOn, .int cnt, .int len, .int stp, .int sta, .int pm, .int r_5.2])), (a1, .inl (cI, 16, .inl r_5.1)), (a2, .inl (cI, 120, .inl bars)), (a3, .inl (cI, 40, .inl puts)), (a4, .inl (cI, 40, .inl bap)), (h0, .inr (3, [.ref h1, .int (nI K)])), (h1, .inl (cI, 16, .inl f))] H := hP.sub [2, 3, 4, 5, 6, 0, 1] rfl
      have hD : va_D A [(a0, .inr (0, [.ref a1, .ref a2, .ref a3, .ref a4, .int isOn, .int cnt, .int len, .int stp, .int sta, .int pm, .int r_5.2])), (a1, .inl (cI, 16, .inl r_5.1)), (a2, .inl (cI, 120, .inl bars)), (a3, .inl (cI, 40, .inl puts)), (a4, .inl (cI, 40, .inl bap)), (h0, .inr (3, [.ref h1, .int (nI K)])), (h1, .inl (cI, 16, .inl f))] := hD.sub [2, 3, 4, 5, 6, 0, 1] (by decide) rfl
      refine lv_aload_n hx hb dX0_goBack_34 rfl (lv_at hl 1 rfl) ?_
      refine lv_iconst (v := 2) hx hb dX0_goBack_35 (by decide) ?_
      refine va_put (D := (dC, dI)) (ci := 0) (v := .int 2) (ty := .int) (C := RX0) (T := TX0) (N := 11) hx hb hts (by decide +kernel) tyX0 tyX0_ok nmX0 hown hK hP hD hS 0 rfl rfl 8 (by decide) (hts (.fieldLink RX0 28 "Shortring$Hunt" "state" "I") (by decide +kernel)) (fun _ h9 => h9) rfl (by decide +kernel) rfl rfl (Nat.le_of_ble_eq_true rfl) dX0_goBack_36 (fun H locs hP hD hS => ?_)
      have hP : va_P (dC, dI) kCl [(a0, .inr (0, [.ref a1, .ref a2, .ref a3, .ref a4, .int isOn, .int cnt, .int len, .int stp, .int 2, .int pm, .int r_5.2])), (a1, .inl (cI, 16, .inl r_5.1)), (a2, .inl (cI, 120, .inl bars)), (a3, .inl (cI, 40, .inl puts)), (a4, .inl (cI, 40, .inl bap)), (h0, .inr (3, [.ref h1, .int (nI K)])), (h1, .inl (cI, 16, .inl f))] H := hP
      have hD : va_D A [(a0, .inr (0, [.ref a1, .ref a2, .ref a3, .ref a4, .int isOn, .int cnt, .int len, .int stp, .int 2, .int pm, .int r_5.2])), (a1, .inl (cI, 16, .inl r_5.1)), (a2, .inl (cI, 120, .inl bars)), (a3, .inl (cI, 40, .inl puts)), (a4, .inl (cI, 40, .inl bap)), (h0, .inr (3, [.ref h1, .int (nI K)])), (h1, .inl (cI, 16, .inl f))] := hD
      have he := hr.trans hρ
      exact W.vret hx hb hr0 (fun t ht hW => kV_end (by rw [← he]; exact hP) hS ht) hS.2.2 dX0_goBack_39
    · have hr := if_no hr c_4
      refine lv_iload_n hx hb dX0_goBack_20 rfl (lv_at hl 0 rfl) ?_
      refine lv_aload_n hx hb dX0_goBack_21 rfl (lv_at hl 1 rfl) ?_
      refine va_get (D := (dC, dI)) (ci := 0) (v := .ref a4) (C := RX0) (T := TX0) (N := 11) hx hb hts (by decide +kernel) hown hK hP 0 rfl rfl 3 (by decide) (hts (.fieldLink RX0 21 "Shortring$Hunt" "barsAtPut" "[I") (by decide +kernel)) (fun _ h9 => h9) rfl dX0_goBack_22 ?_
      refine va_alen (v := 40) hx hb hK hP 4 0 rfl rfl rfl dX0_goBack_25 ?_
      refine lv_icmp_lt (tgt := 40) hx hb dX0_goBack_26 (by decide) (fun c_6 => ?_) (fun c_6 => ?_)
      · have hr := if_to hr c_6
        refine lv_aload_n hx hb dX0_goBack_40 rfl (lv_at hl 1 rfl) ?_
        refine lv_iload_n hx hb dX0_goBack_41 rfl (lv_at hl 0 rfl) ?_
        refine va_put (D := (dC, dI)) (ci := 0) (v := .int last_1) (ty := .int) (C := RX0) (T := TX0) (N := 11) hx hb hts (by decide +kernel) tyX0 tyX0_ok nmX0 hown hK hP hD hS 0 rfl rfl 9 (by decide) (hts (.fieldLink RX0 41 "Shortring$Hunt" "putMany" "I") (by decide +kernel)) (fun _ h9 => h9) rfl (by decide +kernel) rfl rfl (Nat.le_of_ble_eq_true rfl) dX0_goBack_42 (fun H locs hP hD hS => ?_)
        have hP : va_P (dC, dI) kCl [(a0, .inr (0, [.ref a1, .ref a2, .ref a3, .ref a4, .int isOn, .int cnt, .int len, .int stp, .int sta, .int last_1, .int bm])), (a1, .inl (cI, 16, .inl bw)), (a2, .inl (cI, 120, .inl bars)), (a3, .inl (cI, 40, .inl puts)), (a4, .inl (cI, 40, .inl bap)), (h0, .inr (3, [.ref h1, .int (nI K)])), (h1, .inl (cI, 16, .inl f))] H := hP
        have hD : va_D A [(a0, .inr (0, [.ref a1, .ref a2, .ref a3, .ref a4, .int isOn, .int cnt, .int len, .int stp, .int sta, .int last_1, .int bm])), (a1, .inl (cI, 16, .inl bw)), (a2, .inl (cI, 120, .inl bars)), (a3, .inl (cI, 40, .inl puts)), (a4, .inl (cI, 40, .inl bap)), (h0, .inr (3, [.ref h1, .int (nI K)])), (h1, .inl (cI, 16, .inl f))] := hD
        refine lv_aload_n hx hb dX0_goBack_45 rfl (lv_at hl 2 rfl) ?_
        refine lv_aload_n hx hb dX0_goBack_46 rfl (lv_at hl 1 rfl) ?_
        refine va_get (D := (dC, dI)) (ci := 0) (v := .ref a3) (C := RX0) (T := TX0) (N := 11) hx hb hts (by decide +kernel) hown hK hP 0 rfl rfl 2 (by decide) (hts (.fieldLink RX0 18 "Shortring$Hunt" "puts" "[I") (by decide +kernel)) (fun _ h9 => h9) rfl dX0_goBack_47 ?_
        refine lv_iload_n hx hb dX0_goBack_50 rfl (lv_at hl 0 rfl) ?_
        refine va_iald hx hb hK hP 3 0 rfl rfl (kIn (N := 40) (by decide) (by assumption) (by assumption)) dX0_goBack_51 ?_
        refine kCall (va_runSN (As := [.int (puts (last_1).toNatClampNeg)]) (rest := [.ref h0]) ⟨hx, hb, hml, hown, hts⟩ (k_X6_oneOf l dC dI cI cN (puts (last_1).toNatClampNeg)) ⟨va_cnB 1 hts gX0_goBack_X6_oneOf_n77 rfl rfl rfl (hN.1 43 _ rfl) (hts (.initialized RX6) (by decide +kernel)) (by decide +kernel) ⟨Nat.le_of_ble_eq_true rfl, Nat.le_of_ble_eq_true rfl⟩, hts (.static yX6_oneOf) (by decide +kernel), trivial⟩ (kW_S hP hK hD hN [] rfl rfl rfl) rfl rfl hl.1 rfl (lv_room (Nat.le_of_ble_eq_true rfl)) dX0_goBack_52 ⟨Nat.zero_le _, Nat.zero_le _⟩) hP hS (fun H locs hP hS => ?_)
        refine lv_aload_n hx hb dX0_goBack_55 rfl (lv_at hl 1 rfl) ?_
        refine va_get (D := (dC, dI)) (ci := 0) (v := .ref a3) (C := RX0) (T := TX0) (N := 11) hx hb hts (by decide +kernel) hown hK hP 0 rfl rfl 2 (by decide) (hts (.fieldLink RX0 18 "Shortring$Hunt" "puts" "[I") (by decide +kernel)) (fun _ h9 => h9) rfl dX0_goBack_56 ?_
        refine lv_iload_n hx hb dX0_goBack_59 rfl (lv_at hl 0 rfl) ?_
        refine va_iald hx hb hK hP 3 0 rfl rfl (kIn (N := 40) (by decide) (by assumption) (by assumption)) dX0_goBack_60 ?_
        refine kCall (va_runSN (As := [.int (puts (last_1).toNatClampNeg)]) (rest := [.int (P_oneOf (puts (last_1).toNatClampNeg)), .ref h0]) ⟨hx, hb, hml, hown, hts⟩ (k_X6_otherOf l dC dI cI cN (puts (last_1).toNatClampNeg)) ⟨va_cnB 1 hts gX0_goBack_X6_otherOf_n81 rfl rfl rfl (hN.1 44 _ rfl) (hts (.initialized RX6) (by decide +kernel)) (by decide +kernel) ⟨Nat.le_of_ble_eq_true rfl, Nat.le_of_ble_eq_true rfl⟩, hts (.static yX6_otherOf) (by decide +kernel), trivial⟩ (kW_S hP hK hD hN [] rfl rfl rfl) rfl rfl hl.1 rfl (lv_room (Nat.le_of_ble_eq_true rfl)) dX0_goBack_61 ⟨Nat.zero_le _, Nat.zero_le _⟩) hP hS (fun H locs hP hS => ?_)
        refine kCallV (wr := [(a0, .inr (0, [.ref a1, .ref a2, .ref a3, .ref a4, .int isOn, .int cnt, .int len, .int stp, .int sta, .int last_1, .int bm])), (a1, .inl (cI, 16, .inl bw)), (a2, .inl (cI, 120, .inl bars)), (a3, .inl (cI, 40, .inl puts)), (a4, .inl (cI, 40, .inl bap))]) (va_runVN (As := [.int (P_oneOf (puts (last_1).toNatClampNeg)), .int (P_otherOf (puts (last_1).toNatClampNeg))]) (rest := []) ⟨hx, hb, hml, hown, hts⟩ (k_X3_loosen l dC dI cI cN h0 h1 K f (P_oneOf (puts (last_1).toNatClampNeg)) (P_otherOf (puts (last_1).toNatClampNeg)) (by first | assumption | omega | exact Int32.le_refl _ | decide) _) ⟨va_cnB 2 hts gX0_goBack_X3_loosen_n84 rfl rfl rfl (hN.1 45 _ rfl) (hts (.initialized RX3) (by decide +kernel)) (by decide +kernel) ⟨Nat.le_of_ble_eq_true rfl, Nat.le_of_ble_eq_true rfl⟩, hts (.instanceMethod yX3_loosen) (by decide +kernel), hts (.selects RX3 yX3_loosen yX3_loosen) (by decide +kernel)⟩ (kU_V hP hK hD hN (ci := 3) (q0 := 5) rfl rfl [5, 6] rfl rfl rfl) rfl rfl hl.1 rfl (lv_room (Nat.le_of_ble_eq_true rfl)) dX0_goBack_64 ⟨Nat.zero_le _, Nat.zero_le _⟩) hP hD hS hA [5, 6] [0, 1, 2, 3, 4] rfl rfl rfl rfl (by decide) rfl (fun H locs hP hD hS => ?_)
        obtain ⟨r_7, er_7⟩ : ∃ y : Nat → Int32, y = (P_loosen K f (P_oneOf (puts (last_1).toNatClampNeg)) (P_otherOf (puts (last_1).toNatClampNeg))) := ⟨_, rfl⟩
        try rw [← er_7] at hP hD
        have hr := bd_to hr er_7
        have hP : va_P (dC, dI) kCl [(a0, .inr (0, [.ref a1, .ref a2, .ref a3, .ref a4, .int isOn, .int cnt, .int len, .int stp, .int sta, .int last_1, .int bm])), (a1, .inl (cI, 16, .inl bw)), (a2, .inl (cI, 120, .inl bars)), (a3, .inl (cI, 40, .inl puts)), (a4, .inl (cI, 40, .inl bap)), (h0, .inr (3, [.ref h1, .int (nI K)])), (h1, .inl (cI, 16, .inl r_7))] H := hP.sub [0, 1, 2, 3, 4, 5, 6] rfl
        have hD : va_D A [(a0, .inr (0, [.ref a1, .ref a2, .ref a3, .ref a4, .int isOn, .int cnt, .int len, .int stp, .int sta, .int last_1, .int bm])), (a1, .inl (cI, 16, .inl bw)), (a2, .inl (cI, 120, .inl bars)), (a3, .inl (cI, 40, .inl puts)), (a4, .inl (cI, 40, .inl bap)), (h0, .inr (3, [.ref h1, .int (nI K)])), (h1, .inl (cI, 16, .inl r_7))] := hD.sub [0, 1, 2, 3, 4, 5, 6] (by decide) rfl
        refine lv_aload_n hx hb dX0_goBack_67 rfl (lv_at hl 1 rfl) ?_
        refine lv_aload_n hx hb dX0_goBack_68 rfl (lv_at hl 1 rfl) ?_
        refine va_get (D := (dC, dI)) (ci := 0) (v := .ref a4) (C := RX0) (T := TX0) (N := 11) hx hb hts (by decide +kernel) hown hK hP 0 rfl rfl 3 (by decide) (hts (.fieldLink RX0 21 "Shortring$Hunt" "barsAtPut" "[I") (by decide +kernel)) (fun _ h9 => h9) rfl dX0_goBack_69 ?_
        refine lv_iload_n hx hb dX0_goBack_72 rfl (lv_at hl 0 rfl) ?_
        refine va_iald hx hb hK hP 4 0 rfl rfl (kIn (N := 40) (by decide) (by assumption) (by assumption)) dX0_goBack_73 ?_
        refine kCallV (wr := [(h0, .inr (3, [.ref h1, .int (nI K)])), (h1, .inl (cI, 16, .inl r_7))]) (va_runV (As := [.int (bap (last_1).toNatClampNeg)]) (rest := []) ⟨hx, hb, hml, hown, hts⟩ (k_X0_unbarDownTo l dC dI cI cN a0 a1 a2 a3 a4 isOn cnt len stp sta last_1 bm bw bars puts bap (bap (last_1).toNatClampNeg) (hbap _) _) (cwV 1 hts gX0_goBack_X0_unbarDownTo rfl rfl rfl (by decide +kernel) ⟨Nat.le_of_ble_eq_true rfl, Nat.le_of_ble_eq_true rfl⟩) (kU_V hP hK hD hN (ci := 0) (q0 := 0) rfl rfl [0, 1, 2, 3, 4] rfl rfl rfl) rfl rfl hl.1 rfl (lv_room (Nat.le_of_ble_eq_true rfl)) dX0_goBack_74 ⟨Nat.zero_le _, Nat.zero_le _⟩) hP hD hS hA [0, 1, 2, 3, 4] [5, 6] rfl rfl rfl rfl (by decide) rfl (fun H locs hP hD hS => ?_)
        obtain ⟨r_8, er_8⟩ : ∃ y : (Nat → Int32) × Int32, y = (P_unbarDownTo bw bars bm (bap (last_1).toNatClampNeg)) := ⟨_, rfl⟩
        try rw [← er_8] at hP hD
        have hr := bd_to hr er_8
        have hP : va_P (dC, dI) kCl [(a0, .inr (0, [.ref a1, .ref a2, .ref a3, .ref a4, .int isOn, .int cnt, .int len, .int stp, .int sta, .int last_1, .int r_8.2])), (a1, .inl (cI, 16, .inl r_8.1)), (a2, .inl (cI, 120, .inl bars)), (a3, .inl (cI, 40, .inl puts)), (a4, .inl (cI, 40, .inl bap)), (h0, .inr (3, [.ref h1, .int (nI K)])), (h1, .inl (cI, 16, .inl r_7))] H := hP.sub [2, 3, 4, 5, 6, 0, 1] rfl
        have hD : va_D A [(a0, .inr (0, [.ref a1, .ref a2, .ref a3, .ref a4, .int isOn, .int cnt, .int len, .int stp, .int sta, .int last_1, .int r_8.2])), (a1, .inl (cI, 16, .inl r_8.1)), (a2, .inl (cI, 120, .inl bars)), (a3, .inl (cI, 40, .inl puts)), (a4, .inl (cI, 40, .inl bap)), (h0, .inr (3, [.ref h1, .int (nI K)])), (h1, .inl (cI, 16, .inl r_7))] := hD.sub [2, 3, 4, 5, 6, 0, 1] (by decide) rfl
        refine lv_aload_n hx hb dX0_goBack_77 rfl (lv_at hl 1 rfl) ?_
        refine lv_aload_n hx hb dX0_goBack_78 rfl (lv_at hl 1 rfl) ?_
        refine va_get (D := (dC, dI)) (ci := 0) (v := .ref a3) (C := RX0) (T := TX0) (N := 11) hx hb hts (by decide +kernel) hown hK hP 0 rfl rfl 2 (by decide) (hts (.fieldLink RX0 18 "Shortring$Hunt" "puts" "[I") (by decide +kernel)) (fun _ h9 => h9) rfl dX0_goBack_79 ?_
        refine lv_iload_n hx hb dX0_goBack_82 rfl (lv_at hl 0 rfl) ?_
        refine va_iald hx hb hK hP 3 0 rfl rfl (kIn (N := 40) (by decide) (by assumption) (by assumption)) dX0_goBack_83 ?_
        refine kCallV (wr := [(h0, .inr (3, [.ref h1, .int (nI K)])), (h1, .inl (cI, 16, .inl r_7))]) (va_runV (As := [.int (puts (last_1).toNatClampNeg)]) (rest := []) ⟨hx, hb, hml, hown, hts⟩ (k_X0_bar l dC dI cI cN a0 a1 a2 a3 a4 isOn cnt len stp sta last_1 r_8.2 r_8.1 bars puts bap (puts (last_1).toNatClampNeg) _) (cwV 1 hts gX0_goBack_X0_bar rfl rfl rfl (by decide +kernel) ⟨Nat.le_of_ble_eq_true rfl, Nat.le_of_ble_eq_true rfl⟩) (kU_V hP hK hD hN (ci := 0) (q0 := 0) rfl rfl [0, 1, 2, 3, 4] rfl rfl rfl) rfl rfl hl.1 rfl (lv_room (Nat.le_of_ble_eq_true rfl)) dX0_goBack_84 ⟨Nat.zero_le _, Nat.zero_le _⟩) hP hD hS hA [0, 1, 2, 3, 4] [5, 6] rfl rfl rfl rfl (by decide) rfl (fun H locs hP hD hS => ?_)
        obtain ⟨r_9, er_9⟩ : ∃ y : (Nat → Int32) × (Nat → Int32) × Int32, y = (P_bar r_8.1 bars r_8.2 (puts (last_1).toNatClampNeg)) := ⟨_, rfl⟩
        try rw [← er_9] at hP hD
        have hr := bd_to hr er_9
        have hP : va_P (dC, dI) kCl [(a0, .inr (0, [.ref a1, .ref a2, .ref a3, .ref a4, .int isOn, .int cnt, .int len, .int stp, .int sta, .int last_1, .int r_9.2.2])), (a1, .inl (cI, 16, .inl r_9.1)), (a2, .inl (cI, 120, .inl r_9.2.1)), (a3, .inl (cI, 40, .inl puts)), (a4, .inl (cI, 40, .inl bap)), (h0, .inr (3, [.ref h1, .int (nI K)])), (h1, .inl (cI, 16, .inl r_7))] H := hP.sub [2, 3, 4, 5, 6, 0, 1] rfl
        have hD : va_D A [(a0, .inr (0, [.ref a1, .ref a2, .ref a3, .ref a4, .int isOn, .int cnt, .int len, .int stp, .int sta, .int last_1, .int r_9.2.2])), (a1, .inl (cI, 16, .inl r_9.1)), (a2, .inl (cI, 120, .inl r_9.2.1)), (a3, .inl (cI, 40, .inl puts)), (a4, .inl (cI, 40, .inl bap)), (h0, .inr (3, [.ref h1, .int (nI K)])), (h1, .inl (cI, 16, .inl r_7))] := hD.sub [2, 3, 4, 5, 6, 0, 1] (by decide) rfl
        have he := hr.trans hρ
        exact W.vret hx hb hr0 (fun t ht hW => kV_end (by rw [← he]; exact hP) hS ht) hS.2.2 dX0_goBack_87
      · have hr := if_no hr c_6
        refine lv_aload_n hx hb dX0_goBack_29 rfl (lv_at hl 1 rfl) ?_
        refine lv_iconst (v := 0) hx hb dX0_goBack_30 (by decide) ?_
        refine kCallV (wr := [(h0, .inr (3, [.ref h1, .int (nI K)])), (h1, .inl (cI, 16, .inl f))]) (va_runV (As := [.int 0]) (rest := []) ⟨hx, hb, hml, hown, hts⟩ (k_X0_unbarDownTo l dC dI cI cN a0 a1 a2 a3 a4 isOn cnt len stp sta pm bm bw bars puts bap 0 (by first | assumption | omega | exact Int32.le_refl _ | decide) _) (cwV 1 hts gX0_goBack_X0_unbarDownTo rfl rfl rfl (by decide +kernel) ⟨Nat.le_of_ble_eq_true rfl, Nat.le_of_ble_eq_true rfl⟩) (kU_V hP hK hD hN (ci := 0) (q0 := 0) rfl rfl [0, 1, 2, 3, 4] rfl rfl rfl) rfl rfl hl.1 rfl (lv_room (Nat.le_of_ble_eq_true rfl)) dX0_goBack_31 ⟨Nat.zero_le _, Nat.zero_le _⟩) hP hD hS hA [0, 1, 2, 3, 4] [5, 6] rfl rfl rfl rfl (by decide) rfl (fun H locs hP hD hS => ?_)
        obtain ⟨r_10, er_10⟩ : ∃ y : (Nat → Int32) × Int32, y = (P_unbarDownTo bw bars bm 0) := ⟨_, rfl⟩
        try rw [← er_10] at hP hD
        have hr := bd_to hr er_10
        have hP : va_P (dC, dI) kCl [(a0, .inr (0, [.ref a1, .ref a2, .ref a3, .ref a4, .int isOn, .int cnt, .int len, .int stp, .int sta, .int pm, .int r_10.2])), (a1, .inl (cI, 16, .inl r_10.1)), (a2, .inl (cI, 120, .inl bars)), (a3, .inl (cI, 40, .inl puts)), (a4, .inl (cI, 40, .inl bap)), (h0, .inr (3, [.ref h1, .int (nI K)])), (h1, .inl (cI, 16, .inl f))] H := hP.sub [2, 3, 4, 5, 6, 0, 1] rfl
        have hD : va_D A [(a0, .inr (0, [.ref a1, .ref a2, .ref a3, .ref a4, .int isOn, .int cnt, .int len, .int stp, .int sta, .int pm, .int r_10.2])), (a1, .inl (cI, 16, .inl r_10.1)), (a2, .inl (cI, 120, .inl bars)), (a3, .inl (cI, 40, .inl puts)), (a4, .inl (cI, 40, .inl bap)), (h0, .inr (3, [.ref h1, .int (nI K)])), (h1, .inl (cI, 16, .inl f))] := hD.sub [2, 3, 4, 5, 6, 0, 1] (by decide) rfl
        refine lv_aload_n hx hb dX0_goBack_34 rfl (lv_at hl 1 rfl) ?_
        refine lv_iconst (v := 2) hx hb dX0_goBack_35 (by decide) ?_
        refine va_put (D := (dC, dI)) (ci := 0) (v := .int 2) (ty := .int) (C := RX0) (T := TX0) (N := 11) hx hb hts (by decide +kernel) tyX0 tyX0_ok nmX0 hown hK hP hD hS 0 rfl rfl 8 (by decide) (hts (.fieldLink RX0 28 "Shortring$Hunt" "state" "I") (by decide +kernel)) (fun _ h9 => h9) rfl (by decide +kernel) rfl rfl (Nat.le_of_ble_eq_true rfl) dX0_goBack_36 (fun H locs hP hD hS => ?_)
        have hP : va_P (dC, dI) kCl [(a0, .inr (0, [.ref a1, .ref a2, .ref a3, .ref a4, .int isOn, .int cnt, .int len, .int stp, .int 2, .int pm, .int r_10.2])), (a1, .inl (cI, 16, .inl r_10.1)), (a2, .inl (cI, 120, .inl bars)), (a3, .inl (cI, 40, .inl puts)), (a4, .inl (cI, 40, .inl bap)), (h0, .inr (3, [.ref h1, .int (nI K)])), (h1, .inl (cI, 16, .inl f))] H := hP
        have hD : va_D A [(a0, .inr (0, [.ref a1, .ref a2, .ref a3, .ref a4, .int isOn, .int cnt, .int len, .int stp, .int 2, .int pm, .int r_10.2])), (a1, .inl (cI, 16, .inl r_10.1)), (a2, .inl (cI, 120, .inl bars)), (a3, .inl (cI, 40, .inl puts)), (a4, .inl (cI, 40, .inl bap)), (h0, .inr (3, [.ref h1, .int (nI K)])), (h1, .inl (cI, 16, .inl f))] := hD
        have he := hr.trans hρ
        exact W.vret hx hb hr0 (fun t ht hW => kV_end (by rw [← he]; exact hP) hS ht) hS.2.2 dX0_goBack_39
def P_begin (bw : Nat → Int32) (bars : Nat → Int32) (bm : Int32) : (Nat → Int32) × Int32 :=
  bd (P_unbarDownTo bw bars bm 0) (fun r_1 =>
    (r_1.1, r_1.2))
abbrev rm_X0_begin : Room := { frames := 3, cells := 0, slots := 0, locals := 64 }
set_option maxHeartbeats 4000000 in
set_option maxRecDepth 100000 in
theorem k_X0_begin (l : Launch) (dC : Nat → ClassId) (dI : Nat → Nat → Nat) (cI cN : ClassId) (a0 : Nat) (a1 : Nat) (a2 : Nat) (a3 : Nat) (a4 : Nat) (isOn : Int32) (cnt : Int32) (len : Int32) (stp : Int32) (sta : Int32) (pm : Int32) (bm : Int32) (bw : Nat → Int32) (bars : Nat → Int32) (puts : Nat → Int32) (bap : Nat → Int32) (cnt1 : Int32) (len1 : Int32) (sz : Nat) : Met l yX0_begin wsX0_begin rm_X0_begin (va_Pc [.ref a0, .int cnt1, .int len1] (kU dC dI cI cN [(a0, .inr (0, [.ref a1, .ref a2, .ref a3, .ref a4, .int isOn, .int cnt, .int len, .int stp, .int sta, .int pm, .int bm])), (a1, .inl (cI, 16, .inl bw)), (a2, .inl (cI, 120, .inl bars)), (a3, .inl (cI, 40, .inl puts)), (a4, .inl (cI, 40, .inl bap))] sz)) (kV dC dI [(a0, .inr (0, [.ref a1, .ref a2, .ref a3, .ref a4, .int 1, .int cnt1, .int len1, .int 0, .int 0, .int 0, .int ((P_begin bw bars bm).2)])), (a1, .inl (cI, 16, .inl ((P_begin bw bars bm).1))), (a2, .inl (cI, 120, .inl bars)), (a3, .inl (cI, 40, .inl puts)), (a4, .inl (cI, 40, .inl bap))] (va_A [(a0, .inr (0, [.ref a1, .ref a2, .ref a3, .ref a4, .int isOn, .int cnt, .int len, .int stp, .int sta, .int pm, .int bm])), (a1, .inl (cI, 16, .inl bw)), (a2, .inl (cI, 120, .inl bars)), (a3, .inl (cI, 40, .inl puts)), (a4, .inl (cI, 40, .inl bap))] sz)) 0 0 (va_A [(a0, .inr (0, [.ref a1, .ref a2, .ref a3, .ref a4, .int isOn, .int cnt, .int len, .int stp, .int sta, .int pm, .int bm])), (a1, .inl (cI, 16, .inl bw)), (a2, .inl (cI, 120, .inl bars)), (a3, .inl (cI, 40, .inl puts)), (a4, .inl (cI, 40, .inl bap))] sz) := by
  refine Met.ofW (cc := cX0_begin) (maxL := 3) (ret := none) (by decide) rfl ?_
  intro p e s m args below meth c s₁ B hml hv
  obtain ⟨rfl, hsz, hP, hK, hD0, hN⟩ := hv
  have hx := B.exec
  have hb := B.bytes
  have hr0 := B.returns
  have hts := atoms_spec (ws := wsX0_begin) B.pre
  have hown : s.vm.findClass RX0 = some m.cls := findClass_of_methodNamed B.named
  have hlocks := B.notSynchronized
  subst hsz
  have hD := hD0.self (sz := s.heap.size)
  generalize hAe : va_A [(a0, .inr (0, [.ref a1, .ref a2, .ref a3, .ref a4, .int isOn, .int cnt, .int len, .int stp, .int sta, .int pm, .int bm])), (a1, .inl (cI, 16, .inl bw)), (a2, .inl (cI, 120, .inl bars)), (a3, .inl (cI, 40, .inl puts)), (a4, .inl (cI, 40, .inl bap))] s.heap.size = A at hD ⊢
  have hA : ∀ q : Nat, s.heap.size ≤ q → A q := fun q h => by rw [← hAe]; exact Or.inr h
  have hS : va_S A s.heap s.heap [] := va_S.rf
  have hl := lv_entry ([.ref a0, .int cnt1, .int len1]) (n := 3) (Nat.le_of_ble_eq_true rfl)
  rw [lg_entry_eq]
  generalize (lg_sl ([.ref a0, .int cnt1, .int len1]) ++ List.replicate (3 - (lg_sl ([.ref a0, .int cnt1, .int len1])).length) Slot.unset).toArray = ls at hl ⊢
  have hl : lv_has ls 3 [(0, .ref a0), (1, .int cnt1), (2, .int len1)] := hl
  obtain ⟨ρ, hρ⟩ : ∃ ρ : (Nat → Int32) × Int32, ρ = P_begin bw bars bm := ⟨_, rfl⟩
  have hr : P_begin bw bars bm = ρ := hρ.symm
  rewrite [P_begin] at hr
  refine lv_aload_n hx hb dX0_begin_0 rfl (lv_at hl 0 rfl) ?_
  refine lv_iconst (v := 1) hx hb dX0_begin_1 (by decide) ?_
  refine va_put (D := (dC, dI)) (ci := 0) (v := .int 1) (ty := .boolean) (C := RX0) (T := TX0) (N := 11) hx hb hts (by decide +kernel) tyX0 tyX0_ok nmX0 hown hK hP hD hS 0 rfl rfl 4 (by decide) (hts (.fieldLink RX0 24 "Shortring$Hunt" "isOn" "Z") (by decide +kernel)) (fun _ h9 => h9) rfl (by decide +kernel) rfl rfl (Nat.le_of_ble_eq_true rfl) dX0_begin_2 (fun H locs hP hD hS => ?_)
  have hP : va_P (dC, dI) kCl [(a0, .inr (0, [.ref a1, .ref a2, .ref a3, .ref a4, .int 1, .int cnt, .int len, .int stp, .int sta, .int pm, .int bm])), (a1, .inl (cI, 16, .inl bw)), (a2, .inl (cI, 120, .inl bars)), (a3, .inl (cI, 40, .inl puts)), (a4, .inl (cI, 40, .inl bap))] H := hP
  have hD : va_D A [(a0, .inr (0, [.ref a1, .ref a2, .ref a3, .ref a4, .int 1, .int cnt, .int len, .int stp, .int sta, .int pm, .int bm])), (a1, .inl (cI, 16, .inl bw)), (a2, .inl (cI, 120, .inl bars)), (a3, .inl (cI, 40, .inl puts)), (a4, .inl (cI, 40, .inl bap))] := hD
  refine lv_aload_n hx hb dX0_begin_5 rfl (lv_at hl 0 rfl) ?_
  refine lv_iload_n hx hb dX0_begin_6 rfl (lv_at hl 1 rfl) ?_
  refine va_put (D := (dC, dI)) (ci := 0) (v := .int cnt1) (ty := .int) (C := RX0) (T := TX0) (N := 11) hx hb hts (by decide +kernel) tyX0 tyX0_ok nmX0 hown hK hP hD hS 0 rfl rfl 5 (by decide) (hts (.fieldLink RX0 32 "Shortring$Hunt" "count" "I") (by decide +kernel)) (fun _ h9 => h9) rfl (by decide +kernel) rfl rfl (Nat.le_of_ble_eq_true rfl) dX0_begin_7 (fun H locs hP hD hS => ?_)
  have hP : va_P (dC, dI) kCl [(a0, .inr (0, [.ref a1, .ref a2, .ref a3, .ref a4, .int 1, .int cnt1, .int len, .int stp, .int sta, .int pm, .int bm])), (a1, .inl (cI, 16, .inl bw)), (a2, .inl (cI, 120, .inl bars)), (a3, .inl (cI, 40, .inl puts)), (a4, .inl (cI, 40, .inl bap))] H := hP
  have hD : va_D A [(a0, .inr (0, [.ref a1, .ref a2, .ref a3, .ref a4, .int 1, .int cnt1, .int len, .int stp, .int sta, .int pm, .int bm])), (a1, .inl (cI, 16, .inl bw)), (a2, .inl (cI, 120, .inl bars)), (a3, .inl (cI, 40, .inl puts)), (a4, .inl (cI, 40, .inl bap))] := hD
  refine lv_aload_n hx hb dX0_begin_10 rfl (lv_at hl 0 rfl) ?_
  refine lv_iload_n hx hb dX0_begin_11 rfl (lv_at hl 2 rfl) ?_
  refine va_put (D := (dC, dI)) (ci := 0) (v := .int len1) (ty := .int) (C := RX0) (T := TX0) (N := 11) hx hb hts (by decide +kernel) tyX0 tyX0_ok nmX0 hown hK hP hD hS 0 rfl rfl 6 (by decide) (hts (.fieldLink RX0 35 "Shortring$Hunt" "length" "I") (by decide +kernel)) (fun _ h9 => h9) rfl (by decide +kernel) rfl rfl (Nat.le_of_ble_eq_true rfl) dX0_begin_12 (fun H locs hP hD hS => ?_)
  have hP : va_P (dC, dI) kCl [(a0, .inr (0, [.ref a1, .ref a2, .ref a3, .ref a4, .int 1, .int cnt1, .int len1, .int stp, .int sta, .int pm, .int bm])), (a1, .inl (cI, 16, .inl bw)), (a2, .inl (cI, 120, .inl bars)), (a3, .inl (cI, 40, .inl puts)), (a4, .inl (cI, 40, .inl bap))] H := hP
  have hD : va_D A [(a0, .inr (0, [.ref a1, .ref a2, .ref a3, .ref a4, .int 1, .int cnt1, .int len1, .int stp, .int sta, .int pm, .int bm])), (a1, .inl (cI, 16, .inl bw)), (a2, .inl (cI, 120, .inl bars)), (a3, .inl (cI, 40, .inl puts)), (a4, .inl (cI, 40, .inl bap))] := hD
  refine lv_aload_n hx hb dX0_begin_15 rfl (lv_at hl 0 rfl) ?_
  refine lv_iconst (v := 0) hx hb dX0_begin_16 (by decide) ?_
  refine va_put (D := (dC, dI)) (ci := 0) (v := .int 0) (ty := .int) (C := RX0) (T := TX0) (N := 11) hx hb hts (by decide +kernel) tyX0 tyX0_ok nmX0 hown hK hP hD hS 0 rfl rfl 7 (by decide) (hts (.fieldLink RX0 38 "Shortring$Hunt" "steps" "I") (by decide +kernel)) (fun _ h9 => h9) rfl (by decide +kernel) rfl rfl (Nat.le_of_ble_eq_true rfl) dX0_begin_17 (fun H locs hP hD hS => ?_)
  have hP : va_P (dC, dI) kCl [(a0, .inr (0, [.ref a1, .ref a2, .ref a3, .ref a4, .int 1, .int cnt1, .int len1, .int 0, .int sta, .int pm, .int bm])), (a1, .inl (cI, 16, .inl bw)), (a2, .inl (cI, 120, .inl bars)), (a3, .inl (cI, 40, .inl puts)), (a4, .inl (cI, 40, .inl bap))] H := hP
  have hD : va_D A [(a0, .inr (0, [.ref a1, .ref a2, .ref a3, .ref a4, .int 1, .int cnt1, .int len1, .int 0, .int sta, .int pm, .int bm])), (a1, .inl (cI, 16, .inl bw)), (a2, .inl (cI, 120, .inl bars)), (a3, .inl (cI, 40, .inl puts)), (a4, .inl (cI, 40, .inl bap))] := hD
  refine lv_aload_n hx hb dX0_begin_20 rfl (lv_at hl 0 rfl) ?_
  refine lv_iconst (v := 0) hx hb dX0_begin_21 (by decide) ?_
  refine va_put (D := (dC, dI)) (ci := 0) (v := .int 0) (ty := .int) (C := RX0) (T := TX0) (N := 11) hx hb hts (by decide +kernel) tyX0 tyX0_ok nmX0 hown hK hP hD hS 0 rfl rfl 8 (by decide) (hts (.fieldLink RX0 28 "Shortring$Hunt" "state" "I") (by decide +kernel)) (fun _ h9 => h9) rfl (by decide +kernel) rfl rfl (Nat.le_of_ble_eq_true rfl) dX0_begin_22 (fun H locs hP hD hS => ?_)
  have hP : va_P (dC, dI) kCl [(a0, .inr (0, [.ref a1, .ref a2, .ref a3, .ref a4, .int 1, .int cnt1, .int len1, .int 0, .int 0, .int pm, .int bm])), (a1, .inl (cI, 16, .inl bw)), (a2, .inl (cI, 120, .inl bars)), (a3, .inl (cI, 40, .inl puts)), (a4, .inl (cI, 40, .inl bap))] H := hP
  have hD : va_D A [(a0, .inr (0, [.ref a1, .ref a2, .ref a3, .ref a4, .int 1, .int cnt1, .int len1, .int 0, .int 0, .int pm, .int bm])), (a1, .inl (cI, 16, .inl bw)), (a2, .inl (cI, 120, .inl bars)), (a3, .inl (cI, 40, .inl puts)), (a4, .inl (cI, 40, .inl bap))] := hD
  refine lv_aload_n hx hb dX0_begin_25 rfl (lv_at hl 0 rfl) ?_
  refine lv_iconst (v := 0) hx hb dX0_begin_26 (by decide) ?_
  refine va_put (D := (dC, dI)) (ci := 0) (v := .int 0) (ty := .int) (C := RX0) (T := TX0) (N := 11) hx hb hts (by decide +kernel) tyX0 tyX0_ok nmX0 hown hK hP hD hS 0 rfl rfl 9 (by decide) (hts (.fieldLink RX0 41 "Shortring$Hunt" "putMany" "I") (by decide +kernel)) (fun _ h9 => h9) rfl (by decide +kernel) rfl rfl (Nat.le_of_ble_eq_true rfl) dX0_begin_27 (fun H locs hP hD hS => ?_)
  have hP : va_P (dC, dI) kCl [(a0, .inr (0, [.ref a1, .ref a2, .ref a3, .ref a4, .int 1, .int cnt1, .int len1, .int 0, .int 0, .int 0, .int bm])), (a1, .inl (cI, 16, .inl bw)), (a2, .inl (cI, 120, .inl bars)), (a3, .inl (cI, 40, .inl puts)), (a4, .inl (cI, 40, .inl bap))] H := hP
  have hD : va_D A [(a0, .inr (0, [.ref a1, .ref a2, .ref a3, .ref a4, .int 1, .int cnt1, .int len1, .int 0, .int 0, .int 0, .int bm])), (a1, .inl (cI, 16, .inl bw)), (a2, .inl (cI, 120, .inl bars)), (a3, .inl (cI, 40, .inl puts)), (a4, .inl (cI, 40, .inl bap))] := hD
  refine lv_aload_n hx hb dX0_begin_30 rfl (lv_at hl 0 rfl) ?_
  refine lv_iconst (v := 0) hx hb dX0_begin_31 (by decide) ?_
  refine kCallV (wr := []) (va_runV (As := [.int 0]) (rest := []) ⟨hx, hb, hml, hown, hts⟩ (k_X0_unbarDownTo l dC dI cI cN a0 a1 a2 a3 a4 1 cnt1 len1 0 0 0 bm bw bars puts bap 0 (by first | assumption | omega | exact Int32.le_refl _ | decide) _) (cwV 1 hts gX0_begin_X0_unbarDownTo rfl rfl rfl (by decide +kernel) ⟨Nat.le_of_ble_eq_true rfl, Nat.le_of_ble_eq_true rfl⟩) (kU_V hP hK hD hN (ci := 0) (q0 := 0) rfl rfl [0, 1, 2, 3, 4] rfl rfl rfl) rfl rfl hl.1 rfl (lv_room (Nat.le_of_ble_eq_true rfl)) dX0_begin_32 ⟨Nat.zero_le _, Nat.zero_le _⟩) hP hD hS hA [0, 1, 2, 3, 4] [] rfl rfl rfl rfl (by decide) rfl (fun H locs hP hD hS => ?_)
  obtain ⟨r_1, er_1⟩ : ∃ y : (Nat → Int32) × Int32, y = (P_unbarDownTo bw bars bm 0) := ⟨_, rfl⟩
  try rw [← er_1] at hP hD
  have hr := bd_to hr er_1
  have hP : va_P (dC, dI) kCl [(a0, .inr (0, [.ref a1, .ref a2, .ref a3, .ref a4, .int 1, .int cnt1, .int len1, .int 0, .int 0, .int 0, .int r_1.2])), (a1, .inl (cI, 16, .inl r_1.1)), (a2, .inl (cI, 120, .inl bars)), (a3, .inl (cI, 40, .inl puts)), (a4, .inl (cI, 40, .inl bap))] H := hP.sub [0, 1, 2, 3, 4] rfl
  have hD : va_D A [(a0, .inr (0, [.ref a1, .ref a2, .ref a3, .ref a4, .int 1, .int cnt1, .int len1, .int 0, .int 0, .int 0, .int r_1.2])), (a1, .inl (cI, 16, .inl r_1.1)), (a2, .inl (cI, 120, .inl bars)), (a3, .inl (cI, 40, .inl puts)), (a4, .inl (cI, 40, .inl bap))] := hD.sub [0, 1, 2, 3, 4] (by decide) rfl
  have he := hr.trans hρ
  exact W.vret hx hb hr0 (fun t ht hW => kV_end (by rw [← he]; exact hP) hS ht) hS.2.2 dX0_begin_35
def P_end  : Unit :=
  ()
abbrev rm_X0_end : Room := { frames := 0, cells := 0, slots := 0, locals := 0 }
set_option maxHeartbeats 4000000 in
set_option maxRecDepth 100000 in
theorem k_X0_end (l : Launch) (dC : Nat → ClassId) (dI : Nat → Nat → Nat) (cI cN : ClassId) (a0 : Nat) (a1 : Nat) (a2 : Nat) (a3 : Nat) (a4 : Nat) (isOn : Int32) (cnt : Int32) (len : Int32) (stp : Int32) (sta : Int32) (pm : Int32) (bm : Int32) (bw : Nat → Int32) (bars : Nat → Int32) (puts : Nat → Int32) (bap : Nat → Int32) (sz : Nat) : Met l yX0_end wsX0_end rm_X0_end (va_Pc [.ref a0] (kU dC dI cI cN [(a0, .inr (0, [.ref a1, .ref a2, .ref a3, .ref a4, .int isOn, .int cnt, .int len, .int stp, .int sta, .int pm, .int bm])), (a1, .inl (cI, 16, .inl bw)), (a2, .inl (cI, 120, .inl bars)), (a3, .inl (cI, 40, .inl puts)), (a4, .inl (cI, 40, .inl bap))] sz)) (kV dC dI [(a0, .inr (0, [.ref a1, .ref a2, .ref a3, .ref a4, .int 0, .int cnt, .int len, .int stp, .int sta, .int pm, .int bm])), (a1, .inl (cI, 16, .inl bw)), (a2, .inl (cI, 120, .inl bars)), (a3, .inl (cI, 40, .inl puts)), (a4, .inl (cI, 40, .inl bap))] (va_A [(a0, .inr (0, [.ref a1, .ref a2, .ref a3, .ref a4, .int isOn, .int cnt, .int len, .int stp, .int sta, .int pm, .int bm])), (a1, .inl (cI, 16, .inl bw)), (a2, .inl (cI, 120, .inl bars)), (a3, .inl (cI, 40, .inl puts)), (a4, .inl (cI, 40, .inl bap))] sz)) 0 0 (va_A [(a0, .inr (0, [.ref a1, .ref a2, .ref a3, .ref a4, .int isOn, .int cnt, .int len, .int stp, .int sta, .int pm, .int bm])), (a1, .inl (cI, 16, .inl bw)), (a2, .inl (cI, 120, .inl bars)), (a3, .inl (cI, 40, .inl puts)), (a4, .inl (cI, 40, .inl bap))] sz) := by
  refine Met.ofW (cc := cX0_end) (maxL := 1) (ret := none) (by decide) rfl ?_
  intro p e s m args below meth c s₁ B hml hv
  obtain ⟨rfl, hsz, hP, hK, hD0, hN⟩ := hv
  have hx := B.exec
  have hb := B.bytes
  have hr0 := B.returns
  have hts := atoms_spec (ws := wsX0_end) B.pre
  have hown : s.vm.findClass RX0 = some m.cls := findClass_of_methodNamed B.named
  have hlocks := B.notSynchronized
  subst hsz
  have hD := hD0.self (sz := s.heap.size)
  generalize hAe : va_A [(a0, .inr (0, [.ref a1, .ref a2, .ref a3, .ref a4, .int isOn, .int cnt, .int len, .int stp, .int sta, .int pm, .int bm])), (a1, .inl (cI, 16, .inl bw)), (a2, .inl (cI, 120, .inl bars)), (a3, .inl (cI, 40, .inl puts)), (a4, .inl (cI, 40, .inl bap))] s.heap.size = A at hD ⊢
  have hA : ∀ q : Nat, s.heap.size ≤ q → A q := fun q h => by rw [← hAe]; exact Or.inr h
  have hS : va_S A s.heap s.heap [] := va_S.rf
  have hl := lv_entry ([.ref a0]) (n := 1) (Nat.le_of_ble_eq_true rfl)
  rw [lg_entry_eq]
  generalize (lg_sl ([.ref a0]) ++ List.replicate (1 - (lg_sl ([.ref a0])).length) Slot.unset).toArray = ls at hl ⊢
  have hl : lv_has ls 1 [(0, .ref a0)] := hl
  obtain ⟨ρ, hρ⟩ : ∃ ρ : Unit, ρ = P_end := ⟨_, rfl⟩
  have hr : P_end = ρ := hρ.symm
  rewrite [P_end] at hr
  refine lv_aload_n hx hb dX0_end_0 rfl (lv_at hl 0 rfl) ?_
  refine lv_iconst (v := 0) hx hb dX0_end_1 (by decide) ?_
  refine va_put (D := (dC, dI)) (ci := 0) (v := .int 0) (ty := .boolean) (C := RX0) (T := TX0) (N := 11) hx hb hts (by decide +kernel) tyX0 tyX0_ok nmX0 hown hK hP hD hS 0 rfl rfl 4 (by decide) (hts (.fieldLink RX0 24 "Shortring$Hunt" "isOn" "Z") (by decide +kernel)) (fun _ h9 => h9) rfl (by decide +kernel) rfl rfl (Nat.le_of_ble_eq_true rfl) dX0_end_2 (fun H locs hP hD hS => ?_)
  have hP : va_P (dC, dI) kCl [(a0, .inr (0, [.ref a1, .ref a2, .ref a3, .ref a4, .int 0, .int cnt, .int len, .int stp, .int sta, .int pm, .int bm])), (a1, .inl (cI, 16, .inl bw)), (a2, .inl (cI, 120, .inl bars)), (a3, .inl (cI, 40, .inl puts)), (a4, .inl (cI, 40, .inl bap))] H := hP
  have hD : va_D A [(a0, .inr (0, [.ref a1, .ref a2, .ref a3, .ref a4, .int 0, .int cnt, .int len, .int stp, .int sta, .int pm, .int bm])), (a1, .inl (cI, 16, .inl bw)), (a2, .inl (cI, 120, .inl bars)), (a3, .inl (cI, 40, .inl puts)), (a4, .inl (cI, 40, .inl bap))] := hD
  have he := hr.trans hρ
  exact W.vret hx hb hr0 (fun t ht hW => kV_end hP hS ht) hS.2.2 dX0_end_5
def P_step (K : Nat) (f : Nat → Int32) (bw : Nat → Int32) (bars : Nat → Int32) (puts : Nat → Int32) (bap : Nat → Int32) (cnt : Int32) (len : Int32) (stp : Int32) (sta : Int32) (pm : Int32) (bm : Int32) : (Nat → Int32) × (Nat → Int32) × (Nat → Int32) × (Nat → Int32) × (Nat → Int32) × Int32 × Int32 × Int32 × Int32 :=
  bd (P_nextKnot K f bw cnt len sta) (fun knot_1 =>
    if knot_1 = (-1 : Int32) then
      (bw, bars, puts, bap, f, stp + (1 : Int32), 1, pm, bm)
    else
      bd (P_partnerOf K f bw cnt len knot_1) (fun partner_3 =>
        if partner_3 = (-1 : Int32) then
          bd (P_goBack K f bw bars puts bap sta pm bm) (fun r_6 =>
            (r_6.1, r_6.2.1, puts, bap, r_6.2.2.1, stp + (1 : Int32), r_6.2.2.2.1, r_6.2.2.2.2.1, r_6.2.2.2.2.2))
        else
          bd (P_put K f puts bap pm bm knot_1 partner_3) (fun r_5 =>
            (bw, bars, r_5.1, r_5.2.1, r_5.2.2.1, stp + (1 : Int32), sta, r_5.2.2.2, bm))))
abbrev rm_X0_step : Room := { frames := 5, cells := 0, slots := 0, locals := 120 }
set_option maxHeartbeats 4000000 in
set_option maxRecDepth 100000 in
theorem k_X0_step (l : Launch) (dC : Nat → ClassId) (dI : Nat → Nat → Nat) (cI cN : ClassId) (a0 : Nat) (a1 : Nat) (a2 : Nat) (a3 : Nat) (a4 : Nat) (isOn : Int32) (cnt : Int32) (len : Int32) (stp : Int32) (sta : Int32) (pm : Int32) (bm : Int32) (bw : Nat → Int32) (bars : Nat → Int32) (puts : Nat → Int32) (bap : Nat → Int32) (h0 : Nat) (h1 : Nat) (K : Nat) (f : Nat → Int32) (hK : K ≤ 16) (hbap : ∀ j, 0 ≤ bap j) (sz : Nat) : Met l yX0_step wsX0_step rm_X0_step (va_Pc [.ref a0, .ref h0] (kU dC dI cI cN [(a0, .inr (0, [.ref a1, .ref a2, .ref a3, .ref a4, .int isOn, .int cnt, .int len, .int stp, .int sta, .int pm, .int bm])), (a1, .inl (cI, 16, .inl bw)), (a2, .inl (cI, 120, .inl bars)), (a3, .inl (cI, 40, .inl puts)), (a4, .inl (cI, 40, .inl bap)), (h0, .inr (3, [.ref h1, .int (nI K)])), (h1, .inl (cI, 16, .inl f))] sz)) (kV dC dI [(a0, .inr (0, [.ref a1, .ref a2, .ref a3, .ref a4, .int isOn, .int cnt, .int len, .int ((P_step K f bw bars puts bap cnt len stp sta pm bm).2.2.2.2.2.1), .int ((P_step K f bw bars puts bap cnt len stp sta pm bm).2.2.2.2.2.2.1), .int ((P_step K f bw bars puts bap cnt len stp sta pm bm).2.2.2.2.2.2.2.1), .int ((P_step K f bw bars puts bap cnt len stp sta pm bm).2.2.2.2.2.2.2.2)])), (a1, .inl (cI, 16, .inl ((P_step K f bw bars puts bap cnt len stp sta pm bm).1))), (a2, .inl (cI, 120, .inl ((P_step K f bw bars puts bap cnt len stp sta pm bm).2.1))), (a3, .inl (cI, 40, .inl ((P_step K f bw bars puts bap cnt len stp sta pm bm).2.2.1))), (a4, .inl (cI, 40, .inl ((P_step K f bw bars puts bap cnt len stp sta pm bm).2.2.2.1))), (h0, .inr (3, [.ref h1, .int (nI K)])), (h1, .inl (cI, 16, .inl ((P_step K f bw bars puts bap cnt len stp sta pm bm).2.2.2.2.1)))] (va_A [(a0, .inr (0, [.ref a1, .ref a2, .ref a3, .ref a4, .int isOn, .int cnt, .int len, .int stp, .int sta, .int pm, .int bm])), (a1, .inl (cI, 16, .inl bw)), (a2, .inl (cI, 120, .inl bars)), (a3, .inl (cI, 40, .inl puts)), (a4, .inl (cI, 40, .inl bap)), (h0, .inr (3, [.ref h1, .int (nI K)])), (h1, .inl (cI, 16, .inl f))] sz)) 0 0 (va_A [(a0, .inr (0, [.ref a1, .ref a2, .ref a3, .ref a4, .int isOn, .int cnt, .int len, .int stp, .int sta, .int pm, .int bm])), (a1, .inl (cI, 16, .inl bw)), (a2, .inl (cI, 120, .inl bars)), (a3, .inl (cI, 40, .inl puts)), (a4, .inl (cI, 40, .inl bap)), (h0, .inr (3, [.ref h1, .int (nI K)])), (h1, .inl (cI, 16, .inl f))] sz) := by
  refine Met.ofW (cc := cX0_step) (maxL := 4) (ret := none) (by decide) rfl ?_
  intro p e s m args below meth c s₁ B hml hv
  obtain ⟨rfl, hsz, hP, hK, hD0, hN⟩ := hv
  have hx := B.exec
  have hb := B.bytes
  have hr0 := B.returns
  have hts := atoms_spec (ws := wsX0_step) B.pre
  have hown : s.vm.findClass RX0 = some m.cls := findClass_of_methodNamed B.named
  have hlocks := B.notSynchronized
  subst hsz
  have hD := hD0.self (sz := s.heap.size)
  generalize hAe : va_A [(a0, .inr (0, [.ref a1, .ref a2, .ref a3, .ref a4, .int isOn, .int cnt, .int len, .int stp, .int sta, .int pm, .int bm])), (a1, .inl (cI, 16, .inl bw)), (a2, .inl (cI, 120, .inl bars)), (a3, .inl (cI, 40, .inl puts)), (a4, .inl (cI, 40, .inl bap)), (h0, .inr (3, [.ref h1, .int (nI K)])), (h1, .inl (cI, 16, .inl f))] s.heap.size = A at hD ⊢
  have hA : ∀ q : Nat, s.heap.size ≤ q → A q := fun q h => by rw [← hAe]; exact Or.inr h
  have hS : va_S A s.heap s.heap [] := va_S.rf
  have hl := lv_entry ([.ref a0, .ref h0]) (n := 4) (Nat.le_of_ble_eq_true rfl)
  rw [lg_entry_eq]
  generalize (lg_sl ([.ref a0, .ref h0]) ++ List.replicate (4 - (lg_sl ([.ref a0, .ref h0])).length) Slot.unset).toArray = ls at hl ⊢
  have hl : lv_has ls 4 [(0, .ref a0), (1, .ref h0)] := hl
  obtain ⟨ρ, hρ⟩ : ∃ ρ : (Nat → Int32) × (Nat → Int32) × (Nat → Int32) × (Nat → Int32) × (Nat → Int32) × Int32 × Int32 × Int32 × Int32, ρ = P_step K f bw bars puts bap cnt len stp sta pm bm := ⟨_, rfl⟩
  have hr : P_step K f bw bars puts bap cnt len stp sta pm bm = ρ := hρ.symm
  rewrite [P_step] at hr
  refine lv_aload_n hx hb dX0_step_0 rfl (lv_at hl 0 rfl) ?_
  refine lv_dup hx hb dX0_step_1 rfl ?_
  refine va_get (D := (dC, dI)) (ci := 0) (v := .int stp) (C := RX0) (T := TX0) (N := 11) hx hb hts (by decide +kernel) hown hK hP 0 rfl rfl 7 (by decide) (hts (.fieldLink RX0 38 "Shortring$Hunt" "steps" "I") (by decide +kernel)) (fun _ h9 => h9) rfl dX0_step_2 ?_
  refine lv_iconst (v := 1) hx hb dX0_step_5 (by decide) ?_
  refine lv_iadd hx hb dX0_step_6 ?_
  refine va_put (D := (dC, dI)) (ci := 0) (v := .int (stp + (1 : Int32))) (ty := .int) (C := RX0) (T := TX0) (N := 11) hx hb hts (by decide +kernel) tyX0 tyX0_ok nmX0 hown hK hP hD hS 0 rfl rfl 7 (by decide) (hts (.fieldLink RX0 38 "Shortring$Hunt" "steps" "I") (by decide +kernel)) (fun _ h9 => h9) rfl (by decide +kernel) rfl rfl (Nat.le_of_ble_eq_true rfl) dX0_step_7 (fun H locs hP hD hS => ?_)
  have hP : va_P (dC, dI) kCl [(a0, .inr (0, [.ref a1, .ref a2, .ref a3, .ref a4, .int isOn, .int cnt, .int len, .int (stp + (1 : Int32)), .int sta, .int pm, .int bm])), (a1, .inl (cI, 16, .inl bw)), (a2, .inl (cI, 120, .inl bars)), (a3, .inl (cI, 40, .inl puts)), (a4, .inl (cI, 40, .inl bap)), (h0, .inr (3, [.ref h1, .int (nI K)])), (h1, .inl (cI, 16, .inl f))] H := hP
  have hD : va_D A [(a0, .inr (0, [.ref a1, .ref a2, .ref a3, .ref a4, .int isOn, .int cnt, .int len, .int (stp + (1 : Int32)), .int sta, .int pm, .int bm])), (a1, .inl (cI, 16, .inl bw)), (a2, .inl (cI, 120, .inl bars)), (a3, .inl (cI, 40, .inl puts)), (a4, .inl (cI, 40, .inl bap)), (h0, .inr (3, [.ref h1, .int (nI K)])), (h1, .inl (cI, 16, .inl f))] := hD
  refine lv_aload_n hx hb dX0_step_10 rfl (lv_at hl 0 rfl) ?_
  refine lv_aload_n hx hb dX0_step_11 rfl (lv_at hl 1 rfl) ?_
  refine kCall (va_runV (As := [.ref h0]) (rest := []) ⟨hx, hb, hml, hown, hts⟩ (k_X0_nextKnot l dC dI cI cN a0 a1 a2 a3 a4 isOn cnt len (stp + (1 : Int32)) sta pm bm bw bars puts bap h0 h1 K f (by first | assumption | omega | exact Int32.le_refl _ | decide)) (cwV 1 hts gX0_step_X0_nextKnot rfl rfl rfl (by decide +kernel) ⟨Nat.le_of_ble_eq_true rfl, Nat.le_of_ble_eq_true rfl⟩) (kW_V hP hK hD hN (ci := 0) (q0 := 0) rfl rfl [0, 1, 2, 3, 4, 5, 6] rfl rfl rfl) rfl rfl hl.1 rfl (lv_room (Nat.le_of_ble_eq_true rfl)) dX0_step_12 ⟨Nat.zero_le _, Nat.zero_le _⟩) hP hS (fun H locs hP hS => ?_)
  refine lv_topi (fun knot_1 eknot_1 => ?_)
  have hr := bd_to hr eknot_1
  refine lv_istore_n (lv' := [(2, .int knot_1), (0, .ref a0), (1, .ref h0)]) hx hb dX0_step_15 rfl hl (by decide) rfl (fun ls hl => ?_)
  refine lv_iload_n hx hb dX0_step_16 rfl (lv_at hl 0 rfl) ?_
  refine lv_iconst (v := (-1)) hx hb dX0_step_17 (by decide) ?_
  refine lv_icmp_ne (tgt := 27) hx hb dX0_step_18 (by decide) (fun c_2 => ?_) (fun c_2 => ?_)
  · have hr := if_no hr c_2
    refine lv_aload_n hx hb dX0_step_27 rfl (lv_at hl 1 rfl) ?_
    refine lv_aload_n hx hb dX0_step_28 rfl (lv_at hl 2 rfl) ?_
    refine lv_iload_n hx hb dX0_step_29 rfl (lv_at hl 0 rfl) ?_
    refine kCall (va_runV (As := [.ref h0, .int knot_1]) (rest := []) ⟨hx, hb, hml, hown, hts⟩ (k_X0_partnerOf l dC dI cI cN a0 a1 a2 a3 a4 isOn cnt len (stp + (1 : Int32)) sta pm bm bw bars puts bap h0 h1 K f knot_1 (by first | assumption | omega | exact Int32.le_refl _ | decide)) (cwV 2 hts gX0_step_X0_partnerOf rfl rfl rfl (by decide +kernel) ⟨Nat.le_of_ble_eq_true rfl, Nat.le_of_ble_eq_true rfl⟩) (kW_V hP hK hD hN (ci := 0) (q0 := 0) rfl rfl [0, 1, 2, 3, 4, 5, 6] rfl rfl rfl) rfl rfl hl.1 rfl (lv_room (Nat.le_of_ble_eq_true rfl)) dX0_step_30 ⟨Nat.zero_le _, Nat.zero_le _⟩) hP hS (fun H locs hP hS => ?_)
    refine lv_topi (fun partner_3 epartner_3 => ?_)
    have hr := bd_to hr epartner_3
    refine lv_istore_n (lv' := [(3, .int partner_3), (2, .int knot_1), (0, .ref a0), (1, .ref h0)]) hx hb dX0_step_33 rfl hl (by decide) rfl (fun ls hl => ?_)
    refine lv_iload_n hx hb dX0_step_34 rfl (lv_at hl 0 rfl) ?_
    refine lv_iconst (v := (-1)) hx hb dX0_step_35 (by decide) ?_
    refine lv_icmp_ne (tgt := 47) hx hb dX0_step_36 (by decide) (fun c_4 => ?_) (fun c_4 => ?_)
    · have hr := if_no hr c_4
      refine lv_aload_n hx hb dX0_step_47 rfl (lv_at hl 2 rfl) ?_
      refine lv_aload_n hx hb dX0_step_48 rfl (lv_at hl 3 rfl) ?_
      refine lv_iload_n hx hb dX0_step_49 rfl (lv_at hl 1 rfl) ?_
      refine lv_iload_n hx hb dX0_step_50 rfl (lv_at hl 0 rfl) ?_
      refine kCallV (wr := []) (va_runV (As := [.ref h0, .int knot_1, .int partner_3]) (rest := []) ⟨hx, hb, hml, hown, hts⟩ (k_X0_put l dC dI cI cN a0 a1 a2 a3 a4 isOn cnt len (stp + (1 : Int32)) sta pm bm bw bars puts bap h0 h1 K f knot_1 partner_3 (by first | assumption | omega | exact Int32.le_refl _ | decide) _) (cwV 3 hts gX0_step_X0_put rfl rfl rfl (by decide +kernel) ⟨Nat.le_of_ble_eq_true rfl, Nat.le_of_ble_eq_true rfl⟩) (kU_V hP hK hD hN (ci := 0) (q0 := 0) rfl rfl [0, 1, 2, 3, 4, 5, 6] rfl rfl rfl) rfl rfl hl.1 rfl (lv_room (Nat.le_of_ble_eq_true rfl)) dX0_step_51 ⟨Nat.zero_le _, Nat.zero_le _⟩) hP hD hS hA [0, 1, 2, 3, 4, 5, 6] [] rfl rfl rfl rfl (by decide) rfl (fun H locs hP hD hS => ?_)
      obtain ⟨r_5, er_5⟩ : ∃ y : (Nat → Int32) × (Nat → Int32) × (Nat → Int32) × Int32, y = (P_put K f puts bap pm bm knot_1 partner_3) := ⟨_, rfl⟩
      try rw [← er_5] at hP hD
      have hr := bd_to hr er_5
      have hP : va_P (dC, dI) kCl [(a0, .inr (0, [.ref a1, .ref a2, .ref a3, .ref a4, .int isOn, .int cnt, .int len, .int (stp + (1 : Int32)), .int sta, .int r_5.2.2.2, .int bm])), (a1, .inl (cI, 16, .inl bw)), (a2, .inl (cI, 120, .inl bars)), (a3, .inl (cI, 40, .inl r_5.1)), (a4, .inl (cI, 40, .inl r_5.2.1)), (h0, .inr (3, [.ref h1, .int (nI K)])), (h1, .inl (cI, 16, .inl r_5.2.2.1))] H := hP.sub [0, 1, 2, 3, 4, 5, 6] rfl
      have hD : va_D A [(a0, .inr (0, [.ref a1, .ref a2, .ref a3, .ref a4, .int isOn, .int cnt, .int len, .int (stp + (1 : Int32)), .int sta, .int r_5.2.2.2, .int bm])), (a1, .inl (cI, 16, .inl bw)), (a2, .inl (cI, 120, .inl bars)), (a3, .inl (cI, 40, .inl r_5.1)), (a4, .inl (cI, 40, .inl r_5.2.1)), (h0, .inr (3, [.ref h1, .int (nI K)])), (h1, .inl (cI, 16, .inl r_5.2.2.1))] := hD.sub [0, 1, 2, 3, 4, 5, 6] (by decide) rfl
      have he := hr.trans hρ
      exact W.vret hx hb hr0 (fun t ht hW => kV_end (by rw [← he]; exact hP) hS ht) hS.2.2 dX0_step_54
    · have hr := if_to hr c_4
      refine lv_aload_n hx hb dX0_step_39 rfl (lv_at hl 2 rfl) ?_
      refine lv_aload_n hx hb dX0_step_40 rfl (lv_at hl 3 rfl) ?_
      refine kCallV (wr := []) (va_runV (As := [.ref h0]) (rest := []) ⟨hx, hb, hml, hown, hts⟩ (k_X0_goBack l dC dI cI cN a0 a1 a2 a3 a4 isOn cnt len (stp + (1 : Int32)) sta pm bm bw bars puts bap h0 h1 K f (by first | assumption | omega | exact Int32.le_refl _ | decide) (by first | assumption | omega | exact Int32.le_refl _ | decide) _) (cwV 1 hts gX0_step_X0_goBack rfl rfl rfl (by decide +kernel) ⟨Nat.le_of_ble_eq_true rfl, Nat.le_of_ble_eq_true rfl⟩) (kU_V hP hK hD hN (ci := 0) (q0 := 0) rfl rfl [0, 1, 2, 3, 4, 5, 6] rfl rfl rfl) rfl rfl hl.1 rfl (lv_room (Nat.le_of_ble_eq_true rfl)) dX0_step_41 ⟨Nat.zero_le _, Nat.zero_le _⟩) hP hD hS hA [0, 1, 2, 3, 4, 5, 6] [] rfl rfl rfl rfl (by decide) rfl (fun H locs hP hD hS => ?_)
      obtain ⟨r_6, er_6⟩ : ∃ y : (Nat → Int32) × (Nat → Int32) × (Nat → Int32) × Int32 × Int32 × Int32, y = (P_goBack K f bw bars puts bap sta pm bm) := ⟨_, rfl⟩
      try rw [← er_6] at hP hD
      have hr := bd_to hr er_6
      have hP : va_P (dC, dI) kCl [(a0, .inr (0, [.ref a1, .ref a2, .ref a3, .ref a4, .int isOn, .int cnt, .int len, .int (stp + (1 : Int32)), .int r_6.2.2.2.1, .int r_6.2.2.2.2.1, .int r_6.2.2.2.2.2])), (a1, .inl (cI, 16, .inl r_6.1)), (a2, .inl (cI, 120, .inl r_6.2.1)), (a3, .inl (cI, 40, .inl puts)), (a4, .inl (cI, 40, .inl bap)), (h0, .inr (3, [.ref h1, .int (nI K)])), (h1, .inl (cI, 16, .inl r_6.2.2.1))] H := hP.sub [0, 1, 2, 3, 4, 5, 6] rfl
      have hD : va_D A [(a0, .inr (0, [.ref a1, .ref a2, .ref a3, .ref a4, .int isOn, .int cnt, .int len, .int (stp + (1 : Int32)), .int r_6.2.2.2.1, .int r_6.2.2.2.2.1, .int r_6.2.2.2.2.2])), (a1, .inl (cI, 16, .inl r_6.1)), (a2, .inl (cI, 120, .inl r_6.2.1)), (a3, .inl (cI, 40, .inl puts)), (a4, .inl (cI, 40, .inl bap)), (h0, .inr (3, [.ref h1, .int (nI K)])), (h1, .inl (cI, 16, .inl r_6.2.2.1))] := hD.sub [0, 1, 2, 3, 4, 5, 6] (by decide) rfl
      refine lv_goto (tgt := 54) hx hb dX0_step_44 (by decide) ?_
      have he := hr.trans hρ
      exact W.vret hx hb hr0 (fun t ht hW => kV_end (by rw [← he]; exact hP) hS ht) hS.2.2 dX0_step_54
  · have hr := if_to hr c_2
    refine lv_aload_n hx hb dX0_step_21 rfl (lv_at hl 1 rfl) ?_
    refine lv_iconst (v := 1) hx hb dX0_step_22 (by decide) ?_
    refine va_put (D := (dC, dI)) (ci := 0) (v := .int 1) (ty := .int) (C := RX0) (T := TX0) (N := 11) hx hb hts (by decide +kernel) tyX0 tyX0_ok nmX0 hown hK hP hD hS 0 rfl rfl 8 (by decide) (hts (.fieldLink RX0 28 "Shortring$Hunt" "state" "I") (by decide +kernel)) (fun _ h9 => h9) rfl (by decide +kernel) rfl rfl (Nat.le_of_ble_eq_true rfl) dX0_step_23 (fun H locs hP hD hS => ?_)
    have hP : va_P (dC, dI) kCl [(a0, .inr (0, [.ref a1, .ref a2, .ref a3, .ref a4, .int isOn, .int cnt, .int len, .int (stp + (1 : Int32)), .int 1, .int pm, .int bm])), (a1, .inl (cI, 16, .inl bw)), (a2, .inl (cI, 120, .inl bars)), (a3, .inl (cI, 40, .inl puts)), (a4, .inl (cI, 40, .inl bap)), (h0, .inr (3, [.ref h1, .int (nI K)])), (h1, .inl (cI, 16, .inl f))] H := hP
    have hD : va_D A [(a0, .inr (0, [.ref a1, .ref a2, .ref a3, .ref a4, .int isOn, .int cnt, .int len, .int (stp + (1 : Int32)), .int 1, .int pm, .int bm])), (a1, .inl (cI, 16, .inl bw)), (a2, .inl (cI, 120, .inl bars)), (a3, .inl (cI, 40, .inl puts)), (a4, .inl (cI, 40, .inl bap)), (h0, .inr (3, [.ref h1, .int (nI K)])), (h1, .inl (cI, 16, .inl f))] := hD
    have he := hr.trans hρ
    exact W.vret hx hb hr0 (fun t ht hW => kV_end (by rw [← he]; exact hP) hS ht) hS.2.2 dX0_step_26
