/-! the object: what may throw (printed by wip/gen) -/
def P_ofEdge (K : Nat) (f : Nat → Int32) (edge : Int32) (what : Int32) : Int32 ⊕ Nat :=
  bd (P_edgeAt K f edge) (fun pair_1 =>
    if pair_1 = (-1 : Int32) then
      Sum.inr 2
    else
      if (P_isWithin what 0 3) = 0 then
        Sum.inr 1
      else
        if what = (0 : Int32) then
          Sum.inl (P_oneOf pair_1)
        else
          if what = (1 : Int32) then
            Sum.inl (P_otherOf pair_1)
          else
            if what = (2 : Int32) then
              if (P_leastRingBy f (P_oneOf pair_1) (P_otherOf pair_1)) = (-1 : Int32) then
                Sum.inl 1
              else
                Sum.inl 0
            else
              Sum.inl (P_leastRingBy f (P_oneOf pair_1) (P_otherOf pair_1)))
abbrev rm_X6_ofEdge : Room := { frames := 4, cells := 0, slots := 0, locals := 88 }
set_option maxHeartbeats 4000000 in
set_option maxRecDepth 100000 in
theorem k_X6_ofEdge (l : Launch) (dC : Nat → ClassId) (dI : Nat → Nat → Nat) (cI cN : ClassId) (s0 : Nat) (sc0 : Nat) (kp0 : Nat) (ta0 : Nat) (km : Int32) (rf : Int32) (a0 : Nat) (q0 : Nat) (d0 : Nat) (c0 : Nat) (h0 : Nat) (h1 : Nat) (K : Nat) (f : Nat → Int32) (edge : Int32) (what : Int32) (hK : K ≤ 16) (v : Int32) (hok : P_ofEdge K f edge what = .inl v) : Met l yX6_ofEdge wsX6_ofEdge rm_X6_ofEdge (va_Pc [.ref s0, .int edge, .int what] (kW dC dI cI cN [(s0, .inr (5, [.ref h0, .ref sc0, .ref kp0, .ref a0, .ref q0, .ref d0, .ref c0, .ref ta0, .int km, .int rf])), (h0, .inr (3, [.ref h1, .int (nI K)])), (h1, .inl (cI, 16, .inl f))])) (kR v) 0 0 (fun _ => False) := by
  refine Met.ofW (cc := cX6_ofEdge) (maxL := 4) (ret := (some .int)) (by decide) rfl ?_
  intro p e s m args below meth c s₁ B hml hv
  obtain ⟨rfl, hP, hK, hD, hN⟩ := hv
  have hx := B.exec
  have hb := B.bytes
  have hr0 := B.returns
  have hts := atoms_spec (ws := wsX6_ofEdge) B.pre
  have hown : s.vm.findClass RX6 = some m.cls := findClass_of_methodNamed B.named
  have hlocks := B.notSynchronized
  have hS : va_S (fun _ => False) s.heap s.heap [] := va_S.rf
  have hl := lv_entry ([.ref s0, .int edge, .int what]) (n := 4) (Nat.le_of_ble_eq_true rfl)
  rw [lg_entry_eq]
  generalize (lg_sl ([.ref s0, .int edge, .int what]) ++ List.replicate (4 - (lg_sl ([.ref s0, .int edge, .int what])).length) Slot.unset).toArray = ls at hl ⊢
  have hl : lv_has ls 4 [(0, .ref s0), (1, .int edge), (2, .int what)] := hl
  obtain ⟨ρ, hρ⟩ : ∃ ρ : Int32 ⊕ Nat, ρ = P_ofEdge K f edge what := ⟨_, rfl⟩
  have hr : P_ofEdge K f edge what = ρ := hρ.symm
  rewrite [P_ofEdge] at hr
  refine lv_aload_n hx hb dX6_ofEdge_0 rfl (lv_at hl 0 rfl) ?_
  refine va_get (D := (dC, dI)) (ci := 5) (v := .ref h0) (C := RX6) (T := TX6) (N := 10) hx hb hts (by decide +kernel) hown hK hP 0 rfl rfl 0 (by decide) (hts (.fieldLink RX6 12 "Shortring" "net" "LShortring$Net;") (by decide +kernel)) (fun _ h9 => h9) rfl dX6_ofEdge_1 ?_
  refine lv_iload_n hx hb dX6_ofEdge_4 rfl (lv_at hl 1 rfl) ?_
  refine kCall (va_runVN (As := [.int edge]) (rest := []) ⟨hx, hb, hml, hown, hts⟩ (k_X3_edgeAt l dC dI cI cN h0 h1 K f edge (by first | assumption | omega | exact Int32.le_refl _ | decide)) ⟨va_cnB 1 hts gX6_ofEdge_X3_edgeAt_n153 rfl rfl rfl (hN.1 16 _ rfl) (hts (.initialized RX3) (by decide +kernel)) (by decide +kernel) ⟨Nat.le_of_ble_eq_true rfl, Nat.le_of_ble_eq_true rfl⟩, hts (.instanceMethod yX3_edgeAt) (by decide +kernel), hts (.selects RX3 yX3_edgeAt yX3_edgeAt) (by decide +kernel)⟩ (kW_V hP hK hD hN (ci := 3) (q0 := 1) rfl rfl [1, 2] rfl rfl rfl) rfl rfl hl.1 rfl (lv_room (Nat.le_of_ble_eq_true rfl)) dX6_ofEdge_5 ⟨Nat.zero_le _, Nat.zero_le _⟩) hP hS (fun H locs hP hS => ?_)
  refine lv_topi (fun pair_1 epair_1 => ?_)
  have hr := bd_to hr epair_1
  refine lv_istore_n (lv' := [(3, .int pair_1), (0, .ref s0), (1, .int edge), (2, .int what)]) hx hb dX6_ofEdge_8 rfl hl (by decide) rfl (fun ls hl => ?_)
  refine lv_iload_n hx hb dX6_ofEdge_9 rfl (lv_at hl 0 rfl) ?_
  refine lv_iconst (v := (-1)) hx hb dX6_ofEdge_10 (by decide) ?_
  refine lv_icmp_ne (tgt := 24) hx hb dX6_ofEdge_11 (by decide) (fun c_2 => ?_) (fun c_2 => ?_)
  · have hr := if_no hr c_2
    refine lv_iload_n hx hb dX6_ofEdge_24 rfl (lv_at hl 3 rfl) ?_
    refine lv_iconst (v := 0) hx hb dX6_ofEdge_25 (by decide) ?_
    refine lv_iconst (v := 3) hx hb dX6_ofEdge_26 (by decide) ?_
    refine kCall (va_runS (As := [.int what, .int 0, .int 3]) (rest := []) ⟨hx, hb, hml, hown, hts⟩ (k_X6_isWithin l dC dI cI cN what 0 3) (va_cwS 3 hts gX6_ofEdge_X6_isWithin rfl rfl rfl (by decide +kernel) ⟨Nat.le_of_ble_eq_true rfl, Nat.le_of_ble_eq_true rfl⟩) (kW_S hP hK hD hN [] rfl rfl rfl) rfl rfl hl.1 rfl (lv_room (Nat.le_of_ble_eq_true rfl)) dX6_ofEdge_27 ⟨Nat.zero_le _, Nat.zero_le _⟩) hP hS (fun H locs hP hS => ?_)
    refine lv_if_ne (tgt := 44) hx hb dX6_ofEdge_30 (by decide) (fun c_3 => ?_) (fun c_3 => ?_)
    · have hr := if_no hr c_3
      refine lv_iload_n hx hb dX6_ofEdge_44 rfl (lv_at hl 3 rfl) ?_
      by_cases c_4 : what = (0 : Int32)
      · have hr := if_to hr c_4
        refine lv_tableIn (off := 27) (tgt := 72) hx hb dX6_ofEdge_45 (by rw [c_4]; decide) (by rw [c_4]; decide) (by rw [c_4]; decide) (by decide) ?_
        refine lv_iload_n hx hb dX6_ofEdge_72 rfl (lv_at hl 0 rfl) ?_
        refine kCall (va_runS (As := [.int pair_1]) (rest := []) ⟨hx, hb, hml, hown, hts⟩ (k_X6_oneOf l dC dI cI cN pair_1) (va_cwS 1 hts gX6_ofEdge_X6_oneOf rfl rfl rfl (by decide +kernel) ⟨Nat.le_of_ble_eq_true rfl, Nat.le_of_ble_eq_true rfl⟩) (kW_S hP hK hD hN [] rfl rfl rfl) rfl rfl hl.1 rfl (lv_room (Nat.le_of_ble_eq_true rfl)) dX6_ofEdge_73 ⟨Nat.zero_le _, Nat.zero_le _⟩) hP hS (fun H locs hP hS => ?_)
        have he := Sum.inl.inj (hr.trans (hρ.trans hok))
        subst he
        exact W.iret (v := P_oneOf pair_1) hx hb hr0 (fun t ht hW => kR_end rfl hS ht) hS.2.2 dX6_ofEdge_76
      · have hr := if_no hr c_4
        by_cases c_5 : what = (1 : Int32)
        · have hr := if_to hr c_5
          refine lv_tableIn (off := 32) (tgt := 77) hx hb dX6_ofEdge_45 (by rw [c_5]; decide) (by rw [c_5]; decide) (by rw [c_5]; decide) (by decide) ?_
          refine lv_iload_n hx hb dX6_ofEdge_77 rfl (lv_at hl 0 rfl) ?_
          refine kCall (va_runS (As := [.int pair_1]) (rest := []) ⟨hx, hb, hml, hown, hts⟩ (k_X6_otherOf l dC dI cI cN pair_1) (va_cwS 1 hts gX6_ofEdge_X6_otherOf rfl rfl rfl (by decide +kernel) ⟨Nat.le_of_ble_eq_true rfl, Nat.le_of_ble_eq_true rfl⟩) (kW_S hP hK hD hN [] rfl rfl rfl) rfl rfl hl.1 rfl (lv_room (Nat.le_of_ble_eq_true rfl)) dX6_ofEdge_78 ⟨Nat.zero_le _, Nat.zero_le _⟩) hP hS (fun H locs hP hS => ?_)
          have he := Sum.inl.inj (hr.trans (hρ.trans hok))
          subst he
          exact W.iret (v := P_otherOf pair_1) hx hb hr0 (fun t ht hW => kR_end rfl hS ht) hS.2.2 dX6_ofEdge_81
        · have hr := if_no hr c_5
          by_cases c_6 : what = (2 : Int32)
          · have hr := if_to hr c_6
            refine lv_tableIn (off := 37) (tgt := 82) hx hb dX6_ofEdge_45 (by rw [c_6]; decide) (by rw [c_6]; decide) (by rw [c_6]; decide) (by decide) ?_
            refine lv_aload_n hx hb dX6_ofEdge_82 rfl (lv_at hl 1 rfl) ?_
            refine va_get (D := (dC, dI)) (ci := 5) (v := .ref h0) (C := RX6) (T := TX6) (N := 10) hx hb hts (by decide +kernel) hown hK hP 0 rfl rfl 0 (by decide) (hts (.fieldLink RX6 12 "Shortring" "net" "LShortring$Net;") (by decide +kernel)) (fun _ h9 => h9) rfl dX6_ofEdge_83 ?_
            refine lv_iload_n hx hb dX6_ofEdge_86 rfl (lv_at hl 0 rfl) ?_
            refine kCall (va_runS (As := [.int pair_1]) (rest := [.ref h0]) ⟨hx, hb, hml, hown, hts⟩ (k_X6_oneOf l dC dI cI cN pair_1) (va_cwS 1 hts gX6_ofEdge_X6_oneOf rfl rfl rfl (by decide +kernel) ⟨Nat.le_of_ble_eq_true rfl, Nat.le_of_ble_eq_true rfl⟩) (kW_S hP hK hD hN [] rfl rfl rfl) rfl rfl hl.1 rfl (lv_room (Nat.le_of_ble_eq_true rfl)) dX6_ofEdge_87 ⟨Nat.zero_le _, Nat.zero_le _⟩) hP hS (fun H locs hP hS => ?_)
            refine lv_iload_n hx hb dX6_ofEdge_90 rfl (lv_at hl 0 rfl) ?_
            refine kCall (va_runS (As := [.int pair_1]) (rest := [.int (P_oneOf pair_1), .ref h0]) ⟨hx, hb, hml, hown, hts⟩ (k_X6_otherOf l dC dI cI cN pair_1) (va_cwS 1 hts gX6_ofEdge_X6_otherOf rfl rfl rfl (by decide +kernel) ⟨Nat.le_of_ble_eq_true rfl, Nat.le_of_ble_eq_true rfl⟩) (kW_S hP hK hD hN [] rfl rfl rfl) rfl rfl hl.1 rfl (lv_room (Nat.le_of_ble_eq_true rfl)) dX6_ofEdge_91 ⟨Nat.zero_le _, Nat.zero_le _⟩) hP hS (fun H locs hP hS => ?_)
            refine kCall (va_runSN (As := [.ref h0, .int (P_oneOf pair_1), .int (P_otherOf pair_1)]) (rest := []) ⟨hx, hb, hml, hown, hts⟩ (k_X5_leastRingBy l dC dI cI cN h0 h1 K f (P_oneOf pair_1) (P_otherOf pair_1) (by first | assumption | omega | exact Int32.le_refl _ | decide)) ⟨va_cnB 3 hts gX6_ofEdge_X5_leastRingBy_n283 rfl rfl rfl (hN.1 34 _ rfl) (hts (.initialized RX5) (by decide +kernel)) (by decide +kernel) ⟨Nat.le_of_ble_eq_true rfl, Nat.le_of_ble_eq_true rfl⟩, hts (.static yX5_leastRingBy) (by decide +kernel), trivial⟩ (kW_S hP hK hD hN [1, 2] rfl rfl rfl) rfl rfl hl.1 rfl (lv_room (Nat.le_of_ble_eq_true rfl)) dX6_ofEdge_94 ⟨Nat.zero_le _, Nat.zero_le _⟩) hP hS (fun H locs hP hS => ?_)
            refine lv_iconst (v := (-1)) hx hb dX6_ofEdge_97 (by decide) ?_
            refine lv_icmp_ne (tgt := 105) hx hb dX6_ofEdge_98 (by decide) (fun c_7 => ?_) (fun c_7 => ?_)
            · have hr := if_no hr c_7
              refine lv_iconst (v := 0) hx hb dX6_ofEdge_105 (by decide) ?_
              have he := Sum.inl.inj (hr.trans (hρ.trans hok))
              subst he
              exact W.iret (v := 0) hx hb hr0 (fun t ht hW => kR_end rfl hS ht) hS.2.2 dX6_ofEdge_106
            · have hr := if_to hr c_7
              refine lv_iconst (v := 1) hx hb dX6_ofEdge_101 (by decide) ?_
              refine lv_goto (tgt := 106) hx hb dX6_ofEdge_102 (by decide) ?_
              have he := Sum.inl.inj (hr.trans (hρ.trans hok))
              subst he
              exact W.iret (v := 1) hx hb hr0 (fun t ht hW => kR_end rfl hS ht) hS.2.2 dX6_ofEdge_106
          · have hr := if_no hr c_6
            refine lv_tableOut (tgt := 107) hx hb dX6_ofEdge_45 (by have z0 := lv_neT c_4 (show (0 : Int32).toInt = 0 from by decide); have z1 := lv_neT c_5 (show (1 : Int32).toInt = 1 from by decide); have z2 := lv_neT c_6 (show (2 : Int32).toInt = 2 from by decide); omega) (by decide) ?_
            refine lv_aload_n hx hb dX6_ofEdge_107 rfl (lv_at hl 1 rfl) ?_
            refine va_get (D := (dC, dI)) (ci := 5) (v := .ref h0) (C := RX6) (T := TX6) (N := 10) hx hb hts (by decide +kernel) hown hK hP 0 rfl rfl 0 (by decide) (hts (.fieldLink RX6 12 "Shortring" "net" "LShortring$Net;") (by decide +kernel)) (fun _ h9 => h9) rfl dX6_ofEdge_108 ?_
            refine lv_iload_n hx hb dX6_ofEdge_111 rfl (lv_at hl 0 rfl) ?_
            refine kCall (va_runS (As := [.int pair_1]) (rest := [.ref h0]) ⟨hx, hb, hml, hown, hts⟩ (k_X6_oneOf l dC dI cI cN pair_1) (va_cwS 1 hts gX6_ofEdge_X6_oneOf rfl rfl rfl (by decide +kernel) ⟨Nat.le_of_ble_eq_true rfl, Nat.le_of_ble_eq_true rfl⟩) (kW_S hP hK hD hN [] rfl rfl rfl) rfl rfl hl.1 rfl (lv_room (Nat.le_of_ble_eq_true rfl)) dX6_ofEdge_112 ⟨Nat.zero_le _, Nat.zero_le _⟩) hP hS (fun H locs hP hS => ?_)
            refine lv_iload_n hx hb dX6_ofEdge_115 rfl (lv_at hl 0 rfl) ?_
            refine kCall (va_runS (As := [.int pair_1]) (rest := [.int (P_oneOf pair_1), .ref h0]) ⟨hx, hb, hml, hown, hts⟩ (k_X6_otherOf l dC dI cI cN pair_1) (va_cwS 1 hts gX6_ofEdge_X6_otherOf rfl rfl rfl (by decide +kernel) ⟨Nat.le_of_ble_eq_true rfl, Nat.le_of_ble_eq_true rfl⟩) (kW_S hP hK hD hN [] rfl rfl rfl) rfl rfl hl.1 rfl (lv_room (Nat.le_of_ble_eq_true rfl)) dX6_ofEdge_116 ⟨Nat.zero_le _, Nat.zero_le _⟩) hP hS (fun H locs hP hS => ?_)
            refine kCall (va_runSN (As := [.ref h0, .int (P_oneOf pair_1), .int (P_otherOf pair_1)]) (rest := []) ⟨hx, hb, hml, hown, hts⟩ (k_X5_leastRingBy l dC dI cI cN h0 h1 K f (P_oneOf pair_1) (P_otherOf pair_1) (by first | assumption | omega | exact Int32.le_refl _ | decide)) ⟨va_cnB 3 hts gX6_ofEdge_X5_leastRingBy_n283 rfl rfl rfl (hN.1 34 _ rfl) (hts (.initialized RX5) (by decide +kernel)) (by decide +kernel) ⟨Nat.le_of_ble_eq_true rfl, Nat.le_of_ble_eq_true rfl⟩, hts (.static yX5_leastRingBy) (by decide +kernel), trivial⟩ (kW_S hP hK hD hN [1, 2] rfl rfl rfl) rfl rfl hl.1 rfl (lv_room (Nat.le_of_ble_eq_true rfl)) dX6_ofEdge_119 ⟨Nat.zero_le _, Nat.zero_le _⟩) hP hS (fun H locs hP hS => ?_)
            have he := Sum.inl.inj (hr.trans (hρ.trans hok))
            subst he
            exact W.iret (v := P_leastRingBy f (P_oneOf pair_1) (P_otherOf pair_1)) hx hb hr0 (fun t ht hW => kR_end rfl hS ht) hS.2.2 dX6_ofEdge_122
    · have hr := if_to hr c_3
      cases hr.trans (hρ.trans hok)
  · have hr := if_to hr c_2
    cases hr.trans (hρ.trans hok)
theorem gfX6_ofEdge_1 : ∀ w ∈ (vx_atS RX6 70 (kCls 1) kNs).filter goodWord, w ∈ wsX6_ofEdge := fun w h => List.mem_cons_of_mem _ (List.mem_append_right _ h)
theorem gfX6_ofEdge_2 : ∀ w ∈ (vx_atS RX6 95 (kCls 2) kNs).filter goodWord, w ∈ wsX6_ofEdge := fun w h => List.mem_cons_of_mem _ (List.mem_append_left _ (List.mem_append_right _ h))
abbrev rx_X6_ofEdge : Room := { frames := 6, cells := 1, slots := 6, locals := 88 }
set_option maxHeartbeats 4000000 in
set_option maxRecDepth 100000 in
theorem e_X6_ofEdge (l : Launch) (hl9 : l.stackTraces = false) (dC : Nat → ClassId) (dI : Nat → Nat → Nat) (cI cN : ClassId) (s0 : Nat) (sc0 : Nat) (kp0 : Nat) (ta0 : Nat) (km : Int32) (rf : Int32) (a0 : Nat) (q0 : Nat) (d0 : Nat) (c0 : Nat) (h0 : Nat) (h1 : Nat) (K : Nat) (f : Nat → Int32) (edge : Int32) (what : Int32) (hK : K ≤ 16) (kx : Nat) (hex : P_ofEdge K f edge what = .inr kx) : vx_Met l yX6_ofEdge wsX6_ofEdge rx_X6_ofEdge (va_Pc [.ref s0, .int edge, .int what] (kWE dC dI cI cN [(s0, .inr (5, [.ref h0, .ref sc0, .ref kp0, .ref a0, .ref q0, .ref d0, .ref c0, .ref ta0, .int km, .int rf])), (h0, .inr (3, [.ref h1, .int (nI K)])), (h1, .inl (cI, 16, .inl f))])) kNoi (kX kx) 1 6 (fun _ => False) := by
  refine vx_ofW (cc := cX6_ofEdge) (maxL := 4) (ret := (some .int)) (by decide) rfl ?_
  intro p e s m args below meth c s₁ B hml hxt hv
  obtain ⟨rfl, ⟨hP, hK, hD, hN⟩, hE⟩ := hv
  have hx := B.exec
  have hb := B.bytes
  have hr0 := B.returns
  have hts := atoms_spec (ws := wsX6_ofEdge) B.pre
  have hown : s.vm.findClass RX6 = some m.cls := findClass_of_methodNamed B.named
  have hlocks := B.notSynchronized
  have hS : va_S (fun _ => False) s.heap s.heap [] := va_S.rf
  have hl := lv_entry ([.ref s0, .int edge, .int what]) (n := 4) (Nat.le_of_ble_eq_true rfl)
  rw [lg_entry_eq]
  generalize (lg_sl ([.ref s0, .int edge, .int what]) ++ List.replicate (4 - (lg_sl ([.ref s0, .int edge, .int what])).length) Slot.unset).toArray = ls at hl ⊢
  have hl : lv_has ls 4 [(0, .ref s0), (1, .int edge), (2, .int what)] := hl
  obtain ⟨ρ, hρ⟩ : ∃ ρ : Int32 ⊕ Nat, ρ = P_ofEdge K f edge what := ⟨_, rfl⟩
  have hr : P_ofEdge K f edge what = ρ := hρ.symm
  rewrite [P_ofEdge] at hr
  refine lv_aload_n hx hb dX6_ofEdge_0 rfl (lv_at hl 0 rfl) ?_
  refine va_get (D := (dC, dI)) (ci := 5) (v := .ref h0) (C := RX6) (T := TX6) (N := 10) hx hb hts (by decide +kernel) hown hK hP 0 rfl rfl 0 (by decide) (hts (.fieldLink RX6 12 "Shortring" "net" "LShortring$Net;") (by decide +kernel)) (fun _ h9 => h9) rfl dX6_ofEdge_1 ?_
  refine lv_iload_n hx hb dX6_ofEdge_4 rfl (lv_at hl 1 rfl) ?_
  refine kCall (va_runVN (As := [.int edge]) (rest := []) ⟨hx, hb, hml, hown, hts⟩ (k_X3_edgeAt l dC dI cI cN h0 h1 K f edge (by first | assumption | omega | exact Int32.le_refl _ | decide)) ⟨va_cnB 1 hts gX6_ofEdge_X3_edgeAt_n153 rfl rfl rfl (hN.1 16 _ rfl) (hts (.initialized RX3) (by decide +kernel)) (by decide +kernel) ⟨Nat.le_of_ble_eq_true rfl, Nat.le_of_ble_eq_true rfl⟩, hts (.instanceMethod yX3_edgeAt) (by decide +kernel), hts (.selects RX3 yX3_edgeAt yX3_edgeAt) (by decide +kernel)⟩ (kW_V hP hK hD hN (ci := 3) (q0 := 1) rfl rfl [1, 2] rfl rfl rfl) rfl rfl hl.1 rfl (lv_room (Nat.le_of_ble_eq_true rfl)) dX6_ofEdge_5 ⟨Nat.zero_le _, Nat.zero_le _⟩) hP hS (fun H locs hP hS => ?_)
  refine lv_topi (fun pair_1 epair_1 => ?_)
  have hr := bd_to hr epair_1
  refine lv_istore_n (lv' := [(3, .int pair_1), (0, .ref s0), (1, .int edge), (2, .int what)]) hx hb dX6_ofEdge_8 rfl hl (by decide) rfl (fun ls hl => ?_)
  refine lv_iload_n hx hb dX6_ofEdge_9 rfl (lv_at hl 0 rfl) ?_
  refine lv_iconst (v := (-1)) hx hb dX6_ofEdge_10 (by decide) ?_
  refine lv_icmp_ne (tgt := 24) hx hb dX6_ofEdge_11 (by decide) (fun c_2 => ?_) (fun c_2 => ?_)
  · have hr := if_no hr c_2
    refine lv_iload_n hx hb dX6_ofEdge_24 rfl (lv_at hl 3 rfl) ?_
    refine lv_iconst (v := 0) hx hb dX6_ofEdge_25 (by decide) ?_
    refine lv_iconst (v := 3) hx hb dX6_ofEdge_26 (by decide) ?_
    refine kCall (va_runS (As := [.int what, .int 0, .int 3]) (rest := []) ⟨hx, hb, hml, hown, hts⟩ (k_X6_isWithin l dC dI cI cN what 0 3) (va_cwS 3 hts gX6_ofEdge_X6_isWithin rfl rfl rfl (by decide +kernel) ⟨Nat.le_of_ble_eq_true rfl, Nat.le_of_ble_eq_true rfl⟩) (kW_S hP hK hD hN [] rfl rfl rfl) rfl rfl hl.1 rfl (lv_room (Nat.le_of_ble_eq_true rfl)) dX6_ofEdge_27 ⟨Nat.zero_le _, Nat.zero_le _⟩) hP hS (fun H locs hP hS => ?_)
    refine lv_if_ne (tgt := 44) hx hb dX6_ofEdge_30 (by decide) (fun c_3 => ?_) (fun c_3 => ?_)
    · have hr := if_no hr c_3
      refine lv_iload_n hx hb dX6_ofEdge_44 rfl (lv_at hl 3 rfl) ?_
      by_cases c_4 : what = (0 : Int32)
      · have hr := if_to hr c_4
        refine lv_tableIn (off := 27) (tgt := 72) hx hb dX6_ofEdge_45 (by rw [c_4]; decide) (by rw [c_4]; decide) (by rw [c_4]; decide) (by decide) ?_
        refine lv_iload_n hx hb dX6_ofEdge_72 rfl (lv_at hl 0 rfl) ?_
        refine kCall (va_runS (As := [.int pair_1]) (rest := []) ⟨hx, hb, hml, hown, hts⟩ (k_X6_oneOf l dC dI cI cN pair_1) (va_cwS 1 hts gX6_ofEdge_X6_oneOf rfl rfl rfl (by decide +kernel) ⟨Nat.le_of_ble_eq_true rfl, Nat.le_of_ble_eq_true rfl⟩) (kW_S hP hK hD hN [] rfl rfl rfl) rfl rfl hl.1 rfl (lv_room (Nat.le_of_ble_eq_true rfl)) dX6_ofEdge_73 ⟨Nat.zero_le _, Nat.zero_le _⟩) hP hS (fun H locs hP hS => ?_)
        cases hr.trans (hρ.trans hex)
      · have hr := if_no hr c_4
        by_cases c_5 : what = (1 : Int32)
        · have hr := if_to hr c_5
          refine lv_tableIn (off := 32) (tgt := 77) hx hb dX6_ofEdge_45 (by rw [c_5]; decide) (by rw [c_5]; decide) (by rw [c_5]; decide) (by decide) ?_
          refine lv_iload_n hx hb dX6_ofEdge_77 rfl (lv_at hl 0 rfl) ?_
          refine kCall (va_runS (As := [.int pair_1]) (rest := []) ⟨hx, hb, hml, hown, hts⟩ (k_X6_otherOf l dC dI cI cN pair_1) (va_cwS 1 hts gX6_ofEdge_X6_otherOf rfl rfl rfl (by decide +kernel) ⟨Nat.le_of_ble_eq_true rfl, Nat.le_of_ble_eq_true rfl⟩) (kW_S hP hK hD hN [] rfl rfl rfl) rfl rfl hl.1 rfl (lv_room (Nat.le_of_ble_eq_true rfl)) dX6_ofEdge_78 ⟨Nat.zero_le _, Nat.zero_le _⟩) hP hS (fun H locs hP hS => ?_)
          cases hr.trans (hρ.trans hex)
        · have hr := if_no hr c_5
          by_cases c_6 : what = (2 : Int32)
          · have hr := if_to hr c_6
            refine lv_tableIn (off := 37) (tgt := 82) hx hb dX6_ofEdge_45 (by rw [c_6]; decide) (by rw [c_6]; decide) (by rw [c_6]; decide) (by decide) ?_
            refine lv_aload_n hx hb dX6_ofEdge_82 rfl (lv_at hl 1 rfl) ?_
            refine va_get (D := (dC, dI)) (ci := 5) (v := .ref h0) (C := RX6) (T := TX6) (N := 10) hx hb hts (by decide +kernel) hown hK hP 0 rfl rfl 0 (by decide) (hts (.fieldLink RX6 12 "Shortring" "net" "LShortring$Net;") (by decide +kernel)) (fun _ h9 => h9) rfl dX6_ofEdge_83 ?_
            refine lv_iload_n hx hb dX6_ofEdge_86 rfl (lv_at hl 0 rfl) ?_
            refine kCall (va_runS (As := [.int pair_1]) (rest := [.ref h0]) ⟨hx, hb, hml, hown, hts⟩ (k_X6_oneOf l dC dI cI cN pair_1) (va_cwS 1 hts gX6_ofEdge_X6_oneOf rfl rfl rfl (by decide +kernel) ⟨Nat.le_of_ble_eq_true rfl, Nat.le_of_ble_eq_true rfl⟩) (kW_S hP hK hD hN [] rfl rfl rfl) rfl rfl hl.1 rfl (lv_room (Nat.le_of_ble_eq_true rfl)) dX6_ofEdge_87 ⟨Nat.zero_le _, Nat.zero_le _⟩) hP hS (fun H locs hP hS => ?_)
            refine lv_iload_n hx hb dX6_ofEdge_90 rfl (lv_at hl 0 rfl) ?_
            refine kCall (va_runS (As := [.int pair_1]) (rest := [.int (P_oneOf pair_1), .ref h0]) ⟨hx, hb, hml, hown, hts⟩ (k_X6_otherOf l dC dI cI cN pair_1) (va_cwS 1 hts gX6_ofEdge_X6_otherOf rfl rfl rfl (by decide +kernel) ⟨Nat.le_of_ble_eq_true rfl, Nat.le_of_ble_eq_true rfl⟩) (kW_S hP hK hD hN [] rfl rfl rfl) rfl rfl hl.1 rfl (lv_room (Nat.le_of_ble_eq_true rfl)) dX6_ofEdge_91 ⟨Nat.zero_le _, Nat.zero_le _⟩) hP hS (fun H locs hP hS => ?_)
            refine kCall (va_runSN (As := [.ref h0, .int (P_oneOf pair_1), .int (P_otherOf pair_1)]) (rest := []) ⟨hx, hb, hml, hown, hts⟩ (k_X5_leastRingBy l dC dI cI cN h0 h1 K f (P_oneOf pair_1) (P_otherOf pair_1) (by first | assumption | omega | exact Int32.le_refl _ | decide)) ⟨va_cnB 3 hts gX6_ofEdge_X5_leastRingBy_n283 rfl rfl rfl (hN.1 34 _ rfl) (hts (.initialized RX5) (by decide +kernel)) (by decide +kernel) ⟨Nat.le_of_ble_eq_true rfl, Nat.le_of_ble_eq_true rfl⟩, hts (.static yX5_leastRingBy) (by decide +kernel), trivial⟩ (kW_S hP hK hD hN [1, 2] rfl rfl rfl) rfl rfl hl.1 rfl (lv_room (Nat.le_of_ble_eq_true rfl)) dX6_ofEdge_94 ⟨Nat.zero_le _, Nat.zero_le _⟩) hP hS (fun H locs hP hS => ?_)
            refine lv_iconst (v := (-1)) hx hb dX6_ofEdge_97 (by decide) ?_
            refine lv_icmp_ne (tgt := 105) hx hb dX6_ofEdge_98 (by decide) (fun c_7 => ?_) (fun c_7 => ?_)
            · have hr := if_no hr c_7
              refine lv_iconst (v := 0) hx hb dX6_ofEdge_105 (by decide) ?_
              cases hr.trans (hρ.trans hex)
            · have hr := if_to hr c_7
              refine lv_iconst (v := 1) hx hb dX6_ofEdge_101 (by decide) ?_
              refine lv_goto (tgt := 106) hx hb dX6_ofEdge_102 (by decide) ?_
              cases hr.trans (hρ.trans hex)
          · have hr := if_no hr c_6
            refine lv_tableOut (tgt := 107) hx hb dX6_ofEdge_45 (by have z0 := lv_neT c_4 (show (0 : Int32).toInt = 0 from by decide); have z1 := lv_neT c_5 (show (1 : Int32).toInt = 1 from by decide); have z2 := lv_neT c_6 (show (2 : Int32).toInt = 2 from by decide); omega) (by decide) ?_
            refine lv_aload_n hx hb dX6_ofEdge_107 rfl (lv_at hl 1 rfl) ?_
            refine va_get (D := (dC, dI)) (ci := 5) (v := .ref h0) (C := RX6) (T := TX6) (N := 10) hx hb hts (by decide +kernel) hown hK hP 0 rfl rfl 0 (by decide) (hts (.fieldLink RX6 12 "Shortring" "net" "LShortring$Net;") (by decide +kernel)) (fun _ h9 => h9) rfl dX6_ofEdge_108 ?_
            refine lv_iload_n hx hb dX6_ofEdge_111 rfl (lv_at hl 0 rfl) ?_
            refine kCall (va_runS (As := [.int pair_1]) (rest := [.ref h0]) ⟨hx, hb, hml, hown, hts⟩ (k_X6_oneOf l dC dI cI cN pair_1) (va_cwS 1 hts gX6_ofEdge_X6_oneOf rfl rfl rfl (by decide +kernel) ⟨Nat.le_of_ble_eq_true rfl, Nat.le_of_ble_eq_true rfl⟩) (kW_S hP hK hD hN [] rfl rfl rfl) rfl rfl hl.1 rfl (lv_room (Nat.le_of_ble_eq_true rfl)) dX6_ofEdge_112 ⟨Nat.zero_le _, Nat.zero_le _⟩) hP hS (fun H locs hP hS => ?_)
            refine lv_iload_n hx hb dX6_ofEdge_115 rfl (lv_at hl 0 rfl) ?_
            refine kCall (va_runS (As := [.int pair_1]) (rest := [.int (P_oneOf pair_1), .ref h0]) ⟨hx, hb, hml, hown, hts⟩ (k_X6_otherOf l dC dI cI cN pair_1) (va_cwS 1 hts gX6_ofEdge_X6_otherOf rfl rfl rfl (by decide +kernel) ⟨Nat.le_of_ble_eq_true rfl, Nat.le_of_ble_eq_true rfl⟩) (kW_S hP hK hD hN [] rfl rfl rfl) rfl rfl hl.1 rfl (lv_room (Nat.le_of_ble_eq_true rfl)) dX6_ofEdge_116 ⟨Nat.zero_le _, Nat.zero_le _⟩) hP hS (fun H locs hP hS => ?_)
            refine kCall (va_runSN (As := [.ref h0, .int (P_oneOf pair_1), .int (P_otherOf pair_1)]) (rest := []) ⟨hx, hb, hml, hown, hts⟩ (k_X5_leastRingBy l dC dI cI cN h0 h1 K f (P_oneOf pair_1) (P_otherOf pair_1) (by first | assumption | omega | exact Int32.le_refl _ | decide)) ⟨va_cnB 3 hts gX6_ofEdge_X5_leastRingBy_n283 rfl rfl rfl (hN.1 34 _ rfl) (hts (.initialized RX5) (by decide +kernel)) (by decide +kernel) ⟨Nat.le_of_ble_eq_true rfl, Nat.le_of_ble_eq_true rfl⟩, hts (.static yX5_leastRingBy) (by decide +kernel), trivial⟩ (kW_S hP hK hD hN [1, 2] rfl rfl rfl) rfl rfl hl.1 rfl (lv_room (Nat.le_of_ble_eq_true rfl)) dX6_ofEdge_119 ⟨Nat.zero_le _, Nat.zero_le _⟩) hP hS (fun H locs hP hS => ?_)
            cases hr.trans (hρ.trans hex)
    · have hr := if_to hr c_3
      exact kThrowSW hx hb hl9 hown 1 (ik := 66) (is := 275) (ic := 70) (Sum.inr.inj (hr.trans (hρ.trans hex))) (by decide +kernel) (hts (.classLink RX6 66 "java/lang/IllegalArgumentException") (by decide +kernel)) (hts (.initialized "java/lang/IllegalArgumentException") (by decide +kernel)) 18 rfl (fun w h => hts w (gfX6_ofEdge_1 w h)) kBad1 (kHg kOt1) hE hS (hl.1.trans hml.symm) dX6_ofEdge_33 dX6_ofEdge_36 dX6_ofEdge_37 dX6_ofEdge_40 dX6_ofEdge_43 hxt (Nat.le_of_ble_eq_true rfl) (Nat.le_of_ble_eq_true rfl) (Nat.le_of_ble_eq_true rfl) (Nat.le_of_ble_eq_true rfl) hlocks
  · have hr := if_to hr c_2
    exact kThrowS hx hb hl9 hown 2 (ik := 91) (is := 156) (ic := 95) (Sum.inr.inj (hr.trans (hρ.trans hex))) (by decide +kernel) (hts (.classLink RX6 91 "java/lang/IndexOutOfBoundsException") (by decide +kernel)) (hts (.initialized "java/lang/IndexOutOfBoundsException") (by decide +kernel)) 7 rfl (fun w h => hts w (gfX6_ofEdge_2 w h)) kBad2 (kHg kOt2) hE hS (hl.1.trans hml.symm) dX6_ofEdge_14 dX6_ofEdge_17 dX6_ofEdge_18 dX6_ofEdge_20 dX6_ofEdge_23 hxt (Nat.le_of_ble_eq_true rfl) (Nat.le_of_ble_eq_true rfl) (Nat.le_of_ble_eq_true rfl) (Nat.le_of_ble_eq_true rfl) hlocks
def P_doubled (K : Nat) (f : Nat → Int32) (fs : Nat → Int32) (t : Nat → Int32) (marks : Int32) : (Int32 × (Nat → Int32) × (Nat → Int32) × (Nat → Int32)) ⊕ Nat :=
  if (P_isSetBelow marks (P_edgesInAll K f)) = 0 then
    Sum.inr 1
  else
    if (P_isWithin (nI K) 3 8) = 0 then
      Sum.inr 3
    else
      bd (P_layDouble K f fs marks) (fun r_3 =>
        bd (P_take f r_3) (fun r_4 =>
          bd (P_look t (2 * K) r_4) (fun r_5 =>
            Sum.inl (P_leastRing (2 * K) r_4, r_4, r_3, r_5))))
abbrev rm_X6_doubled : Room := { frames := 6, cells := 0, slots := 0, locals := 139 }
set_option maxHeartbeats 4000000 in
set_option maxRecDepth 100000 in
theorem k_X6_doubled (l : Launch) (dC : Nat → ClassId) (dI : Nat → Nat → Nat) (cI cN : ClassId) (s0 : Nat) (kp0 : Nat) (ta0 : Nat) (km : Int32) (rf : Int32) (d0 : Nat) (c0 : Nat) (h0 : Nat) (h1 : Nat) (K : Nat) (f : Nat → Int32) (sc0 : Nat) (sc1 : Nat) (KS : Nat) (fs : Nat → Int32) (a0 : Nat) (a1 : Nat) (a2 : Nat) (a3 : Nat) (a4 : Nat) (isOn : Int32) (cnt : Int32) (len : Int32) (stp : Int32) (sta : Int32) (pm : Int32) (bm : Int32) (bw : Nat → Int32) (bars : Nat → Int32) (puts : Nat → Int32) (bap : Nat → Int32) (q0 : Nat) (q1 : Nat) (q2 : Nat) (g : Nat → Int32) (t : Nat → Int32) (marks : Int32) (hK : K ≤ 16) (sz : Nat) (v : Int32 × (Nat → Int32) × (Nat → Int32) × (Nat → Int32)) (hok : P_doubled K f fs t marks = .inl v) : Met l yX6_doubled wsX6_doubled rm_X6_doubled (va_Pc [.ref s0, .int marks] (kU dC dI cI cN [(s0, .inr (5, [.ref h0, .ref sc0, .ref kp0, .ref a0, .ref q0, .ref d0, .ref c0, .ref ta0, .int km, .int rf])), (h0, .inr (3, [.ref h1, .int (nI K)])), (h1, .inl (cI, 16, .inl f)), (sc0, .inr (3, [.ref sc1, .int (nI KS)])), (sc1, .inl (cI, 16, .inl fs)), (a0, .inr (0, [.ref a1, .ref a2, .ref a3, .ref a4, .int isOn, .int cnt, .int len, .int stp, .int sta, .int pm, .int bm])), (a1, .inl (cI, 16, .inl bw)), (a2, .inl (cI, 120, .inl bars)), (a3, .inl (cI, 40, .inl puts)), (a4, .inl (cI, 40, .inl bap)), (q0, .inr (1, [.ref q1, .ref q2])), (q1, .inl (cI, 102, .inl g)), (q2, .inl (cI, 54, .inl t))] sz)) (kVi dC dI v.1 [(s0, .inr (5, [.ref h0, .ref sc0, .ref kp0, .ref a0, .ref q0, .ref d0, .ref c0, .ref ta0, .int km, .int rf])), (h0, .inr (3, [.ref h1, .int (nI (2 * K))])), (h1, .inl (cI, 16, .inl (v.2.1))), (sc0, .inr (3, [.ref sc1, .int (nI (2 * K))])), (sc1, .inl (cI, 16, .inl (v.2.2.1))), (a0, .inr (0, [.ref a1, .ref a2, .ref a3, .ref a4, .int 0, .int cnt, .int len, .int stp, .int sta, .int pm, .int bm])), (a1, .inl (cI, 16, .inl bw)), (a2, .inl (cI, 120, .inl bars)), (a3, .inl (cI, 40, .inl puts)), (a4, .inl (cI, 40, .inl bap)), (q0, .inr (1, [.ref q1, .ref q2])), (q1, .inl (cI, 102, .inl g)), (q2, .inl (cI, 54, .inl (v.2.2.2)))] (va_A [(s0, .inr (5, [.ref h0, .ref sc0, .ref kp0, .ref a0, .ref q0, .ref d0, .ref c0, .ref ta0, .int km, .int rf])), (h0, .inr (3, [.ref h1, .int (nI K)])), (h1, .inl (cI, 16, .inl f)), (sc0, .inr (3, [.ref sc1, .int (nI KS)])), (sc1, .inl (cI, 16, .inl fs)), (a0, .inr (0, [.ref a1, .ref a2, .ref a3, .ref a4, .int isOn, .int cnt, .int len, .int stp, .int sta, .int pm, .int bm])), (a1, .inl (cI, 16, .inl bw)), (a2, .inl (cI, 120, .inl bars)), (a3, .inl (cI, 40, .inl puts)), (a4, .inl (cI, 40, .inl bap)), (q0, .inr (1, [.ref q1, .ref q2])), (q1, .inl (cI, 102, .inl g)), (q2, .inl (cI, 54, .inl t))] sz)) 0 0 (va_A [(s0, .inr (5, [.ref h0, .ref sc0, .ref kp0, .ref a0, .ref q0, .ref d0, .ref c0, .ref ta0, .int km, .int rf])), (h0, .inr (3, [.ref h1, .int (nI K)])), (h1, .inl (cI, 16, .inl f)), (sc0, .inr (3, [.ref sc1, .int (nI KS)])), (sc1, .inl (cI, 16, .inl fs)), (a0, .inr (0, [.ref a1, .ref a2, .ref a3, .ref a4, .int isOn, .int cnt, .int len, .int stp, .int sta, .int pm, .int bm])), (a1, .inl (cI, 16, .inl bw)), (a2, .inl (cI, 120, .inl bars)), (a3, .inl (cI, 40, .inl puts)), (a4, .inl (cI, 40, .inl bap)), (q0, .inr (1, [.ref q1, .ref q2])), (q1, .inl (cI, 102, .inl g)), (q2, .inl (cI, 54, .inl t))] sz) := by
  refine Met.ofW (cc := cX6_doubled) (maxL := 2) (ret := (some .int)) (by decide) rfl ?_
  intro p e s m args below meth c s₁ B hml hv
  obtain ⟨rfl, hsz, hP, hK, hD0, hN⟩ := hv
  have hx := B.exec
  have hb := B.bytes
  have hr0 := B.returns
  have hts := atoms_spec (ws := wsX6_doubled) B.pre
  have hown : s.vm.findClass RX6 = some m.cls := findClass_of_methodNamed B.named
  have hlocks := B.notSynchronized
  subst hsz
  have hD := hD0.self (sz := s.heap.size)
  generalize hAe : va_A [(s0, .inr (5, [.ref h0, .ref sc0, .ref kp0, .ref a0, .ref q0, .ref d0, .ref c0, .ref ta0, .int km, .int rf])), (h0, .inr (3, [.ref h1, .int (nI K)])), (h1, .inl (cI, 16, .inl f)), (sc0, .inr (3, [.ref sc1, .int (nI KS)])), (sc1, .inl (cI, 16, .inl fs)), (a0, .inr (0, [.ref a1, .ref a2, .ref a3, .ref a4, .int isOn, .int cnt, .int len, .int stp, .int sta, .int pm, .int bm])), (a1, .inl (cI, 16, .inl bw)), (a2, .inl (cI, 120, .inl bars)), (a3, .inl (cI, 40, .inl puts)), (a4, .inl (cI, 40, .inl bap)), (q0, .inr (1, [.ref q1, .ref q2])), (q1, .inl (cI, 102, .inl g)), (q2, .inl (cI, 54, .inl t))] s.heap.size = A at hD ⊢
  have hA : ∀ q : Nat, s.heap.size ≤ q → A q := fun q h => by rw [← hAe]; exact Or.inr h
  have hS : va_S A s.heap s.heap [] := va_S.rf
  have hl := lv_entry ([.ref s0, .int marks]) (n := 2) (Nat.le_of_ble_eq_true rfl)
  rw [lg_entry_eq]
  generalize (lg_sl ([.ref s0, .int marks]) ++ List.replicate (2 - (lg_sl ([.ref s0, .int marks])).length) Slot.unset).toArray = ls at hl ⊢
  have hl : lv_has ls 2 [(0, .ref s0), (1, .int marks)] := hl
  obtain ⟨ρ, hρ⟩ : ∃ ρ : (Int32 × (Nat → Int32) × (Nat → Int32) × (Nat → Int32)) ⊕ Nat, ρ = P_doubled K f fs t marks := ⟨_, rfl⟩
  have hr : P_doubled K f fs t marks = ρ := hρ.symm
  rewrite [P_doubled] at hr
  refine lv_iload_n hx hb dX6_doubled_0 rfl (lv_at hl 1 rfl) ?_
  refine lv_aload_n hx hb dX6_doubled_1 rfl (lv_at hl 0 rfl) ?_
  refine va_get (D := (dC, dI)) (ci := 5) (v := .ref h0) (C := RX6) (T := TX6) (N := 10) hx hb hts (by decide +kernel) hown hK hP 0 rfl rfl 0 (by decide) (hts (.fieldLink RX6 12 "Shortring" "net" "LShortring$Net;") (by decide +kernel)) (fun _ h9 => h9) rfl dX6_doubled_2 ?_
  refine kCall (va_runVN (As := []) (rest := [.int marks]) ⟨hx, hb, hml, hown, hts⟩ (k_X3_edgesInAll l dC dI cI cN h0 h1 K f (by first | assumption | omega | exact Int32.le_refl _ | decide)) ⟨va_cnB 0 hts gX6_doubled_X3_edgesInAll_n130 rfl rfl rfl (hN.1 13 _ rfl) (hts (.initialized RX3) (by decide +kernel)) (by decide +kernel) ⟨Nat.le_of_ble_eq_true rfl, Nat.le_of_ble_eq_true rfl⟩, hts (.instanceMethod yX3_edgesInAll) (by decide +kernel), hts (.selects RX3 yX3_edgesInAll yX3_edgesInAll) (by decide +kernel)⟩ (kW_V hP hK hD hN (ci := 3) (q0 := 1) rfl rfl [1, 2] rfl rfl rfl) rfl rfl hl.1 rfl (lv_room (Nat.le_of_ble_eq_true rfl)) dX6_doubled_5 ⟨Nat.zero_le _, Nat.zero_le _⟩) hP hS (fun H locs hP hS => ?_)
  refine kCall (va_runS (As := [.int marks, .int (P_edgesInAll K f)]) (rest := []) ⟨hx, hb, hml, hown, hts⟩ (k_X6_isSetBelow l dC dI cI cN marks (P_edgesInAll K f)) (va_cwS 2 hts gX6_doubled_X6_isSetBelow rfl rfl rfl (by decide +kernel) ⟨Nat.le_of_ble_eq_true rfl, Nat.le_of_ble_eq_true rfl⟩) (kW_S hP hK hD hN [] rfl rfl rfl) rfl rfl hl.1 rfl (lv_room (Nat.le_of_ble_eq_true rfl)) dX6_doubled_8 ⟨Nat.zero_le _, Nat.zero_le _⟩) hP hS (fun H locs hP hS => ?_)
  refine lv_if_ne (tgt := 24) hx hb dX6_doubled_11 (by decide) (fun c_1 => ?_) (fun c_1 => ?_)
  · have hr := if_no hr c_1
    refine lv_aload_n hx hb dX6_doubled_24 rfl (lv_at hl 0 rfl) ?_
    refine va_get (D := (dC, dI)) (ci := 5) (v := .ref h0) (C := RX6) (T := TX6) (N := 10) hx hb hts (by decide +kernel) hown hK hP 0 rfl rfl 0 (by decide) (hts (.fieldLink RX6 12 "Shortring" "net" "LShortring$Net;") (by decide +kernel)) (fun _ h9 => h9) rfl dX6_doubled_25 ?_
    refine va_getN (D := (dC, dI)) (ci := 3) (v := .int (nI K)) (C := RX3) (T := TX3) (N := 2) hx hb hts (by decide +kernel) hown hK hP 1 rfl rfl 1 (by decide) (va_Nw.use rfl (hN.2 0 _ rfl)) (fun _ h9 => h9) rfl dX6_doubled_28 ?_
    refine lv_iconst (v := 3) hx hb dX6_doubled_31 (by decide) ?_
    refine lv_bipush (v := 8) hx hb dX6_doubled_32 (by decide) ?_
    refine kCall (va_runS (As := [.int (nI K), .int 3, .int 8]) (rest := []) ⟨hx, hb, hml, hown, hts⟩ (k_X6_isWithin l dC dI cI cN (nI K) 3 8) (va_cwS 3 hts gX6_doubled_X6_isWithin rfl rfl rfl (by decide +kernel) ⟨Nat.le_of_ble_eq_true rfl, Nat.le_of_ble_eq_true rfl⟩) (kW_S hP hK hD hN [] rfl rfl rfl) rfl rfl hl.1 rfl (lv_room (Nat.le_of_ble_eq_true rfl)) dX6_doubled_34 ⟨Nat.zero_le _, Nat.zero_le _⟩) hP hS (fun H locs hP hS => ?_)
    refine lv_if_ne (tgt := 50) hx hb dX6_doubled_37 (by decide) (fun c_2 => ?_) (fun c_2 => ?_)
    · have hr := if_no hr c_2
      have hMr := kWithin (lo := 3) (hi := 8) (M := K) (by omega) (by omega) (by omega) (by assumption)
      refine lv_aload_n hx hb dX6_doubled_50 rfl (lv_at hl 0 rfl) ?_
      refine lv_iload_n hx hb dX6_doubled_51 rfl (lv_at hl 1 rfl) ?_
      refine kCallV (wr := [(a0, .inr (0, [.ref a1, .ref a2, .ref a3, .ref a4, .int isOn, .int cnt, .int len, .int stp, .int sta, .int pm, .int bm])), (a1, .inl (cI, 16, .inl bw)), (a2, .inl (cI, 120, .inl bars)), (a3, .inl (cI, 40, .inl puts)), (a4, .inl (cI, 40, .inl bap)), (q0, .inr (1, [.ref q1, .ref q2])), (q1, .inl (cI, 102, .inl g)), (q2, .inl (cI, 54, .inl t))]) (va_runV (As := [.int marks]) (rest := []) ⟨hx, hb, hml, hown, hts⟩ (k_X6_layDouble l dC dI cI cN s0 kp0 ta0 km rf a0 q0 d0 c0 h0 h1 K f sc0 sc1 KS fs marks (by first | assumption | omega | exact Int32.le_refl _ | decide) _) (cwV 1 hts gX6_doubled_X6_layDouble rfl rfl rfl (by decide +kernel) ⟨Nat.le_of_ble_eq_true rfl, Nat.le_of_ble_eq_true rfl⟩) (kU_V hP hK hD hN (ci := 5) (q0 := 0) rfl rfl [0, 1, 2, 3, 4] rfl rfl rfl) rfl rfl hl.1 rfl (lv_room (Nat.le_of_ble_eq_true rfl)) dX6_doubled_52 ⟨Nat.zero_le _, Nat.zero_le _⟩) hP hD hS hA [0, 1, 2, 3, 4] [5, 6, 7, 8, 9, 10, 11, 12] rfl rfl rfl rfl (by decide) rfl (fun H locs hP hD hS => ?_)
      obtain ⟨r_3, er_3⟩ : ∃ y : Nat → Int32, y = (P_layDouble K f fs marks) := ⟨_, rfl⟩
      try rw [← er_3] at hP hD
      have hr := bd_to hr er_3
      have hP : va_P (dC, dI) kCl [(s0, .inr (5, [.ref h0, .ref sc0, .ref kp0, .ref a0, .ref q0, .ref d0, .ref c0, .ref ta0, .int km, .int rf])), (h0, .inr (3, [.ref h1, .int (nI K)])), (h1, .inl (cI, 16, .inl f)), (sc0, .inr (3, [.ref sc1, .int (nI (2 * K))])), (sc1, .inl (cI, 16, .inl r_3)), (a0, .inr (0, [.ref a1, .ref a2, .ref a3, .ref a4, .int isOn, .int cnt, .int len, .int stp, .int sta, .int pm, .int bm])), (a1, .inl (cI, 16, .inl bw)), (a2, .inl (cI, 120, .inl bars)), (a3, .inl (cI, 40, .inl puts)), (a4, .inl (cI, 40, .inl bap)), (q0, .inr (1, [.ref q1, .ref q2])), (q1, .inl (cI, 102, .inl g)), (q2, .inl (cI, 54, .inl t))] H := hP.sub [8, 9, 10, 11, 12, 0, 1, 2, 3, 4, 5, 6, 7] rfl
      have hD : va_D A [(s0, .inr (5, [.ref h0, .ref sc0, .ref kp0, .ref a0, .ref q0, .ref d0, .ref c0, .ref ta0, .int km, .int rf])), (h0, .inr (3, [.ref h1, .int (nI K)])), (h1, .inl (cI, 16, .inl f)), (sc0, .inr (3, [.ref sc1, .int (nI (2 * K))])), (sc1, .inl (cI, 16, .inl r_3)), (a0, .inr (0, [.ref a1, .ref a2, .ref a3, .ref a4, .int isOn, .int cnt, .int len, .int stp, .int sta, .int pm, .int bm])), (a1, .inl (cI, 16, .inl bw)), (a2, .inl (cI, 120, .inl bars)), (a3, .inl (cI, 40, .inl puts)), (a4, .inl (cI, 40, .inl bap)), (q0, .inr (1, [.ref q1, .ref q2])), (q1, .inl (cI, 102, .inl g)), (q2, .inl (cI, 54, .inl t))] := hD.sub [8, 9, 10, 11, 12, 0, 1, 2, 3, 4, 5, 6, 7] (by decide) rfl
      refine lv_aload_n hx hb dX6_doubled_55 rfl (lv_at hl 0 rfl) ?_
      refine va_get (D := (dC, dI)) (ci := 5) (v := .ref h0) (C := RX6) (T := TX6) (N := 10) hx hb hts (by decide +kernel) hown hK hP 0 rfl rfl 0 (by decide) (hts (.fieldLink RX6 12 "Shortring" "net" "LShortring$Net;") (by decide +kernel)) (fun _ h9 => h9) rfl dX6_doubled_56 ?_
      refine lv_aload_n hx hb dX6_doubled_59 rfl (lv_at hl 0 rfl) ?_
      refine va_get (D := (dC, dI)) (ci := 5) (v := .ref sc0) (C := RX6) (T := TX6) (N := 10) hx hb hts (by decide +kernel) hown hK hP 0 rfl rfl 1 (by decide) (hts (.fieldLink RX6 16 "Shortring" "scratch" "LShortring$Net;") (by decide +kernel)) (fun _ h9 => h9) rfl dX6_doubled_60 ?_
      refine kCallV (wr := [(s0, .inr (5, [.ref h0, .ref sc0, .ref kp0, .ref a0, .ref q0, .ref d0, .ref c0, .ref ta0, .int km, .int rf])), (a0, .inr (0, [.ref a1, .ref a2, .ref a3, .ref a4, .int isOn, .int cnt, .int len, .int stp, .int sta, .int pm, .int bm])), (a1, .inl (cI, 16, .inl bw)), (a2, .inl (cI, 120, .inl bars)), (a3, .inl (cI, 40, .inl puts)), (a4, .inl (cI, 40, .inl bap)), (q0, .inr (1, [.ref q1, .ref q2])), (q1, .inl (cI, 102, .inl g)), (q2, .inl (cI, 54, .inl t))]) (va_runVN (As := [.ref sc0]) (rest := []) ⟨hx, hb, hml, hown, hts⟩ (k_X3_take l dC dI cI cN h0 h1 K f sc0 sc1 (2 * K) r_3 (by first | assumption | omega | exact Int32.le_refl _ | decide) _) ⟨va_cnB 1 hts gX6_doubled_X3_take_n144 rfl rfl rfl (hN.1 14 _ rfl) (hts (.initialized RX3) (by decide +kernel)) (by decide +kernel) ⟨Nat.le_of_ble_eq_true rfl, Nat.le_of_ble_eq_true rfl⟩, hts (.instanceMethod yX3_take) (by decide +kernel), hts (.selects RX3 yX3_take yX3_take) (by decide +kernel)⟩ (kU_V hP hK hD hN (ci := 3) (q0 := 1) rfl rfl [1, 2, 3, 4] rfl rfl rfl) rfl rfl hl.1 rfl (lv_room (Nat.le_of_ble_eq_true rfl)) dX6_doubled_63 ⟨Nat.zero_le _, Nat.zero_le _⟩) hP hD hS hA [1, 2, 3, 4] [0, 5, 6, 7, 8, 9, 10, 11, 12] rfl rfl rfl rfl (by decide) rfl (fun H locs hP hD hS => ?_)
      obtain ⟨r_4, er_4⟩ : ∃ y : Nat → Int32, y = (P_take f r_3) := ⟨_, rfl⟩
      try rw [← er_4] at hP hD
      have hr := bd_to hr er_4
      have hP : va_P (dC, dI) kCl [(s0, .inr (5, [.ref h0, .ref sc0, .ref kp0, .ref a0, .ref q0, .ref d0, .ref c0, .ref ta0, .int km, .int rf])), (h0, .inr (3, [.ref h1, .int (nI (2 * K))])), (h1, .inl (cI, 16, .inl r_4)), (sc0, .inr (3, [.ref sc1, .int (nI (2 * K))])), (sc1, .inl (cI, 16, .inl r_3)), (a0, .inr (0, [.ref a1, .ref a2, .ref a3, .ref a4, .int isOn, .int cnt, .int len, .int stp, .int sta, .int pm, .int bm])), (a1, .inl (cI, 16, .inl bw)), (a2, .inl (cI, 120, .inl bars)), (a3, .inl (cI, 40, .inl puts)), (a4, .inl (cI, 40, .inl bap)), (q0, .inr (1, [.ref q1, .ref q2])), (q1, .inl (cI, 102, .inl g)), (q2, .inl (cI, 54, .inl t))] H := hP.sub [0, 9, 10, 11, 12, 1, 2, 3, 4, 5, 6, 7, 8] rfl
      have hD : va_D A [(s0, .inr (5, [.ref h0, .ref sc0, .ref kp0, .ref a0, .ref q0, .ref d0, .ref c0, .ref ta0, .int km, .int rf])), (h0, .inr (3, [.ref h1, .int (nI (2 * K))])), (h1, .inl (cI, 16, .inl r_4)), (sc0, .inr (3, [.ref sc1, .int (nI (2 * K))])), (sc1, .inl (cI, 16, .inl r_3)), (a0, .inr (0, [.ref a1, .ref a2, .ref a3, .ref a4, .int isOn, .int cnt, .int len, .int stp, .int sta, .int pm, .int bm])), (a1, .inl (cI, 16, .inl bw)), (a2, .inl (cI, 120, .inl bars)), (a3, .inl (cI, 40, .inl puts)), (a4, .inl (cI, 40, .inl bap)), (q0, .inr (1, [.ref q1, .ref q2])), (q1, .inl (cI, 102, .inl g)), (q2, .inl (cI, 54, .inl t))] := hD.sub [0, 9, 10, 11, 12, 1, 2, 3, 4, 5, 6, 7, 8] (by decide) rfl
      refine lv_aload_n hx hb dX6_doubled_66 rfl (lv_at hl 0 rfl) ?_
      refine va_get (D := (dC, dI)) (ci := 5) (v := .ref a0) (C := RX6) (T := TX6) (N := 10) hx hb hts (by decide +kernel) hown hK hP 0 rfl rfl 3 (by decide) (hts (.fieldLink RX6 26 "Shortring" "hunt" "LShortring$Hunt;") (by decide +kernel)) (fun _ h9 => h9) rfl dX6_doubled_67 ?_
      refine kCallV (wr := [(s0, .inr (5, [.ref h0, .ref sc0, .ref kp0, .ref a0, .ref q0, .ref d0, .ref c0, .ref ta0, .int km, .int rf])), (h0, .inr (3, [.ref h1, .int (nI (2 * K))])), (h1, .inl (cI, 16, .inl r_4)), (sc0, .inr (3, [.ref sc1, .int (nI (2 * K))])), (sc1, .inl (cI, 16, .inl r_3)), (q0, .inr (1, [.ref q1, .ref q2])), (q1, .inl (cI, 102, .inl g)), (q2, .inl (cI, 54, .inl t))]) (va_runVN (As := []) (rest := []) ⟨hx, hb, hml, hown, hts⟩ (k_X0_end l dC dI cI cN a0 a1 a2 a3 a4 isOn cnt len stp sta pm bm bw bars puts bap _) ⟨va_cnB 0 hts gX6_doubled_X0_end_n80 rfl rfl rfl (hN.1 6 _ rfl) (hts (.initialized RX0) (by decide +kernel)) (by decide +kernel) ⟨Nat.le_of_ble_eq_true rfl, Nat.le_of_ble_eq_true rfl⟩, hts (.instanceMethod yX0_end) (by decide +kernel), hts (.selects RX0 yX0_end yX0_end) (by decide +kernel)⟩ (kU_V hP hK hD hN (ci := 0) (q0 := 5) rfl rfl [5, 6, 7, 8, 9] rfl rfl rfl) rfl rfl hl.1 rfl (lv_room (Nat.le_of_ble_eq_true rfl)) dX6_doubled_70 ⟨Nat.zero_le _, Nat.zero_le _⟩) hP hD hS hA [5, 6, 7, 8, 9] [0, 1, 2, 3, 4, 10, 11, 12] rfl rfl rfl rfl (by decide) rfl (fun H locs hP hD hS => ?_)
      have hP : va_P (dC, dI) kCl [(s0, .inr (5, [.ref h0, .ref sc0, .ref kp0, .ref a0, .ref q0, .ref d0, .ref c0, .ref ta0, .int km, .int rf])), (h0, .inr (3, [.ref h1, .int (nI (2 * K))])), (h1, .inl (cI, 16, .inl r_4)), (sc0, .inr (3, [.ref sc1, .int (nI (2 * K))])), (sc1, .inl (cI, 16, .inl r_3)), (a0, .inr (0, [.ref a1, .ref a2, .ref a3, .ref a4, .int 0, .int cnt, .int len, .int stp, .int sta, .int pm, .int bm])), (a1, .inl (cI, 16, .inl bw)), (a2, .inl (cI, 120, .inl bars)), (a3, .inl (cI, 40, .inl puts)), (a4, .inl (cI, 40, .inl bap)), (q0, .inr (1, [.ref q1, .ref q2])), (q1, .inl (cI, 102, .inl g)), (q2, .inl (cI, 54, .inl t))] H := hP.sub [0, 1, 2, 3, 4, 8, 9, 10, 11, 12, 5, 6, 7] rfl
      have hD : va_D A [(s0, .inr (5, [.ref h0, .ref sc0, .ref kp0, .ref a0, .ref q0, .ref d0, .ref c0, .ref ta0, .int km, .int rf])), (h0, .inr (3, [.ref h1, .int (nI (2 * K))])), (h1, .inl (cI, 16, .inl r_4)), (sc0, .inr (3, [.ref sc1, .int (nI (2 * K))])), (sc1, .inl (cI, 16, .inl r_3)), (a0, .inr (0, [.ref a1, .ref a2, .ref a3, .ref a4, .int 0, .int cnt, .int len, .int stp, .int sta, .int pm, .int bm])), (a1, .inl (cI, 16, .inl bw)), (a2, .inl (cI, 120, .inl bars)), (a3, .inl (cI, 40, .inl puts)), (a4, .inl (cI, 40, .inl bap)), (q0, .inr (1, [.ref q1, .ref q2])), (q1, .inl (cI, 102, .inl g)), (q2, .inl (cI, 54, .inl t))] := hD.sub [0, 1, 2, 3, 4, 8, 9, 10, 11, 12, 5, 6, 7] (by decide) rfl
      refine lv_aload_n hx hb dX6_doubled_73 rfl (lv_at hl 0 rfl) ?_
      refine va_get (D := (dC, dI)) (ci := 5) (v := .ref q0) (C := RX6) (T := TX6) (N := 10) hx hb hts (by decide +kernel) hown hK hP 0 rfl rfl 4 (by decide) (hts (.fieldLink RX6 33 "Shortring" "ledger" "LShortring$Ledger;") (by decide +kernel)) (fun _ h9 => h9) rfl dX6_doubled_74 ?_
      refine lv_aload_n hx hb dX6_doubled_77 rfl (lv_at hl 0 rfl) ?_
      refine va_get (D := (dC, dI)) (ci := 5) (v := .ref h0) (C := RX6) (T := TX6) (N := 10) hx hb hts (by decide +kernel) hown hK hP 0 rfl rfl 0 (by decide) (hts (.fieldLink RX6 12 "Shortring" "net" "LShortring$Net;") (by decide +kernel)) (fun _ h9 => h9) rfl dX6_doubled_78 ?_
      refine kCallV (wr := [(s0, .inr (5, [.ref h0, .ref sc0, .ref kp0, .ref a0, .ref q0, .ref d0, .ref c0, .ref ta0, .int km, .int rf])), (sc0, .inr (3, [.ref sc1, .int (nI (2 * K))])), (sc1, .inl (cI, 16, .inl r_3)), (a0, .inr (0, [.ref a1, .ref a2, .ref a3, .ref a4, .int 0, .int cnt, .int len, .int stp, .int sta, .int pm, .int bm])), (a1, .inl (cI, 16, .inl bw)), (a2, .inl (cI, 120, .inl bars)), (a3, .inl (cI, 40, .inl puts)), (a4, .inl (cI, 40, .inl bap))]) (va_runVN (As := [.ref h0]) (rest := []) ⟨hx, hb, hml, hown, hts⟩ (k_X1_look l dC dI cI cN q0 q1 q2 g t h0 h1 (2 * K) r_4 (by first | assumption | omega | exact Int32.le_refl _ | decide) _) ⟨va_cnB 1 hts gX6_doubled_X1_look_n83 rfl rfl rfl (hN.1 7 _ rfl) (hts (.initialized RX1) (by decide +kernel)) (by decide +kernel) ⟨Nat.le_of_ble_eq_true rfl, Nat.le_of_ble_eq_true rfl⟩, hts (.instanceMethod yX1_look) (by decide +kernel), hts (.selects RX1 yX1_look yX1_look) (by decide +kernel)⟩ (kU_V hP hK hD hN (ci := 1) (q0 := 10) rfl rfl [10, 11, 12, 1, 2] rfl rfl rfl) rfl rfl hl.1 rfl (lv_room (Nat.le_of_ble_eq_true rfl)) dX6_doubled_81 ⟨Nat.zero_le _, Nat.zero_le _⟩) hP hD hS hA [10, 11, 12, 1, 2] [0, 3, 4, 5, 6, 7, 8, 9] rfl rfl rfl rfl (by decide) rfl (fun H locs hP hD hS => ?_)
      obtain ⟨r_5, er_5⟩ : ∃ y : Nat → Int32, y = (P_look t (2 * K) r_4) := ⟨_, rfl⟩
      try rw [← er_5] at hP hD
      have hr := bd_to hr er_5
      have hP : va_P (dC, dI) kCl [(s0, .inr (5, [.ref h0, .ref sc0, .ref kp0, .ref a0, .ref q0, .ref d0, .ref c0, .ref ta0, .int km, .int rf])), (h0, .inr (3, [.ref h1, .int (nI (2 * K))])), (h1, .inl (cI, 16, .inl r_4)), (sc0, .inr (3, [.ref sc1, .int (nI (2 * K))])), (sc1, .inl (cI, 16, .inl r_3)), (a0, .inr (0, [.ref a1, .ref a2, .ref a3, .ref a4, .int 0, .int cnt, .int len, .int stp, .int sta, .int pm, .int bm])), (a1, .inl (cI, 16, .inl bw)), (a2, .inl (cI, 120, .inl bars)), (a3, .inl (cI, 40, .inl puts)), (a4, .inl (cI, 40, .inl bap)), (q0, .inr (1, [.ref q1, .ref q2])), (q1, .inl (cI, 102, .inl g)), (q2, .inl (cI, 54, .inl r_5))] H := hP.sub [0, 11, 12, 1, 2, 3, 4, 5, 6, 7, 8, 9, 10] rfl
      have hD : va_D A [(s0, .inr (5, [.ref h0, .ref sc0, .ref kp0, .ref a0, .ref q0, .ref d0, .ref c0, .ref ta0, .int km, .int rf])), (h0, .inr (3, [.ref h1, .int (nI (2 * K))])), (h1, .inl (cI, 16, .inl r_4)), (sc0, .inr (3, [.ref sc1, .int (nI (2 * K))])), (sc1, .inl (cI, 16, .inl r_3)), (a0, .inr (0, [.ref a1, .ref a2, .ref a3, .ref a4, .int 0, .int cnt, .int len, .int stp, .int sta, .int pm, .int bm])), (a1, .inl (cI, 16, .inl bw)), (a2, .inl (cI, 120, .inl bars)), (a3, .inl (cI, 40, .inl puts)), (a4, .inl (cI, 40, .inl bap)), (q0, .inr (1, [.ref q1, .ref q2])), (q1, .inl (cI, 102, .inl g)), (q2, .inl (cI, 54, .inl r_5))] := hD.sub [0, 11, 12, 1, 2, 3, 4, 5, 6, 7, 8, 9, 10] (by decide) rfl
      refine lv_aload_n hx hb dX6_doubled_84 rfl (lv_at hl 0 rfl) ?_
      refine va_get (D := (dC, dI)) (ci := 5) (v := .ref h0) (C := RX6) (T := TX6) (N := 10) hx hb hts (by decide +kernel) hown hK hP 0 rfl rfl 0 (by decide) (hts (.fieldLink RX6 12 "Shortring" "net" "LShortring$Net;") (by decide +kernel)) (fun _ h9 => h9) rfl dX6_doubled_85 ?_
      refine kCall (va_runSN (As := [.ref h0]) (rest := []) ⟨hx, hb, hml, hown, hts⟩ (k_X5_leastRing l dC dI cI cN h0 h1 (2 * K) r_4 (by first | assumption | omega | exact Int32.le_refl _ | decide)) ⟨va_cnB 1 hts gX6_doubled_X5_leastRing_n147 rfl rfl rfl (hN.1 15 _ rfl) (hts (.initialized RX5) (by decide +kernel)) (by decide +kernel) ⟨Nat.le_of_ble_eq_true rfl, Nat.le_of_ble_eq_true rfl⟩, hts (.static yX5_leastRing) (by decide +kernel), trivial⟩ (kW_S hP hK hD hN [1, 2] rfl rfl rfl) rfl rfl hl.1 rfl (lv_room (Nat.le_of_ble_eq_true rfl)) dX6_doubled_88 ⟨Nat.zero_le _, Nat.zero_le _⟩) hP hS (fun H locs hP hS => ?_)
      have he := Sum.inl.inj (hr.trans (hρ.trans hok))
      subst he
      exact W.iret (v := P_leastRing (2 * K) r_4) hx hb hr0 (fun t ht hW => kVi_end rfl hP hS ht) hS.2.2 dX6_doubled_91
    · have hr := if_to hr c_2
      cases hr.trans (hρ.trans hok)
  · have hr := if_to hr c_1
    cases hr.trans (hρ.trans hok)
theorem gfX6_doubled_1 : ∀ w ∈ (vx_atS RX6 70 (kCls 1) kNs).filter goodWord, w ∈ wsX6_doubled := fun w h => List.mem_cons_of_mem _ (List.mem_append_left _ (List.mem_append_right _ h))
theorem gfX6_doubled_3 : ∀ w ∈ (vx_atS RX6 110 (kCls 3) kNs).filter goodWord, w ∈ wsX6_doubled := fun w h => List.mem_cons_of_mem _ (List.mem_append_right _ h)
abbrev rx_X6_doubled : Room := { frames := 6, cells := 1, slots := 6, locals := 82 }
set_option maxHeartbeats 4000000 in
set_option maxRecDepth 100000 in
theorem e_X6_doubled (l : Launch) (hl9 : l.stackTraces = false) (dC : Nat → ClassId) (dI : Nat → Nat → Nat) (cI cN : ClassId) (s0 : Nat) (kp0 : Nat) (ta0 : Nat) (km : Int32) (rf : Int32) (d0 : Nat) (c0 : Nat) (h0 : Nat) (h1 : Nat) (K : Nat) (f : Nat → Int32) (sc0 : Nat) (sc1 : Nat) (KS : Nat) (fs : Nat → Int32) (a0 : Nat) (a1 : Nat) (a2 : Nat) (a3 : Nat) (a4 : Nat) (isOn : Int32) (cnt : Int32) (len : Int32) (stp : Int32) (sta : Int32) (pm : Int32) (bm : Int32) (bw : Nat → Int32) (bars : Nat → Int32) (puts : Nat → Int32) (bap : Nat → Int32) (q0 : Nat) (q1 : Nat) (q2 : Nat) (g : Nat → Int32) (t : Nat → Int32) (marks : Int32) (hK : K ≤ 16) (kx : Nat) (hex : P_doubled K f fs t marks = .inr kx) : vx_Met l yX6_doubled wsX6_doubled rx_X6_doubled (va_Pc [.ref s0, .int marks] (kWE dC dI cI cN [(s0, .inr (5, [.ref h0, .ref sc0, .ref kp0, .ref a0, .ref q0, .ref d0, .ref c0, .ref ta0, .int km, .int rf])), (h0, .inr (3, [.ref h1, .int (nI K)])), (h1, .inl (cI, 16, .inl f)), (sc0, .inr (3, [.ref sc1, .int (nI KS)])), (sc1, .inl (cI, 16, .inl fs)), (a0, .inr (0, [.ref a1, .ref a2, .ref a3, .ref a4, .int isOn, .int cnt, .int len, .int stp, .int sta, .int pm, .int bm])), (a1, .inl (cI, 16, .inl bw)), (a2, .inl (cI, 120, .inl bars)), (a3, .inl (cI, 40, .inl puts)), (a4, .inl (cI, 40, .inl bap)), (q0, .inr (1, [.ref q1, .ref q2])), (q1, .inl (cI, 102, .inl g)), (q2, .inl (cI, 54, .inl t))])) kNoi (kX kx) 1 6 (fun _ => False) := by
  refine vx_ofW (cc := cX6_doubled) (maxL := 2) (ret := (some .int)) (by decide) rfl ?_
  intro p e s m args below meth c s₁ B hml hxt hv
  obtain ⟨rfl, ⟨hP, hK, hD, hN⟩, hE⟩ := hv
  have hx := B.exec
  have hb := B.bytes
  have hr0 := B.returns
  have hts := atoms_spec (ws := wsX6_doubled) B.pre
  have hown : s.vm.findClass RX6 = some m.cls := findClass_of_methodNamed B.named
  have hlocks := B.notSynchronized
  have hS : va_S (fun _ => False) s.heap s.heap [] := va_S.rf
  have hl := lv_entry ([.ref s0, .int marks]) (n := 2) (Nat.le_of_ble_eq_true rfl)
  rw [lg_entry_eq]
  generalize (lg_sl ([.ref s0, .int marks]) ++ List.replicate (2 - (lg_sl ([.ref s0, .int marks])).length) Slot.unset).toArray = ls at hl ⊢
  have hl : lv_has ls 2 [(0, .ref s0), (1, .int marks)] := hl
  obtain ⟨ρ, hρ⟩ : ∃ ρ : (Int32 × (Nat → Int32) × (Nat → Int32) × (Nat → Int32)) ⊕ Nat, ρ = P_doubled K f fs t marks := ⟨_, rfl⟩
  have hr : P_doubled K f fs t marks = ρ := hρ.symm
  rewrite [P_doubled] at hr
  refine lv_iload_n hx hb dX6_doubled_0 rfl (lv_at hl 1 rfl) ?_
  refine lv_aload_n hx hb dX6_doubled_1 rfl (lv_at hl 0 rfl) ?_
  refine va_get (D := (dC, dI)) (ci := 5) (v := .ref h0) (C := RX6) (T := TX6) (N := 10) hx hb hts (by decide +kernel) hown hK hP 0 rfl rfl 0 (by decide) (hts (.fieldLink RX6 12 "Shortring" "net" "LShortring$Net;") (by decide +kernel)) (fun _ h9 => h9) rfl dX6_doubled_2 ?_
  refine kCall (va_runVN (As := []) (rest := [.int marks]) ⟨hx, hb, hml, hown, hts⟩ (k_X3_edgesInAll l dC dI cI cN h0 h1 K f (by first | assumption | omega | exact Int32.le_refl _ | decide)) ⟨va_cnB 0 hts gX6_doubled_X3_edgesInAll_n130 rfl rfl rfl (hN.1 13 _ rfl) (hts (.initialized RX3) (by decide +kernel)) (by decide +kernel) ⟨Nat.le_of_ble_eq_true rfl, Nat.le_of_ble_eq_true rfl⟩, hts (.instanceMethod yX3_edgesInAll) (by decide +kernel), hts (.selects RX3 yX3_edgesInAll yX3_edgesInAll) (by decide +kernel)⟩ (kW_V hP hK hD hN (ci := 3) (q0 := 1) rfl rfl [1, 2] rfl rfl rfl) rfl rfl hl.1 rfl (lv_room (Nat.le_of_ble_eq_true rfl)) dX6_doubled_5 ⟨Nat.zero_le _, Nat.zero_le _⟩) hP hS (fun H locs hP hS => ?_)
  refine kCall (va_runS (As := [.int marks, .int (P_edgesInAll K f)]) (rest := []) ⟨hx, hb, hml, hown, hts⟩ (k_X6_isSetBelow l dC dI cI cN marks (P_edgesInAll K f)) (va_cwS 2 hts gX6_doubled_X6_isSetBelow rfl rfl rfl (by decide +kernel) ⟨Nat.le_of_ble_eq_true rfl, Nat.le_of_ble_eq_true rfl⟩) (kW_S hP hK hD hN [] rfl rfl rfl) rfl rfl hl.1 rfl (lv_room (Nat.le_of_ble_eq_true rfl)) dX6_doubled_8 ⟨Nat.zero_le _, Nat.zero_le _⟩) hP hS (fun H locs hP hS => ?_)
  refine lv_if_ne (tgt := 24) hx hb dX6_doubled_11 (by decide) (fun c_1 => ?_) (fun c_1 => ?_)
  · have hr := if_no hr c_1
    refine lv_aload_n hx hb dX6_doubled_24 rfl (lv_at hl 0 rfl) ?_
    refine va_get (D := (dC, dI)) (ci := 5) (v := .ref h0) (C := RX6) (T := TX6) (N := 10) hx hb hts (by decide +kernel) hown hK hP 0 rfl rfl 0 (by decide) (hts (.fieldLink RX6 12 "Shortring" "net" "LShortring$Net;") (by decide +kernel)) (fun _ h9 => h9) rfl dX6_doubled_25 ?_
    refine va_getN (D := (dC, dI)) (ci := 3) (v := .int (nI K)) (C := RX3) (T := TX3) (N := 2) hx hb hts (by decide +kernel) hown hK hP 1 rfl rfl 1 (by decide) (va_Nw.use rfl (hN.2 0 _ rfl)) (fun _ h9 => h9) rfl dX6_doubled_28 ?_
    refine lv_iconst (v := 3) hx hb dX6_doubled_31 (by decide) ?_
    refine lv_bipush (v := 8) hx hb dX6_doubled_32 (by decide) ?_
    refine kCall (va_runS (As := [.int (nI K), .int 3, .int 8]) (rest := []) ⟨hx, hb, hml, hown, hts⟩ (k_X6_isWithin l dC dI cI cN (nI K) 3 8) (va_cwS 3 hts gX6_doubled_X6_isWithin rfl rfl rfl (by decide +kernel) ⟨Nat.le_of_ble_eq_true rfl, Nat.le_of_ble_eq_true rfl⟩) (kW_S hP hK hD hN [] rfl rfl rfl) rfl rfl hl.1 rfl (lv_room (Nat.le_of_ble_eq_true rfl)) dX6_doubled_34 ⟨Nat.zero_le _, Nat.zero_le _⟩) hP hS (fun H locs hP hS => ?_)
    refine lv_if_ne (tgt := 50) hx hb dX6_doubled_37 (by decide) (fun c_2 => ?_) (fun c_2 => ?_)
    · have hr := if_no hr c_2
      have hMr := kWithin (lo := 3) (hi := 8) (M := K) (by omega) (by omega) (by omega) (by assumption)
      refine lv_aload_n hx hb dX6_doubled_50 rfl (lv_at hl 0 rfl) ?_
      refine lv_iload_n hx hb dX6_doubled_51 rfl (lv_at hl 1 rfl) ?_
      exact kNoway (hr.trans (hρ.trans hex)) (by simp only [bd]; (repeat' split) <;> exact ⟨_, rfl⟩)
    · have hr := if_to hr c_2
      exact kThrowS hx hb hl9 hown 3 (ik := 106) (is := 139) (ic := 110) (Sum.inr.inj (hr.trans (hρ.trans hex))) (by decide +kernel) (hts (.classLink RX6 106 "java/lang/IllegalStateException") (by decide +kernel)) (hts (.initialized "java/lang/IllegalStateException") (by decide +kernel)) 6 rfl (fun w h => hts w (gfX6_doubled_3 w h)) kBad3 (kHg kOt3) hE hS (hl.1.trans hml.symm) dX6_doubled_40 dX6_doubled_43 dX6_doubled_44 dX6_doubled_46 dX6_doubled_49 hxt (Nat.le_of_ble_eq_true rfl) (Nat.le_of_ble_eq_true rfl) (Nat.le_of_ble_eq_true rfl) (Nat.le_of_ble_eq_true rfl) hlocks
  · have hr := if_to hr c_1
    exact kThrowS hx hb hl9 hown 1 (ik := 66) (is := 137) (ic := 70) (Sum.inr.inj (hr.trans (hρ.trans hex))) (by decide +kernel) (hts (.classLink RX6 66 "java/lang/IllegalArgumentException") (by decide +kernel)) (hts (.initialized "java/lang/IllegalArgumentException") (by decide +kernel)) 5 rfl (fun w h => hts w (gfX6_doubled_1 w h)) kBad1 (kHg kOt1) hE hS (hl.1.trans hml.symm) dX6_doubled_14 dX6_doubled_17 dX6_doubled_18 dX6_doubled_20 dX6_doubled_23 hxt (Nat.le_of_ble_eq_true rfl) (Nat.le_of_ble_eq_true rfl) (Nat.le_of_ble_eq_true rfl) (Nat.le_of_ble_eq_true rfl) hlocks
def P_isSound (K : Nat) (f : Nat → Int32) (isOn : Int32) (cnt : Int32) (len : Int32) (g : Nat → Int32) (t : Nat → Int32) : Int32 :=
  if (P_isMutual K f) = 0 then
    0
  else
    if (P_isAimSound K f isOn cnt len) = 0 then
      0
    else
      if (P_isEvenSound K f g) = 0 then
        0
      else
        if (P_isTableSound g t) = 0 then
          0
        else
          1
abbrev rm_X6_isSound : Room := { frames := 6, cells := 0, slots := 0, locals := 141 }
set_option maxHeartbeats 4000000 in
set_option maxRecDepth 100000 in
theorem k_X6_isSound (l : Launch) (dC : Nat → ClassId) (dI : Nat → Nat → Nat) (cI cN : ClassId) (s0 : Nat) (sc0 : Nat) (kp0 : Nat) (ta0 : Nat) (km : Int32) (rf : Int32) (d0 : Nat) (c0 : Nat) (h0 : Nat) (h1 : Nat) (K : Nat) (f : Nat → Int32) (a0 : Nat) (a1 : Nat) (a2 : Nat) (a3 : Nat) (a4 : Nat) (isOn : Int32) (cnt : Int32) (len : Int32) (stp : Int32) (sta : Int32) (pm : Int32) (bm : Int32) (bw : Nat → Int32) (bars : Nat → Int32) (puts : Nat → Int32) (bap : Nat → Int32) (q0 : Nat) (q1 : Nat) (q2 : Nat) (g : Nat → Int32) (t : Nat → Int32) (hK : K ≤ 16) : Met l yX6_isSound wsX6_isSound rm_X6_isSound (va_Pc [.ref s0] (kW dC dI cI cN [(s0, .inr (5, [.ref h0, .ref sc0, .ref kp0, .ref a0, .ref q0, .ref d0, .ref c0, .ref ta0, .int km, .int rf])), (h0, .inr (3, [.ref h1, .int (nI K)])), (h1, .inl (cI, 16, .inl f)), (a0, .inr (0, [.ref a1, .ref a2, .ref a3, .ref a4, .int isOn, .int cnt, .int len, .int stp, .int sta, .int pm, .int bm])), (a1, .inl (cI, 16, .inl bw)), (a2, .inl (cI, 120, .inl bars)), (a3, .inl (cI, 40, .inl puts)), (a4, .inl (cI, 40, .inl bap)), (q0, .inr (1, [.ref q1, .ref q2])), (q1, .inl (cI, 102, .inl g)), (q2, .inl (cI, 54, .inl t))])) (kR (P_isSound K f isOn cnt len g t)) 0 0 (fun _ => False) := by
  refine Met.ofW (cc := cX6_isSound) (maxL := 1) (ret := (some .boolean)) (by decide) rfl ?_
  intro p e s m args below meth c s₁ B hml hv
  obtain ⟨rfl, hP, hK, hD, hN⟩ := hv
  have hx := B.exec
  have hb := B.bytes
  have hr0 := B.returns
  have hts := atoms_spec (ws := wsX6_isSound) B.pre
  have hown : s.vm.findClass RX6 = some m.cls := findClass_of_methodNamed B.named
  have hlocks := B.notSynchronized
  have hS : va_S (fun _ => False) s.heap s.heap [] := va_S.rf
  have hl := lv_entry ([.ref s0]) (n := 1) (Nat.le_of_ble_eq_true rfl)
  rw [lg_entry_eq]
  generalize (lg_sl ([.ref s0]) ++ List.replicate (1 - (lg_sl ([.ref s0])).length) Slot.unset).toArray = ls at hl ⊢
  have hl : lv_has ls 1 [(0, .ref s0)] := hl
  obtain ⟨ρ, hρ⟩ : ∃ ρ : Int32, ρ = P_isSound K f isOn cnt len g t := ⟨_, rfl⟩
  have hr : P_isSound K f isOn cnt len g t = ρ := hρ.symm
  rewrite [P_isSound] at hr
  refine lv_aload_n hx hb dX6_isSound_0 rfl (lv_at hl 0 rfl) ?_
  refine va_get (D := (dC, dI)) (ci := 5) (v := .ref h0) (C := RX6) (T := TX6) (N := 10) hx hb hts (by decide +kernel) hown hK hP 0 rfl rfl 0 (by decide) (hts (.fieldLink RX6 12 "Shortring" "net" "LShortring$Net;") (by decide +kernel)) (fun _ h9 => h9) rfl dX6_isSound_1 ?_
  refine kCall (va_runVN (As := []) (rest := []) ⟨hx, hb, hml, hown, hts⟩ (k_X3_isMutual l dC dI cI cN h0 h1 K f (by first | assumption | omega | exact Int32.le_refl _ | decide)) ⟨va_cnB 0 hts gX6_isSound_X3_isMutual_n340 rfl rfl rfl (hN.1 39 _ rfl) (hts (.initialized RX3) (by decide +kernel)) (by decide +kernel) ⟨Nat.le_of_ble_eq_true rfl, Nat.le_of_ble_eq_true rfl⟩, hts (.instanceMethod yX3_isMutual) (by decide +kernel), hts (.selects RX3 yX3_isMutual yX3_isMutual) (by decide +kernel)⟩ (kW_V hP hK hD hN (ci := 3) (q0 := 1) rfl rfl [1, 2] rfl rfl rfl) rfl rfl hl.1 rfl (lv_room (Nat.le_of_ble_eq_true rfl)) dX6_isSound_4 ⟨Nat.zero_le _, Nat.zero_le _⟩) hP hS (fun H locs hP hS => ?_)
  refine lv_if_eq (tgt := 38) hx hb dX6_isSound_7 (by decide) (fun c_1 => ?_) (fun c_1 => ?_)
  · have hr := if_to hr c_1
    refine lv_iconst (v := 0) hx hb dX6_isSound_38 (by decide) ?_
    have he := hr.trans hρ
    exact W.zret (v := 0) hx hb hr0 rfl (fun t ht hW => kR_end he hS ht) hS.2.2 dX6_isSound_39
  · have hr := if_no hr c_1
    refine lv_aload_n hx hb dX6_isSound_10 rfl (lv_at hl 0 rfl) ?_
    refine kCall (va_runV (As := []) (rest := []) ⟨hx, hb, hml, hown, hts⟩ (k_X6_isAimSound l dC dI cI cN s0 sc0 kp0 ta0 km rf q0 d0 c0 h0 h1 K f a0 a1 a2 a3 a4 isOn cnt len stp sta pm bm bw bars puts bap (by first | assumption | omega | exact Int32.le_refl _ | decide)) (cwV 0 hts gX6_isSound_X6_isAimSound rfl rfl rfl (by decide +kernel) ⟨Nat.le_of_ble_eq_true rfl, Nat.le_of_ble_eq_true rfl⟩) (kW_V hP hK hD hN (ci := 5) (q0 := 0) rfl rfl [0, 1, 2, 3, 4, 5, 6, 7] rfl rfl rfl) rfl rfl hl.1 rfl (lv_room (Nat.le_of_ble_eq_true rfl)) dX6_isSound_11 ⟨Nat.zero_le _, Nat.zero_le _⟩) hP hS (fun H locs hP hS => ?_)
    refine lv_if_eq (tgt := 38) hx hb dX6_isSound_14 (by decide) (fun c_2 => ?_) (fun c_2 => ?_)
    · have hr := if_to hr c_2
      refine lv_iconst (v := 0) hx hb dX6_isSound_38 (by decide) ?_
      have he := hr.trans hρ
      exact W.zret (v := 0) hx hb hr0 rfl (fun t ht hW => kR_end he hS ht) hS.2.2 dX6_isSound_39
    · have hr := if_no hr c_2
      refine lv_aload_n hx hb dX6_isSound_17 rfl (lv_at hl 0 rfl) ?_
      refine kCall (va_runV (As := []) (rest := []) ⟨hx, hb, hml, hown, hts⟩ (k_X6_isEvenSound l dC dI cI cN s0 sc0 kp0 ta0 km rf a0 d0 c0 h0 h1 K f q0 q1 q2 g t (by first | assumption | omega | exact Int32.le_refl _ | decide)) (cwV 0 hts gX6_isSound_X6_isEvenSound rfl rfl rfl (by decide +kernel) ⟨Nat.le_of_ble_eq_true rfl, Nat.le_of_ble_eq_true rfl⟩) (kW_V hP hK hD hN (ci := 5) (q0 := 0) rfl rfl [0, 1, 2, 8, 9, 10] rfl rfl rfl) rfl rfl hl.1 rfl (lv_room (Nat.le_of_ble_eq_true rfl)) dX6_isSound_18 ⟨Nat.zero_le _, Nat.zero_le _⟩) hP hS (fun H locs hP hS => ?_)
      refine lv_if_eq (tgt := 38) hx hb dX6_isSound_21 (by decide) (fun c_3 => ?_) (fun c_3 => ?_)
      · have hr := if_to hr c_3
        refine lv_iconst (v := 0) hx hb dX6_isSound_38 (by decide) ?_
        have he := hr.trans hρ
        exact W.zret (v := 0) hx hb hr0 rfl (fun t ht hW => kR_end he hS ht) hS.2.2 dX6_isSound_39
      · have hr := if_no hr c_3
        refine lv_aload_n hx hb dX6_isSound_24 rfl (lv_at hl 0 rfl) ?_
        refine va_get (D := (dC, dI)) (ci := 5) (v := .ref q0) (C := RX6) (T := TX6) (N := 10) hx hb hts (by decide +kernel) hown hK hP 0 rfl rfl 4 (by decide) (hts (.fieldLink RX6 33 "Shortring" "ledger" "LShortring$Ledger;") (by decide +kernel)) (fun _ h9 => h9) rfl dX6_isSound_25 ?_
        refine kCall (va_runVN (As := []) (rest := []) ⟨hx, hb, hml, hown, hts⟩ (k_X1_isTableSound l dC dI cI cN q0 q1 q2 g t) ⟨va_cnB 0 hts gX6_isSound_X1_isTableSound_n350 rfl rfl rfl (hN.1 40 _ rfl) (hts (.initialized RX1) (by decide +kernel)) (by decide +kernel) ⟨Nat.le_of_ble_eq_true rfl, Nat.le_of_ble_eq_true rfl⟩, hts (.instanceMethod yX1_isTableSound) (by decide +kernel), hts (.selects RX1 yX1_isTableSound yX1_isTableSound) (by decide +kernel)⟩ (kW_V hP hK hD hN (ci := 1) (q0 := 8) rfl rfl [8, 9, 10] rfl rfl rfl) rfl rfl hl.1 rfl (lv_room (Nat.le_of_ble_eq_true rfl)) dX6_isSound_28 ⟨Nat.zero_le _, Nat.zero_le _⟩) hP hS (fun H locs hP hS => ?_)
        refine lv_if_eq (tgt := 38) hx hb dX6_isSound_31 (by decide) (fun c_4 => ?_) (fun c_4 => ?_)
        · have hr := if_to hr c_4
          refine lv_iconst (v := 0) hx hb dX6_isSound_38 (by decide) ?_
          have he := hr.trans hρ
          exact W.zret (v := 0) hx hb hr0 rfl (fun t ht hW => kR_end he hS ht) hS.2.2 dX6_isSound_39
        · have hr := if_no hr c_4
          refine lv_iconst (v := 1) hx hb dX6_isSound_34 (by decide) ?_
          refine lv_goto (tgt := 39) hx hb dX6_isSound_35 (by decide) ?_
          have he := hr.trans hρ
          exact W.zret (v := 1) hx hb hr0 rfl (fun t ht hW => kR_end he hS ht) hS.2.2 dX6_isSound_39
