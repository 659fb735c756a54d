/-! the object: asked (printed by wip/gen) -/
def P_now (K : Nat) (f : Nat → Int32) (km : Int32) (rf : Int32) (KF : Nat) (ff : Nat → Int32) (KT : Nat) (tf : Nat → Int32) (im : Nat → Int32) (pl : Int32) (hu : Nat → Int32) (what : Int32) : (Int32 × Nat × (Nat → Int32) × Nat × (Nat → Int32) × (Nat → Int32) × Int32 × (Nat → Int32)) ⊕ Nat :=
  if (P_isWithin what 0 10) = 0 then
    Sum.inr 1
  else
    if what = (0 : Int32) then
      Sum.inl (nI K, KF, ff, KT, tf, im, pl, hu)
    else
      if what = (1 : Int32) then
        Sum.inl (P_edgesInAll K f, KF, ff, KT, tf, im, pl, hu)
      else
        if what = (2 : Int32) then
          Sum.inl (P_partsInAll K f, KF, ff, KT, tf, im, pl, hu)
        else
          if what = (3 : Int32) then
            Sum.inl (P_leastRing K f, KF, ff, KT, tf, im, pl, hu)
          else
            if what = (4 : Int32) then
              Sum.inl (P_evenCount K f, KF, ff, KT, tf, im, pl, hu)
            else
              if what = (5 : Int32) then
                Sum.inl (P_width K f, KF, ff, KT, tf, im, pl, hu)
              else
                if what = (6 : Int32) then
                  bd (P_fewest K f hu) (fun r_9 =>
                    Sum.inl (r_9.1, KF, ff, KT, tf, im, pl, r_9.2))
                else
                  if what = (7 : Int32) then
                    bd (P_turnsOf KF ff KT tf im pl K f) (fun r_11 =>
                      Sum.inl (r_11.1, r_11.2.1, r_11.2.2.1, r_11.2.2.2.1, r_11.2.2.2.2.1, r_11.2.2.2.2.2.1, r_11.2.2.2.2.2.2, hu))
                  else
                    if what = (8 : Int32) then
                      Sum.inl (km, KF, ff, KT, tf, im, pl, hu)
                    else
                      if what = (9 : Int32) then
                        Sum.inl (P_loneliest K f, KF, ff, KT, tf, im, pl, hu)
                      else
                        Sum.inl (rf, KF, ff, KT, tf, im, pl, hu)
abbrev rm_X6_now : Room := { frames := 22, cells := 0, slots := 0, locals := 599 }
set_option maxHeartbeats 4000000 in
set_option maxRecDepth 100000 in
theorem k_X6_now (l : Launch) (dC : Nat → ClassId) (dI : Nat → Nat → Nat) (cI cN : ClassId) (s0 : Nat) (sc0 : Nat) (kp0 : Nat) (ta0 : Nat) (km : Int32) (rf : Int32) (a0 : Nat) (q0 : Nat) (h0 : Nat) (h1 : Nat) (K : Nat) (f : Nat → Int32) (d0 : Nat) (f0 : Nat) (f1 : Nat) (t0 : Nat) (t1 : Nat) (d1 : Nat) (KF : Nat) (ff : Nat → Int32) (KT : Nat) (tf : Nat → Int32) (im : Nat → Int32) (pl : Int32) (c0 : Nat) (c1 : Nat) (hu : Nat → Int32) (what : Int32) (hK : K ≤ 16) (sz : Nat) (v : Int32 × Nat × (Nat → Int32) × Nat × (Nat → Int32) × (Nat → Int32) × Int32 × (Nat → Int32)) (hok : P_now K f km rf KF ff KT tf im pl hu what = .inl v) : Met l yX6_now wsX6_now rm_X6_now (va_Pc [.ref s0, .int what] (kU dC dI cI cN [(s0, .inr (5, [.ref h0, .ref sc0, .ref kp0, .ref a0, .ref q0, .ref d0, .ref c0, .ref ta0, .int km, .int rf])), (h0, .inr (3, [.ref h1, .int (nI K)])), (h1, .inl (cI, 16, .inl f)), (d0, .inr (2, [.ref f0, .ref t0, .ref d1, .int pl])), (f0, .inr (3, [.ref f1, .int (nI KF)])), (f1, .inl (cI, 16, .inl ff)), (t0, .inr (3, [.ref t1, .int (nI KT)])), (t1, .inl (cI, 16, .inl tf)), (d1, .inl (cI, 16, .inl im)), (c0, .inr (4, [.ref c1])), (c1, .inl (cI, 6, .inl hu))] sz)) (kVi dC dI v.1 [(s0, .inr (5, [.ref h0, .ref sc0, .ref kp0, .ref a0, .ref q0, .ref d0, .ref c0, .ref ta0, .int km, .int rf])), (h0, .inr (3, [.ref h1, .int (nI K)])), (h1, .inl (cI, 16, .inl f)), (d0, .inr (2, [.ref f0, .ref t0, .ref d1, .int (v.2.2.2.2.2.2.1)])), (f0, .inr (3, [.ref f1, .int (nI (v.2.1))])), (f1, .inl (cI, 16, .inl (v.2.2.1))), (t0, .inr (3, [.ref t1, .int (nI (v.2.2.2.1))])), (t1, .inl (cI, 16, .inl (v.2.2.2.2.1))), (d1, .inl (cI, 16, .inl (v.2.2.2.2.2.1))), (c0, .inr (4, [.ref c1])), (c1, .inl (cI, 6, .inl (v.2.2.2.2.2.2.2)))] (va_A [(s0, .inr (5, [.ref h0, .ref sc0, .ref kp0, .ref a0, .ref q0, .ref d0, .ref c0, .ref ta0, .int km, .int rf])), (h0, .inr (3, [.ref h1, .int (nI K)])), (h1, .inl (cI, 16, .inl f)), (d0, .inr (2, [.ref f0, .ref t0, .ref d1, .int pl])), (f0, .inr (3, [.ref f1, .int (nI KF)])), (f1, .inl (cI, 16, .inl ff)), (t0, .inr (3, [.ref t1, .int (nI KT)])), (t1, .inl (cI, 16, .inl tf)), (d1, .inl (cI, 16, .inl im)), (c0, .inr (4, [.ref c1])), (c1, .inl (cI, 6, .inl hu))] sz)) 0 0 (va_A [(s0, .inr (5, [.ref h0, .ref sc0, .ref kp0, .ref a0, .ref q0, .ref d0, .ref c0, .ref ta0, .int km, .int rf])), (h0, .inr (3, [.ref h1, .int (nI K)])), (h1, .inl (cI, 16, .inl f)), (d0, .inr (2, [.ref f0, .ref t0, .ref d1, .int pl])), (f0, .inr (3, [.ref f1, .int (nI KF)])), (f1, .inl (cI, 16, .inl ff)), (t0, .inr (3, [.ref t1, .int (nI KT)])), (t1, .inl (cI, 16, .inl tf)), (d1, .inl (cI, 16, .inl im)), (c0, .inr (4, [.ref c1])), (c1, .inl (cI, 6, .inl hu))] sz) := by
  refine Met.ofW (cc := cX6_now) (maxL := 2) (ret := (some .int)) (by decide) rfl ?_
  intro p e s m args below meth c s₁ B hml hv
  obtain ⟨rfl, hsz, hP, hK, hD0, hN⟩ := hv
  have hx := B.exec
  have hb := B.bytes
  have hr0 := B.returns
  have hts := atoms_spec (ws := wsX6_now) B.pre
  have hown : s.vm.findClass RX6 = some m.cls := findClass_of_methodNamed B.named
  have hlocks := B.notSynchronized
  subst hsz
  have hD := hD0.self (sz := s.heap.size)
  generalize hAe : va_A [(s0, .inr (5, [.ref h0, .ref sc0, .ref kp0, .ref a0, .ref q0, .ref d0, .ref c0, .ref ta0, .int km, .int rf])), (h0, .inr (3, [.ref h1, .int (nI K)])), (h1, .inl (cI, 16, .inl f)), (d0, .inr (2, [.ref f0, .ref t0, .ref d1, .int pl])), (f0, .inr (3, [.ref f1, .int (nI KF)])), (f1, .inl (cI, 16, .inl ff)), (t0, .inr (3, [.ref t1, .int (nI KT)])), (t1, .inl (cI, 16, .inl tf)), (d1, .inl (cI, 16, .inl im)), (c0, .inr (4, [.ref c1])), (c1, .inl (cI, 6, .inl hu))] s.heap.size = A at hD ⊢
  have hA : ∀ q : Nat, s.heap.size ≤ q → A q := fun q h => by rw [← hAe]; exact Or.inr h
  have hS : va_S A s.heap s.heap [] := va_S.rf
  have hl := lv_entry ([.ref s0, .int what]) (n := 2) (Nat.le_of_ble_eq_true rfl)
  rw [lg_entry_eq]
  generalize (lg_sl ([.ref s0, .int what]) ++ List.replicate (2 - (lg_sl ([.ref s0, .int what])).length) Slot.unset).toArray = ls at hl ⊢
  have hl : lv_has ls 2 [(0, .ref s0), (1, .int what)] := hl
  obtain ⟨ρ, hρ⟩ : ∃ ρ : (Int32 × Nat × (Nat → Int32) × Nat × (Nat → Int32) × (Nat → Int32) × Int32 × (Nat → Int32)) ⊕ Nat, ρ = P_now K f km rf KF ff KT tf im pl hu what := ⟨_, rfl⟩
  have hr : P_now K f km rf KF ff KT tf im pl hu what = ρ := hρ.symm
  rewrite [P_now] at hr
  refine lv_iload_n hx hb dX6_now_0 rfl (lv_at hl 1 rfl) ?_
  refine lv_iconst (v := 0) hx hb dX6_now_1 (by decide) ?_
  refine lv_bipush (v := 10) hx hb dX6_now_2 (by decide) ?_
  refine kCall (va_runS (As := [.int what, .int 0, .int 10]) (rest := []) ⟨hx, hb, hml, hown, hts⟩ (k_X6_isWithin l dC dI cI cN what 0 10) (va_cwS 3 hts gX6_now_X6_isWithin rfl rfl rfl (by decide +kernel) ⟨Nat.le_of_ble_eq_true rfl, Nat.le_of_ble_eq_true rfl⟩) (kW_S hP hK hD hN [] rfl rfl rfl) rfl rfl hl.1 rfl (lv_room (Nat.le_of_ble_eq_true rfl)) dX6_now_4 ⟨Nat.zero_le _, Nat.zero_le _⟩) hP hS (fun H locs hP hS => ?_)
  refine lv_if_ne (tgt := 20) hx hb dX6_now_7 (by decide) (fun c_1 => ?_) (fun c_1 => ?_)
  · have hr := if_no hr c_1
    refine lv_iload_n hx hb dX6_now_20 rfl (lv_at hl 1 rfl) ?_
    by_cases c_2 : what = (0 : Int32)
    · have hr := if_to hr c_2
      refine lv_tableIn (off := 55) (tgt := 76) hx hb dX6_now_21 (by rw [c_2]; decide) (by rw [c_2]; decide) (by rw [c_2]; decide) (by decide) ?_
      refine lv_aload_n hx hb dX6_now_76 rfl (lv_at hl 0 rfl) ?_
      refine va_get (D := (dC, dI)) (ci := 5) (v := .ref h0) (C := RX6) (T := TX6) (N := 10) hx hb hts (by decide +kernel) hown hK hP 0 rfl rfl 0 (by decide) (hts (.fieldLink RX6 12 "Shortring" "net" "LShortring$Net;") (by decide +kernel)) (fun _ h9 => h9) rfl dX6_now_77 ?_
      refine va_getN (D := (dC, dI)) (ci := 3) (v := .int (nI K)) (C := RX3) (T := TX3) (N := 2) hx hb hts (by decide +kernel) hown hK hP 1 rfl rfl 1 (by decide) (va_Nw.use rfl (hN.2 0 _ rfl)) (fun _ h9 => h9) rfl dX6_now_80 ?_
      have he := Sum.inl.inj (hr.trans (hρ.trans hok))
      subst he
      exact W.iret (v := nI K) hx hb hr0 (fun t ht hW => kVi_end rfl hP hS ht) hS.2.2 dX6_now_83
    · have hr := if_no hr c_2
      by_cases c_3 : what = (1 : Int32)
      · have hr := if_to hr c_3
        refine lv_tableIn (off := 63) (tgt := 84) hx hb dX6_now_21 (by rw [c_3]; decide) (by rw [c_3]; decide) (by rw [c_3]; decide) (by decide) ?_
        refine lv_aload_n hx hb dX6_now_84 rfl (lv_at hl 0 rfl) ?_
        refine va_get (D := (dC, dI)) (ci := 5) (v := .ref h0) (C := RX6) (T := TX6) (N := 10) hx hb hts (by decide +kernel) hown hK hP 0 rfl rfl 0 (by decide) (hts (.fieldLink RX6 12 "Shortring" "net" "LShortring$Net;") (by decide +kernel)) (fun _ h9 => h9) rfl dX6_now_85 ?_
        refine kCall (va_runVN (As := []) (rest := []) ⟨hx, hb, hml, hown, hts⟩ (k_X3_edgesInAll l dC dI cI cN h0 h1 K f (by first | assumption | omega | exact Int32.le_refl _ | decide)) ⟨va_cnB 0 hts gX6_now_X3_edgesInAll_n130 rfl rfl rfl (hN.1 13 _ rfl) (hts (.initialized RX3) (by decide +kernel)) (by decide +kernel) ⟨Nat.le_of_ble_eq_true rfl, Nat.le_of_ble_eq_true rfl⟩, hts (.instanceMethod yX3_edgesInAll) (by decide +kernel), hts (.selects RX3 yX3_edgesInAll yX3_edgesInAll) (by decide +kernel)⟩ (kW_V hP hK hD hN (ci := 3) (q0 := 1) rfl rfl [1, 2] rfl rfl rfl) rfl rfl hl.1 rfl (lv_room (Nat.le_of_ble_eq_true rfl)) dX6_now_88 ⟨Nat.zero_le _, Nat.zero_le _⟩) hP hS (fun H locs hP hS => ?_)
        have he := Sum.inl.inj (hr.trans (hρ.trans hok))
        subst he
        exact W.iret (v := P_edgesInAll K f) hx hb hr0 (fun t ht hW => kVi_end rfl hP hS ht) hS.2.2 dX6_now_91
      · have hr := if_no hr c_3
        by_cases c_4 : what = (2 : Int32)
        · have hr := if_to hr c_4
          refine lv_tableIn (off := 71) (tgt := 92) hx hb dX6_now_21 (by rw [c_4]; decide) (by rw [c_4]; decide) (by rw [c_4]; decide) (by decide) ?_
          refine lv_aload_n hx hb dX6_now_92 rfl (lv_at hl 0 rfl) ?_
          refine va_get (D := (dC, dI)) (ci := 5) (v := .ref h0) (C := RX6) (T := TX6) (N := 10) hx hb hts (by decide +kernel) hown hK hP 0 rfl rfl 0 (by decide) (hts (.fieldLink RX6 12 "Shortring" "net" "LShortring$Net;") (by decide +kernel)) (fun _ h9 => h9) rfl dX6_now_93 ?_
          refine kCall (va_runSN (As := [.ref h0]) (rest := []) ⟨hx, hb, hml, hown, hts⟩ (k_X5_partsInAll l dC dI cI cN h0 h1 K f (by first | assumption | omega | exact Int32.le_refl _ | decide)) ⟨va_cnB 1 hts gX6_now_X5_partsInAll_n235 rfl rfl rfl (hN.1 23 _ rfl) (hts (.initialized RX5) (by decide +kernel)) (by decide +kernel) ⟨Nat.le_of_ble_eq_true rfl, Nat.le_of_ble_eq_true rfl⟩, hts (.static yX5_partsInAll) (by decide +kernel), trivial⟩ (kW_S hP hK hD hN [1, 2] rfl rfl rfl) rfl rfl hl.1 rfl (lv_room (Nat.le_of_ble_eq_true rfl)) dX6_now_96 ⟨Nat.zero_le _, Nat.zero_le _⟩) hP hS (fun H locs hP hS => ?_)
          have he := Sum.inl.inj (hr.trans (hρ.trans hok))
          subst he
          exact W.iret (v := P_partsInAll K f) hx hb hr0 (fun t ht hW => kVi_end rfl hP hS ht) hS.2.2 dX6_now_99
        · have hr := if_no hr c_4
          by_cases c_5 : what = (3 : Int32)
          · have hr := if_to hr c_5
            refine lv_tableIn (off := 79) (tgt := 100) hx hb dX6_now_21 (by rw [c_5]; decide) (by rw [c_5]; decide) (by rw [c_5]; decide) (by decide) ?_
            refine lv_aload_n hx hb dX6_now_100 rfl (lv_at hl 0 rfl) ?_
            refine va_get (D := (dC, dI)) (ci := 5) (v := .ref h0) (C := RX6) (T := TX6) (N := 10) hx hb hts (by decide +kernel) hown hK hP 0 rfl rfl 0 (by decide) (hts (.fieldLink RX6 12 "Shortring" "net" "LShortring$Net;") (by decide +kernel)) (fun _ h9 => h9) rfl dX6_now_101 ?_
            refine kCall (va_runSN (As := [.ref h0]) (rest := []) ⟨hx, hb, hml, hown, hts⟩ (k_X5_leastRing l dC dI cI cN h0 h1 K f (by first | assumption | omega | exact Int32.le_refl _ | decide)) ⟨va_cnB 1 hts gX6_now_X5_leastRing_n147 rfl rfl rfl (hN.1 15 _ rfl) (hts (.initialized RX5) (by decide +kernel)) (by decide +kernel) ⟨Nat.le_of_ble_eq_true rfl, Nat.le_of_ble_eq_true rfl⟩, hts (.static yX5_leastRing) (by decide +kernel), trivial⟩ (kW_S hP hK hD hN [1, 2] rfl rfl rfl) rfl rfl hl.1 rfl (lv_room (Nat.le_of_ble_eq_true rfl)) dX6_now_104 ⟨Nat.zero_le _, Nat.zero_le _⟩) hP hS (fun H locs hP hS => ?_)
            have he := Sum.inl.inj (hr.trans (hρ.trans hok))
            subst he
            exact W.iret (v := P_leastRing K f) hx hb hr0 (fun t ht hW => kVi_end rfl hP hS ht) hS.2.2 dX6_now_107
          · have hr := if_no hr c_5
            by_cases c_6 : what = (4 : Int32)
            · have hr := if_to hr c_6
              refine lv_tableIn (off := 87) (tgt := 108) hx hb dX6_now_21 (by rw [c_6]; decide) (by rw [c_6]; decide) (by rw [c_6]; decide) (by decide) ?_
              refine lv_aload_n hx hb dX6_now_108 rfl (lv_at hl 0 rfl) ?_
              refine va_get (D := (dC, dI)) (ci := 5) (v := .ref h0) (C := RX6) (T := TX6) (N := 10) hx hb hts (by decide +kernel) hown hK hP 0 rfl rfl 0 (by decide) (hts (.fieldLink RX6 12 "Shortring" "net" "LShortring$Net;") (by decide +kernel)) (fun _ h9 => h9) rfl dX6_now_109 ?_
              refine kCall (va_runVN (As := []) (rest := []) ⟨hx, hb, hml, hown, hts⟩ (k_X3_evenCount l dC dI cI cN h0 h1 K f (by first | assumption | omega | exact Int32.le_refl _ | decide)) ⟨va_cnB 0 hts gX6_now_X3_evenCount_n238 rfl rfl rfl (hN.1 24 _ rfl) (hts (.initialized RX3) (by decide +kernel)) (by decide +kernel) ⟨Nat.le_of_ble_eq_true rfl, Nat.le_of_ble_eq_true rfl⟩, hts (.instanceMethod yX3_evenCount) (by decide +kernel), hts (.selects RX3 yX3_evenCount yX3_evenCount) (by decide +kernel)⟩ (kW_V hP hK hD hN (ci := 3) (q0 := 1) rfl rfl [1, 2] rfl rfl rfl) rfl rfl hl.1 rfl (lv_room (Nat.le_of_ble_eq_true rfl)) dX6_now_112 ⟨Nat.zero_le _, Nat.zero_le _⟩) hP hS (fun H locs hP hS => ?_)
              have he := Sum.inl.inj (hr.trans (hρ.trans hok))
              subst he
              exact W.iret (v := P_evenCount K f) hx hb hr0 (fun t ht hW => kVi_end rfl hP hS ht) hS.2.2 dX6_now_115
            · have hr := if_no hr c_6
              by_cases c_7 : what = (5 : Int32)
              · have hr := if_to hr c_7
                refine lv_tableIn (off := 95) (tgt := 116) hx hb dX6_now_21 (by rw [c_7]; decide) (by rw [c_7]; decide) (by rw [c_7]; decide) (by decide) ?_
                refine lv_aload_n hx hb dX6_now_116 rfl (lv_at hl 0 rfl) ?_
                refine va_get (D := (dC, dI)) (ci := 5) (v := .ref h0) (C := RX6) (T := TX6) (N := 10) hx hb hts (by decide +kernel) hown hK hP 0 rfl rfl 0 (by decide) (hts (.fieldLink RX6 12 "Shortring" "net" "LShortring$Net;") (by decide +kernel)) (fun _ h9 => h9) rfl dX6_now_117 ?_
                refine kCall (va_runSN (As := [.ref h0]) (rest := []) ⟨hx, hb, hml, hown, hts⟩ (k_X5_width l dC dI cI cN h0 h1 K f (by first | assumption | omega | exact Int32.le_refl _ | decide)) ⟨va_cnB 1 hts gX6_now_X5_width_n241 rfl rfl rfl (hN.1 25 _ rfl) (hts (.initialized RX5) (by decide +kernel)) (by decide +kernel) ⟨Nat.le_of_ble_eq_true rfl, Nat.le_of_ble_eq_true rfl⟩, hts (.static yX5_width) (by decide +kernel), trivial⟩ (kW_S hP hK hD hN [1, 2] rfl rfl rfl) rfl rfl hl.1 rfl (lv_room (Nat.le_of_ble_eq_true rfl)) dX6_now_120 ⟨Nat.zero_le _, Nat.zero_le _⟩) hP hS (fun H locs hP hS => ?_)
                have he := Sum.inl.inj (hr.trans (hρ.trans hok))
                subst he
                exact W.iret (v := P_width K f) hx hb hr0 (fun t ht hW => kVi_end rfl hP hS ht) hS.2.2 dX6_now_123
              · have hr := if_no hr c_7
                by_cases c_8 : what = (6 : Int32)
                · have hr := if_to hr c_8
                  refine lv_tableIn (off := 103) (tgt := 124) hx hb dX6_now_21 (by rw [c_8]; decide) (by rw [c_8]; decide) (by rw [c_8]; decide) (by decide) ?_
                  refine lv_aload_n hx hb dX6_now_124 rfl (lv_at hl 0 rfl) ?_
                  refine va_get (D := (dC, dI)) (ci := 5) (v := .ref c0) (C := RX6) (T := TX6) (N := 10) hx hb hts (by decide +kernel) hown hK hP 0 rfl rfl 6 (by decide) (hts (.fieldLink RX6 47 "Shortring" "paint" "LShortring$Paint;") (by decide +kernel)) (fun _ h9 => h9) rfl dX6_now_125 ?_
                  refine lv_aload_n hx hb dX6_now_128 rfl (lv_at hl 0 rfl) ?_
                  refine va_get (D := (dC, dI)) (ci := 5) (v := .ref h0) (C := RX6) (T := TX6) (N := 10) hx hb hts (by decide +kernel) hown hK hP 0 rfl rfl 0 (by decide) (hts (.fieldLink RX6 12 "Shortring" "net" "LShortring$Net;") (by decide +kernel)) (fun _ h9 => h9) rfl dX6_now_129 ?_
                  refine kCallVi (wr := [(s0, .inr (5, [.ref h0, .ref sc0, .ref kp0, .ref a0, .ref q0, .ref d0, .ref c0, .ref ta0, .int km, .int rf])), (d0, .inr (2, [.ref f0, .ref t0, .ref d1, .int pl])), (f0, .inr (3, [.ref f1, .int (nI KF)])), (f1, .inl (cI, 16, .inl ff)), (t0, .inr (3, [.ref t1, .int (nI KT)])), (t1, .inl (cI, 16, .inl tf)), (d1, .inl (cI, 16, .inl im))]) (va_runVN (As := [.ref h0]) (rest := []) ⟨hx, hb, hml, hown, hts⟩ (k_X4_fewest l dC dI cI cN c0 c1 hu h0 h1 K f (by first | assumption | omega | exact Int32.le_refl _ | decide) _) ⟨va_cnB 1 hts gX6_now_X4_fewest_n244 rfl rfl rfl (hN.1 26 _ rfl) (hts (.initialized RX4) (by decide +kernel)) (by decide +kernel) ⟨Nat.le_of_ble_eq_true rfl, Nat.le_of_ble_eq_true rfl⟩, hts (.instanceMethod yX4_fewest) (by decide +kernel), hts (.selects RX4 yX4_fewest yX4_fewest) (by decide +kernel)⟩ (kU_V hP hK hD hN (ci := 4) (q0 := 9) rfl rfl [9, 10, 1, 2] rfl rfl rfl) rfl rfl hl.1 rfl (lv_room (Nat.le_of_ble_eq_true rfl)) dX6_now_132 ⟨Nat.zero_le _, Nat.zero_le _⟩) hP hD hS hA [9, 10, 1, 2] [0, 3, 4, 5, 6, 7, 8] rfl rfl rfl rfl (by decide) rfl (fun H locs hP hD hS => ?_)
                  obtain ⟨r_9, er_9⟩ : ∃ y : Int32 × (Nat → Int32), y = (P_fewest K f hu) := ⟨_, rfl⟩
                  rw [← er_9]
                  try rw [← er_9] at hP hD
                  have hr := bd_to hr er_9
                  have hP : va_P (dC, dI) kCl [(s0, .inr (5, [.ref h0, .ref sc0, .ref kp0, .ref a0, .ref q0, .ref d0, .ref c0, .ref ta0, .int km, .int rf])), (h0, .inr (3, [.ref h1, .int (nI K)])), (h1, .inl (cI, 16, .inl f)), (d0, .inr (2, [.ref f0, .ref t0, .ref d1, .int pl])), (f0, .inr (3, [.ref f1, .int (nI KF)])), (f1, .inl (cI, 16, .inl ff)), (t0, .inr (3, [.ref t1, .int (nI KT)])), (t1, .inl (cI, 16, .inl tf)), (d1, .inl (cI, 16, .inl im)), (c0, .inr (4, [.ref c1])), (c1, .inl (cI, 6, .inl r_9.2))] H := hP.sub [0, 9, 10, 1, 2, 3, 4, 5, 6, 7, 8] rfl
                  have hD : va_D A [(s0, .inr (5, [.ref h0, .ref sc0, .ref kp0, .ref a0, .ref q0, .ref d0, .ref c0, .ref ta0, .int km, .int rf])), (h0, .inr (3, [.ref h1, .int (nI K)])), (h1, .inl (cI, 16, .inl f)), (d0, .inr (2, [.ref f0, .ref t0, .ref d1, .int pl])), (f0, .inr (3, [.ref f1, .int (nI KF)])), (f1, .inl (cI, 16, .inl ff)), (t0, .inr (3, [.ref t1, .int (nI KT)])), (t1, .inl (cI, 16, .inl tf)), (d1, .inl (cI, 16, .inl im)), (c0, .inr (4, [.ref c1])), (c1, .inl (cI, 6, .inl r_9.2))] := hD.sub [0, 9, 10, 1, 2, 3, 4, 5, 6, 7, 8] (by decide) rfl
                  have he := Sum.inl.inj (hr.trans (hρ.trans hok))
                  subst he
                  exact W.iret (v := r_9.1) hx hb hr0 (fun t ht hW => kVi_end rfl hP hS ht) hS.2.2 dX6_now_135
                · have hr := if_no hr c_8
                  by_cases c_10 : what = (7 : Int32)
                  · have hr := if_to hr c_10
                    refine lv_tableIn (off := 115) (tgt := 136) hx hb dX6_now_21 (by rw [c_10]; decide) (by rw [c_10]; decide) (by rw [c_10]; decide) (by decide) ?_
                    refine lv_aload_n hx hb dX6_now_136 rfl (lv_at hl 0 rfl) ?_
                    refine va_get (D := (dC, dI)) (ci := 5) (v := .ref d0) (C := RX6) (T := TX6) (N := 10) hx hb hts (by decide +kernel) hown hK hP 0 rfl rfl 5 (by decide) (hts (.fieldLink RX6 40 "Shortring" "likeness" "LShortring$Likeness;") (by decide +kernel)) (fun _ h9 => h9) rfl dX6_now_137 ?_
                    refine lv_aload_n hx hb dX6_now_140 rfl (lv_at hl 0 rfl) ?_
                    refine va_get (D := (dC, dI)) (ci := 5) (v := .ref h0) (C := RX6) (T := TX6) (N := 10) hx hb hts (by decide +kernel) hown hK hP 0 rfl rfl 0 (by decide) (hts (.fieldLink RX6 12 "Shortring" "net" "LShortring$Net;") (by decide +kernel)) (fun _ h9 => h9) rfl dX6_now_141 ?_
                    refine kCallVi (wr := [(s0, .inr (5, [.ref h0, .ref sc0, .ref kp0, .ref a0, .ref q0, .ref d0, .ref c0, .ref ta0, .int km, .int rf])), (c0, .inr (4, [.ref c1])), (c1, .inl (cI, 6, .inl hu))]) (va_runVN (As := [.ref h0]) (rest := []) ⟨hx, hb, hml, hown, hts⟩ (k_X2_turnsOf l dC dI cI cN d0 f0 f1 t0 t1 d1 KF ff KT tf im pl h0 h1 K f (by first | assumption | omega | exact Int32.le_refl _ | decide) _) ⟨va_cnB 1 hts gX6_now_X2_turnsOf_n247 rfl rfl rfl (hN.1 27 _ rfl) (hts (.initialized RX2) (by decide +kernel)) (by decide +kernel) ⟨Nat.le_of_ble_eq_true rfl, Nat.le_of_ble_eq_true rfl⟩, hts (.instanceMethod yX2_turnsOf) (by decide +kernel), hts (.selects RX2 yX2_turnsOf yX2_turnsOf) (by decide +kernel)⟩ (kU_V hP hK hD hN (ci := 2) (q0 := 3) rfl rfl [3, 4, 5, 6, 7, 8, 1, 2] rfl rfl rfl) rfl rfl hl.1 rfl (lv_room (Nat.le_of_ble_eq_true rfl)) dX6_now_144 ⟨Nat.zero_le _, Nat.zero_le _⟩) hP hD hS hA [3, 4, 5, 6, 7, 8, 1, 2] [0, 9, 10] rfl rfl rfl rfl (by decide) rfl (fun H locs hP hD hS => ?_)
                    obtain ⟨r_11, er_11⟩ : ∃ y : Int32 × Nat × (Nat → Int32) × Nat × (Nat → Int32) × (Nat → Int32) × Int32, y = (P_turnsOf KF ff KT tf im pl K f) := ⟨_, rfl⟩
                    rw [← er_11]
                    try rw [← er_11] at hP hD
                    have hr := bd_to hr er_11
                    have hP : va_P (dC, dI) kCl [(s0, .inr (5, [.ref h0, .ref sc0, .ref kp0, .ref a0, .ref q0, .ref d0, .ref c0, .ref ta0, .int km, .int rf])), (h0, .inr (3, [.ref h1, .int (nI K)])), (h1, .inl (cI, 16, .inl f)), (d0, .inr (2, [.ref f0, .ref t0, .ref d1, .int r_11.2.2.2.2.2.2])), (f0, .inr (3, [.ref f1, .int (nI r_11.2.1)])), (f1, .inl (cI, 16, .inl r_11.2.2.1)), (t0, .inr (3, [.ref t1, .int (nI r_11.2.2.2.1)])), (t1, .inl (cI, 16, .inl r_11.2.2.2.2.1)), (d1, .inl (cI, 16, .inl r_11.2.2.2.2.2.1)), (c0, .inr (4, [.ref c1])), (c1, .inl (cI, 6, .inl hu))] H := hP.sub [0, 9, 10, 3, 4, 5, 6, 7, 8, 1, 2] rfl
                    have hD : va_D A [(s0, .inr (5, [.ref h0, .ref sc0, .ref kp0, .ref a0, .ref q0, .ref d0, .ref c0, .ref ta0, .int km, .int rf])), (h0, .inr (3, [.ref h1, .int (nI K)])), (h1, .inl (cI, 16, .inl f)), (d0, .inr (2, [.ref f0, .ref t0, .ref d1, .int r_11.2.2.2.2.2.2])), (f0, .inr (3, [.ref f1, .int (nI r_11.2.1)])), (f1, .inl (cI, 16, .inl r_11.2.2.1)), (t0, .inr (3, [.ref t1, .int (nI r_11.2.2.2.1)])), (t1, .inl (cI, 16, .inl r_11.2.2.2.2.1)), (d1, .inl (cI, 16, .inl r_11.2.2.2.2.2.1)), (c0, .inr (4, [.ref c1])), (c1, .inl (cI, 6, .inl hu))] := hD.sub [0, 9, 10, 3, 4, 5, 6, 7, 8, 1, 2] (by decide) rfl
                    have he := Sum.inl.inj (hr.trans (hρ.trans hok))
                    subst he
                    exact W.iret (v := r_11.1) hx hb hr0 (fun t ht hW => kVi_end rfl hP hS ht) hS.2.2 dX6_now_147
                  · have hr := if_no hr c_10
                    by_cases c_12 : what = (8 : Int32)
                    · have hr := if_to hr c_12
                      refine lv_tableIn (off := 127) (tgt := 148) hx hb dX6_now_21 (by rw [c_12]; decide) (by rw [c_12]; decide) (by rw [c_12]; decide) (by decide) ?_
                      refine lv_aload_n hx hb dX6_now_148 rfl (lv_at hl 0 rfl) ?_
                      refine va_get (D := (dC, dI)) (ci := 5) (v := .int km) (C := RX6) (T := TX6) (N := 10) hx hb hts (by decide +kernel) hown hK hP 0 rfl rfl 8 (by decide) (hts (.fieldLink RX6 55 "Shortring" "keptMany" "I") (by decide +kernel)) (fun _ h9 => h9) rfl dX6_now_149 ?_
                      have he := Sum.inl.inj (hr.trans (hρ.trans hok))
                      subst he
                      exact W.iret (v := km) hx hb hr0 (fun t ht hW => kVi_end rfl hP hS ht) hS.2.2 dX6_now_152
                    · have hr := if_no hr c_12
                      by_cases c_13 : what = (9 : Int32)
                      · have hr := if_to hr c_13
                        refine lv_tableIn (off := 132) (tgt := 153) hx hb dX6_now_21 (by rw [c_13]; decide) (by rw [c_13]; decide) (by rw [c_13]; decide) (by decide) ?_
                        refine lv_aload_n hx hb dX6_now_153 rfl (lv_at hl 0 rfl) ?_
                        refine va_get (D := (dC, dI)) (ci := 5) (v := .ref h0) (C := RX6) (T := TX6) (N := 10) hx hb hts (by decide +kernel) hown hK hP 0 rfl rfl 0 (by decide) (hts (.fieldLink RX6 12 "Shortring" "net" "LShortring$Net;") (by decide +kernel)) (fun _ h9 => h9) rfl dX6_now_154 ?_
                        refine kCall (va_runVN (As := []) (rest := []) ⟨hx, hb, hml, hown, hts⟩ (k_X3_loneliest l dC dI cI cN h0 h1 K f (by first | assumption | omega | exact Int32.le_refl _ | decide)) ⟨va_cnB 0 hts gX6_now_X3_loneliest_n250 rfl rfl rfl (hN.1 28 _ rfl) (hts (.initialized RX3) (by decide +kernel)) (by decide +kernel) ⟨Nat.le_of_ble_eq_true rfl, Nat.le_of_ble_eq_true rfl⟩, hts (.instanceMethod yX3_loneliest) (by decide +kernel), hts (.selects RX3 yX3_loneliest yX3_loneliest) (by decide +kernel)⟩ (kW_V hP hK hD hN (ci := 3) (q0 := 1) rfl rfl [1, 2] rfl rfl rfl) rfl rfl hl.1 rfl (lv_room (Nat.le_of_ble_eq_true rfl)) dX6_now_157 ⟨Nat.zero_le _, Nat.zero_le _⟩) hP hS (fun H locs hP hS => ?_)
                        have he := Sum.inl.inj (hr.trans (hρ.trans hok))
                        subst he
                        exact W.iret (v := P_loneliest K f) hx hb hr0 (fun t ht hW => kVi_end rfl hP hS ht) hS.2.2 dX6_now_160
                      · have hr := if_no hr c_13
                        refine lv_tableOut (tgt := 161) hx hb dX6_now_21 (by have z0 := lv_neT c_2 (show (0 : Int32).toInt = 0 from by decide); have z1 := lv_neT c_3 (show (1 : Int32).toInt = 1 from by decide); have z2 := lv_neT c_4 (show (2 : Int32).toInt = 2 from by decide); have z3 := lv_neT c_5 (show (3 : Int32).toInt = 3 from by decide); have z4 := lv_neT c_6 (show (4 : Int32).toInt = 4 from by decide); have z5 := lv_neT c_7 (show (5 : Int32).toInt = 5 from by decide); have z6 := lv_neT c_8 (show (6 : Int32).toInt = 6 from by decide); have z7 := lv_neT c_10 (show (7 : Int32).toInt = 7 from by decide); have z8 := lv_neT c_12 (show (8 : Int32).toInt = 8 from by decide); have z9 := lv_neT c_13 (show (9 : Int32).toInt = 9 from by decide); omega) (by decide) ?_
                        refine lv_aload_n hx hb dX6_now_161 rfl (lv_at hl 0 rfl) ?_
                        refine va_get (D := (dC, dI)) (ci := 5) (v := .int rf) (C := RX6) (T := TX6) (N := 10) hx hb hts (by decide +kernel) hown hK hP 0 rfl rfl 9 (by decide) (hts (.fieldLink RX6 59 "Shortring" "refused" "I") (by decide +kernel)) (fun _ h9 => h9) rfl dX6_now_162 ?_
                        have he := Sum.inl.inj (hr.trans (hρ.trans hok))
                        subst he
                        exact W.iret (v := rf) hx hb hr0 (fun t ht hW => kVi_end rfl hP hS ht) hS.2.2 dX6_now_165
  · have hr := if_to hr c_1
    cases hr.trans (hρ.trans hok)
theorem gfX6_now_1 : ∀ w ∈ (vx_atS RX6 70 (kCls 1) kNs).filter goodWord, w ∈ wsX6_now := fun w h => List.mem_cons_of_mem _ (List.mem_append_right _ h)
abbrev rx_X6_now : Room := { frames := 22, cells := 1, slots := 6, locals := 599 }
set_option maxHeartbeats 4000000 in
set_option maxRecDepth 100000 in
theorem e_X6_now (l : Launch) (hl9 : l.stackTraces = false) (dC : Nat → ClassId) (dI : Nat → Nat → Nat) (cI cN : ClassId) (s0 : Nat) (sc0 : Nat) (kp0 : Nat) (ta0 : Nat) (km : Int32) (rf : Int32) (a0 : Nat) (q0 : Nat) (h0 : Nat) (h1 : Nat) (K : Nat) (f : Nat → Int32) (d0 : Nat) (f0 : Nat) (f1 : Nat) (t0 : Nat) (t1 : Nat) (d1 : Nat) (KF : Nat) (ff : Nat → Int32) (KT : Nat) (tf : Nat → Int32) (im : Nat → Int32) (pl : Int32) (c0 : Nat) (c1 : Nat) (hu : Nat → Int32) (what : Int32) (hK : K ≤ 16) (kx : Nat) (hex : P_now K f km rf KF ff KT tf im pl hu what = .inr kx) : vx_Met l yX6_now wsX6_now rx_X6_now (va_Pc [.ref s0, .int what] (kWE dC dI cI cN [(s0, .inr (5, [.ref h0, .ref sc0, .ref kp0, .ref a0, .ref q0, .ref d0, .ref c0, .ref ta0, .int km, .int rf])), (h0, .inr (3, [.ref h1, .int (nI K)])), (h1, .inl (cI, 16, .inl f)), (d0, .inr (2, [.ref f0, .ref t0, .ref d1, .int pl])), (f0, .inr (3, [.ref f1, .int (nI KF)])), (f1, .inl (cI, 16, .inl ff)), (t0, .inr (3, [.ref t1, .int (nI KT)])), (t1, .inl (cI, 16, .inl tf)), (d1, .inl (cI, 16, .inl im)), (c0, .inr (4, [.ref c1])), (c1, .inl (cI, 6, .inl hu))])) kNoi (kX kx) 1 6 (fun _ => False) := by
  refine vx_ofW (cc := cX6_now) (maxL := 2) (ret := (some .int)) (by decide) rfl ?_
  intro p e s m args below meth c s₁ B hml hxt hv
  obtain ⟨rfl, ⟨hP, hK, hD, hN⟩, hE⟩ := hv
  have hx := B.exec
  have hb := B.bytes
  have hr0 := B.returns
  have hts := atoms_spec (ws := wsX6_now) B.pre
  have hown : s.vm.findClass RX6 = some m.cls := findClass_of_methodNamed B.named
  have hlocks := B.notSynchronized
  have hS : va_S (fun _ => False) s.heap s.heap [] := va_S.rf
  have hl := lv_entry ([.ref s0, .int what]) (n := 2) (Nat.le_of_ble_eq_true rfl)
  rw [lg_entry_eq]
  generalize (lg_sl ([.ref s0, .int what]) ++ List.replicate (2 - (lg_sl ([.ref s0, .int what])).length) Slot.unset).toArray = ls at hl ⊢
  have hl : lv_has ls 2 [(0, .ref s0), (1, .int what)] := hl
  obtain ⟨ρ, hρ⟩ : ∃ ρ : (Int32 × Nat × (Nat → Int32) × Nat × (Nat → Int32) × (Nat → Int32) × Int32 × (Nat → Int32)) ⊕ Nat, ρ = P_now K f km rf KF ff KT tf im pl hu what := ⟨_, rfl⟩
  have hr : P_now K f km rf KF ff KT tf im pl hu what = ρ := hρ.symm
  rewrite [P_now] at hr
  refine lv_iload_n hx hb dX6_now_0 rfl (lv_at hl 1 rfl) ?_
  refine lv_iconst (v := 0) hx hb dX6_now_1 (by decide) ?_
  refine lv_bipush (v := 10) hx hb dX6_now_2 (by decide) ?_
  refine kCall (va_runS (As := [.int what, .int 0, .int 10]) (rest := []) ⟨hx, hb, hml, hown, hts⟩ (k_X6_isWithin l dC dI cI cN what 0 10) (va_cwS 3 hts gX6_now_X6_isWithin rfl rfl rfl (by decide +kernel) ⟨Nat.le_of_ble_eq_true rfl, Nat.le_of_ble_eq_true rfl⟩) (kW_S hP hK hD hN [] rfl rfl rfl) rfl rfl hl.1 rfl (lv_room (Nat.le_of_ble_eq_true rfl)) dX6_now_4 ⟨Nat.zero_le _, Nat.zero_le _⟩) hP hS (fun H locs hP hS => ?_)
  refine lv_if_ne (tgt := 20) hx hb dX6_now_7 (by decide) (fun c_1 => ?_) (fun c_1 => ?_)
  · have hr := if_no hr c_1
    refine lv_iload_n hx hb dX6_now_20 rfl (lv_at hl 1 rfl) ?_
    by_cases c_2 : what = (0 : Int32)
    · have hr := if_to hr c_2
      refine lv_tableIn (off := 55) (tgt := 76) hx hb dX6_now_21 (by rw [c_2]; decide) (by rw [c_2]; decide) (by rw [c_2]; decide) (by decide) ?_
      refine lv_aload_n hx hb dX6_now_76 rfl (lv_at hl 0 rfl) ?_
      refine va_get (D := (dC, dI)) (ci := 5) (v := .ref h0) (C := RX6) (T := TX6) (N := 10) hx hb hts (by decide +kernel) hown hK hP 0 rfl rfl 0 (by decide) (hts (.fieldLink RX6 12 "Shortring" "net" "LShortring$Net;") (by decide +kernel)) (fun _ h9 => h9) rfl dX6_now_77 ?_
      refine va_getN (D := (dC, dI)) (ci := 3) (v := .int (nI K)) (C := RX3) (T := TX3) (N := 2) hx hb hts (by decide +kernel) hown hK hP 1 rfl rfl 1 (by decide) (va_Nw.use rfl (hN.2 0 _ rfl)) (fun _ h9 => h9) rfl dX6_now_80 ?_
      cases hr.trans (hρ.trans hex)
    · have hr := if_no hr c_2
      by_cases c_3 : what = (1 : Int32)
      · have hr := if_to hr c_3
        refine lv_tableIn (off := 63) (tgt := 84) hx hb dX6_now_21 (by rw [c_3]; decide) (by rw [c_3]; decide) (by rw [c_3]; decide) (by decide) ?_
        refine lv_aload_n hx hb dX6_now_84 rfl (lv_at hl 0 rfl) ?_
        refine va_get (D := (dC, dI)) (ci := 5) (v := .ref h0) (C := RX6) (T := TX6) (N := 10) hx hb hts (by decide +kernel) hown hK hP 0 rfl rfl 0 (by decide) (hts (.fieldLink RX6 12 "Shortring" "net" "LShortring$Net;") (by decide +kernel)) (fun _ h9 => h9) rfl dX6_now_85 ?_
        refine kCall (va_runVN (As := []) (rest := []) ⟨hx, hb, hml, hown, hts⟩ (k_X3_edgesInAll l dC dI cI cN h0 h1 K f (by first | assumption | omega | exact Int32.le_refl _ | decide)) ⟨va_cnB 0 hts gX6_now_X3_edgesInAll_n130 rfl rfl rfl (hN.1 13 _ rfl) (hts (.initialized RX3) (by decide +kernel)) (by decide +kernel) ⟨Nat.le_of_ble_eq_true rfl, Nat.le_of_ble_eq_true rfl⟩, hts (.instanceMethod yX3_edgesInAll) (by decide +kernel), hts (.selects RX3 yX3_edgesInAll yX3_edgesInAll) (by decide +kernel)⟩ (kW_V hP hK hD hN (ci := 3) (q0 := 1) rfl rfl [1, 2] rfl rfl rfl) rfl rfl hl.1 rfl (lv_room (Nat.le_of_ble_eq_true rfl)) dX6_now_88 ⟨Nat.zero_le _, Nat.zero_le _⟩) hP hS (fun H locs hP hS => ?_)
        cases hr.trans (hρ.trans hex)
      · have hr := if_no hr c_3
        by_cases c_4 : what = (2 : Int32)
        · have hr := if_to hr c_4
          refine lv_tableIn (off := 71) (tgt := 92) hx hb dX6_now_21 (by rw [c_4]; decide) (by rw [c_4]; decide) (by rw [c_4]; decide) (by decide) ?_
          refine lv_aload_n hx hb dX6_now_92 rfl (lv_at hl 0 rfl) ?_
          refine va_get (D := (dC, dI)) (ci := 5) (v := .ref h0) (C := RX6) (T := TX6) (N := 10) hx hb hts (by decide +kernel) hown hK hP 0 rfl rfl 0 (by decide) (hts (.fieldLink RX6 12 "Shortring" "net" "LShortring$Net;") (by decide +kernel)) (fun _ h9 => h9) rfl dX6_now_93 ?_
          refine kCall (va_runSN (As := [.ref h0]) (rest := []) ⟨hx, hb, hml, hown, hts⟩ (k_X5_partsInAll l dC dI cI cN h0 h1 K f (by first | assumption | omega | exact Int32.le_refl _ | decide)) ⟨va_cnB 1 hts gX6_now_X5_partsInAll_n235 rfl rfl rfl (hN.1 23 _ rfl) (hts (.initialized RX5) (by decide +kernel)) (by decide +kernel) ⟨Nat.le_of_ble_eq_true rfl, Nat.le_of_ble_eq_true rfl⟩, hts (.static yX5_partsInAll) (by decide +kernel), trivial⟩ (kW_S hP hK hD hN [1, 2] rfl rfl rfl) rfl rfl hl.1 rfl (lv_room (Nat.le_of_ble_eq_true rfl)) dX6_now_96 ⟨Nat.zero_le _, Nat.zero_le _⟩) hP hS (fun H locs hP hS => ?_)
          cases hr.trans (hρ.trans hex)
        · have hr := if_no hr c_4
          by_cases c_5 : what = (3 : Int32)
          · have hr := if_to hr c_5
            refine lv_tableIn (off := 79) (tgt := 100) hx hb dX6_now_21 (by rw [c_5]; decide) (by rw [c_5]; decide) (by rw [c_5]; decide) (by decide) ?_
            refine lv_aload_n hx hb dX6_now_100 rfl (lv_at hl 0 rfl) ?_
            refine va_get (D := (dC, dI)) (ci := 5) (v := .ref h0) (C := RX6) (T := TX6) (N := 10) hx hb hts (by decide +kernel) hown hK hP 0 rfl rfl 0 (by decide) (hts (.fieldLink RX6 12 "Shortring" "net" "LShortring$Net;") (by decide +kernel)) (fun _ h9 => h9) rfl dX6_now_101 ?_
            refine kCall (va_runSN (As := [.ref h0]) (rest := []) ⟨hx, hb, hml, hown, hts⟩ (k_X5_leastRing l dC dI cI cN h0 h1 K f (by first | assumption | omega | exact Int32.le_refl _ | decide)) ⟨va_cnB 1 hts gX6_now_X5_leastRing_n147 rfl rfl rfl (hN.1 15 _ rfl) (hts (.initialized RX5) (by decide +kernel)) (by decide +kernel) ⟨Nat.le_of_ble_eq_true rfl, Nat.le_of_ble_eq_true rfl⟩, hts (.static yX5_leastRing) (by decide +kernel), trivial⟩ (kW_S hP hK hD hN [1, 2] rfl rfl rfl) rfl rfl hl.1 rfl (lv_room (Nat.le_of_ble_eq_true rfl)) dX6_now_104 ⟨Nat.zero_le _, Nat.zero_le _⟩) hP hS (fun H locs hP hS => ?_)
            cases hr.trans (hρ.trans hex)
          · have hr := if_no hr c_5
            by_cases c_6 : what = (4 : Int32)
            · have hr := if_to hr c_6
              refine lv_tableIn (off := 87) (tgt := 108) hx hb dX6_now_21 (by rw [c_6]; decide) (by rw [c_6]; decide) (by rw [c_6]; decide) (by decide) ?_
              refine lv_aload_n hx hb dX6_now_108 rfl (lv_at hl 0 rfl) ?_
              refine va_get (D := (dC, dI)) (ci := 5) (v := .ref h0) (C := RX6) (T := TX6) (N := 10) hx hb hts (by decide +kernel) hown hK hP 0 rfl rfl 0 (by decide) (hts (.fieldLink RX6 12 "Shortring" "net" "LShortring$Net;") (by decide +kernel)) (fun _ h9 => h9) rfl dX6_now_109 ?_
              refine kCall (va_runVN (As := []) (rest := []) ⟨hx, hb, hml, hown, hts⟩ (k_X3_evenCount l dC dI cI cN h0 h1 K f (by first | assumption | omega | exact Int32.le_refl _ | decide)) ⟨va_cnB 0 hts gX6_now_X3_evenCount_n238 rfl rfl rfl (hN.1 24 _ rfl) (hts (.initialized RX3) (by decide +kernel)) (by decide +kernel) ⟨Nat.le_of_ble_eq_true rfl, Nat.le_of_ble_eq_true rfl⟩, hts (.instanceMethod yX3_evenCount) (by decide +kernel), hts (.selects RX3 yX3_evenCount yX3_evenCount) (by decide +kernel)⟩ (kW_V hP hK hD hN (ci := 3) (q0 := 1) rfl rfl [1, 2] rfl rfl rfl) rfl rfl hl.1 rfl (lv_room (Nat.le_of_ble_eq_true rfl)) dX6_now_112 ⟨Nat.zero_le _, Nat.zero_le _⟩) hP hS (fun H locs hP hS => ?_)
              cases hr.trans (hρ.trans hex)
            · have hr := if_no hr c_6
              by_cases c_7 : what = (5 : Int32)
              · have hr := if_to hr c_7
                refine lv_tableIn (off := 95) (tgt := 116) hx hb dX6_now_21 (by rw [c_7]; decide) (by rw [c_7]; decide) (by rw [c_7]; decide) (by decide) ?_
                refine lv_aload_n hx hb dX6_now_116 rfl (lv_at hl 0 rfl) ?_
                refine va_get (D := (dC, dI)) (ci := 5) (v := .ref h0) (C := RX6) (T := TX6) (N := 10) hx hb hts (by decide +kernel) hown hK hP 0 rfl rfl 0 (by decide) (hts (.fieldLink RX6 12 "Shortring" "net" "LShortring$Net;") (by decide +kernel)) (fun _ h9 => h9) rfl dX6_now_117 ?_
                refine kCall (va_runSN (As := [.ref h0]) (rest := []) ⟨hx, hb, hml, hown, hts⟩ (k_X5_width l dC dI cI cN h0 h1 K f (by first | assumption | omega | exact Int32.le_refl _ | decide)) ⟨va_cnB 1 hts gX6_now_X5_width_n241 rfl rfl rfl (hN.1 25 _ rfl) (hts (.initialized RX5) (by decide +kernel)) (by decide +kernel) ⟨Nat.le_of_ble_eq_true rfl, Nat.le_of_ble_eq_true rfl⟩, hts (.static yX5_width) (by decide +kernel), trivial⟩ (kW_S hP hK hD hN [1, 2] rfl rfl rfl) rfl rfl hl.1 rfl (lv_room (Nat.le_of_ble_eq_true rfl)) dX6_now_120 ⟨Nat.zero_le _, Nat.zero_le _⟩) hP hS (fun H locs hP hS => ?_)
                cases hr.trans (hρ.trans hex)
              · have hr := if_no hr c_7
                by_cases c_8 : what = (6 : Int32)
                · have hr := if_to hr c_8
                  refine lv_tableIn (off := 103) (tgt := 124) hx hb dX6_now_21 (by rw [c_8]; decide) (by rw [c_8]; decide) (by rw [c_8]; decide) (by decide) ?_
                  refine lv_aload_n hx hb dX6_now_124 rfl (lv_at hl 0 rfl) ?_
                  refine va_get (D := (dC, dI)) (ci := 5) (v := .ref c0) (C := RX6) (T := TX6) (N := 10) hx hb hts (by decide +kernel) hown hK hP 0 rfl rfl 6 (by decide) (hts (.fieldLink RX6 47 "Shortring" "paint" "LShortring$Paint;") (by decide +kernel)) (fun _ h9 => h9) rfl dX6_now_125 ?_
                  refine lv_aload_n hx hb dX6_now_128 rfl (lv_at hl 0 rfl) ?_
                  refine va_get (D := (dC, dI)) (ci := 5) (v := .ref h0) (C := RX6) (T := TX6) (N := 10) hx hb hts (by decide +kernel) hown hK hP 0 rfl rfl 0 (by decide) (hts (.fieldLink RX6 12 "Shortring" "net" "LShortring$Net;") (by decide +kernel)) (fun _ h9 => h9) rfl dX6_now_129 ?_
                  exact kNoway (hr.trans (hρ.trans hex)) (by simp only [bd]; (repeat' split) <;> exact ⟨_, rfl⟩)
                · have hr := if_no hr c_8
                  by_cases c_9 : what = (7 : Int32)
                  · have hr := if_to hr c_9
                    refine lv_tableIn (off := 115) (tgt := 136) hx hb dX6_now_21 (by rw [c_9]; decide) (by rw [c_9]; decide) (by rw [c_9]; decide) (by decide) ?_
                    refine lv_aload_n hx hb dX6_now_136 rfl (lv_at hl 0 rfl) ?_
                    refine va_get (D := (dC, dI)) (ci := 5) (v := .ref d0) (C := RX6) (T := TX6) (N := 10) hx hb hts (by decide +kernel) hown hK hP 0 rfl rfl 5 (by decide) (hts (.fieldLink RX6 40 "Shortring" "likeness" "LShortring$Likeness;") (by decide +kernel)) (fun _ h9 => h9) rfl dX6_now_137 ?_
                    refine lv_aload_n hx hb dX6_now_140 rfl (lv_at hl 0 rfl) ?_
                    refine va_get (D := (dC, dI)) (ci := 5) (v := .ref h0) (C := RX6) (T := TX6) (N := 10) hx hb hts (by decide +kernel) hown hK hP 0 rfl rfl 0 (by decide) (hts (.fieldLink RX6 12 "Shortring" "net" "LShortring$Net;") (by decide +kernel)) (fun _ h9 => h9) rfl dX6_now_141 ?_
                    exact kNoway (hr.trans (hρ.trans hex)) (by simp only [bd]; (repeat' split) <;> exact ⟨_, rfl⟩)
                  · have hr := if_no hr c_9
                    by_cases c_10 : what = (8 : Int32)
                    · have hr := if_to hr c_10
                      refine lv_tableIn (off := 127) (tgt := 148) hx hb dX6_now_21 (by rw [c_10]; decide) (by rw [c_10]; decide) (by rw [c_10]; decide) (by decide) ?_
                      refine lv_aload_n hx hb dX6_now_148 rfl (lv_at hl 0 rfl) ?_
                      refine va_get (D := (dC, dI)) (ci := 5) (v := .int km) (C := RX6) (T := TX6) (N := 10) hx hb hts (by decide +kernel) hown hK hP 0 rfl rfl 8 (by decide) (hts (.fieldLink RX6 55 "Shortring" "keptMany" "I") (by decide +kernel)) (fun _ h9 => h9) rfl dX6_now_149 ?_
                      cases hr.trans (hρ.trans hex)
                    · have hr := if_no hr c_10
                      by_cases c_11 : what = (9 : Int32)
                      · have hr := if_to hr c_11
                        refine lv_tableIn (off := 132) (tgt := 153) hx hb dX6_now_21 (by rw [c_11]; decide) (by rw [c_11]; decide) (by rw [c_11]; decide) (by decide) ?_
                        refine lv_aload_n hx hb dX6_now_153 rfl (lv_at hl 0 rfl) ?_
                        refine va_get (D := (dC, dI)) (ci := 5) (v := .ref h0) (C := RX6) (T := TX6) (N := 10) hx hb hts (by decide +kernel) hown hK hP 0 rfl rfl 0 (by decide) (hts (.fieldLink RX6 12 "Shortring" "net" "LShortring$Net;") (by decide +kernel)) (fun _ h9 => h9) rfl dX6_now_154 ?_
                        refine kCall (va_runVN (As := []) (rest := []) ⟨hx, hb, hml, hown, hts⟩ (k_X3_loneliest l dC dI cI cN h0 h1 K f (by first | assumption | omega | exact Int32.le_refl _ | decide)) ⟨va_cnB 0 hts gX6_now_X3_loneliest_n250 rfl rfl rfl (hN.1 28 _ rfl) (hts (.initialized RX3) (by decide +kernel)) (by decide +kernel) ⟨Nat.le_of_ble_eq_true rfl, Nat.le_of_ble_eq_true rfl⟩, hts (.instanceMethod yX3_loneliest) (by decide +kernel), hts (.selects RX3 yX3_loneliest yX3_loneliest) (by decide +kernel)⟩ (kW_V hP hK hD hN (ci := 3) (q0 := 1) rfl rfl [1, 2] rfl rfl rfl) rfl rfl hl.1 rfl (lv_room (Nat.le_of_ble_eq_true rfl)) dX6_now_157 ⟨Nat.zero_le _, Nat.zero_le _⟩) hP hS (fun H locs hP hS => ?_)
                        cases hr.trans (hρ.trans hex)
                      · have hr := if_no hr c_11
                        refine lv_tableOut (tgt := 161) hx hb dX6_now_21 (by have z0 := lv_neT c_2 (show (0 : Int32).toInt = 0 from by decide); have z1 := lv_neT c_3 (show (1 : Int32).toInt = 1 from by decide); have z2 := lv_neT c_4 (show (2 : Int32).toInt = 2 from by decide); have z3 := lv_neT c_5 (show (3 : Int32).toInt = 3 from by decide); have z4 := lv_neT c_6 (show (4 : Int32).toInt = 4 from by decide); have z5 := lv_neT c_7 (show (5 : Int32).toInt = 5 from by decide); have z6 := lv_neT c_8 (show (6 : Int32).toInt = 6 from by decide); have z7 := lv_neT c_9 (show (7 : Int32).toInt = 7 from by decide); have z8 := lv_neT c_10 (show (8 : Int32).toInt = 8 from by decide); have z9 := lv_neT c_11 (show (9 : Int32).toInt = 9 from by decide); omega) (by decide) ?_
                        refine lv_aload_n hx hb dX6_now_161 rfl (lv_at hl 0 rfl) ?_
                        refine va_get (D := (dC, dI)) (ci := 5) (v := .int rf) (C := RX6) (T := TX6) (N := 10) hx hb hts (by decide +kernel) hown hK hP 0 rfl rfl 9 (by decide) (hts (.fieldLink RX6 59 "Shortring" "refused" "I") (by decide +kernel)) (fun _ h9 => h9) rfl dX6_now_162 ?_
                        cases hr.trans (hρ.trans hex)
  · have hr := if_to hr c_1
    exact kThrowS hx hb hl9 hown 1 (ik := 66) (is := 233) (ic := 70) (Sum.inr.inj (hr.trans (hρ.trans hex))) (by decide +kernel) (hts (.classLink RX6 66 "java/lang/IllegalArgumentException") (by decide +kernel)) (hts (.initialized "java/lang/IllegalArgumentException") (by decide +kernel)) 16 rfl (fun w h => hts w (gfX6_now_1 w h)) kBad1 (kHg kOt1) hE hS (hl.1.trans hml.symm) dX6_now_10 dX6_now_13 dX6_now_14 dX6_now_16 dX6_now_19 hxt (Nat.le_of_ble_eq_true rfl) (Nat.le_of_ble_eq_true rfl) (Nat.le_of_ble_eq_true rfl) (Nat.le_of_ble_eq_true rfl) hlocks
