/-! the ledger that is changed (printed by wip/gen) -/
def P_prove (g : Nat → Int32) (knots : Int32) (count : Int32) (length : Int32) : Nat → Int32 :=
  bd (P_proofPlace knots count) (fun place_1 =>
    if place_1 = (-1 : Int32) then
      g
    else
      if (P_isProved g knots count length) = 0 then
        upd g (place_1).toNatClampNeg length
      else
        g)
abbrev rm_X1_prove : Room := { frames := 3, cells := 0, slots := 0, locals := 71 }
set_option maxHeartbeats 4000000 in
set_option maxRecDepth 100000 in
theorem k_X1_prove (l : Launch) (dC : Nat → ClassId) (dI : Nat → Nat → Nat) (cI cN : ClassId) (q0 : Nat) (q1 : Nat) (q2 : Nat) (g : Nat → Int32) (t : Nat → Int32) (knots : Int32) (count : Int32) (length : Int32) (sz : Nat) : Met l yX1_prove wsX1_prove rm_X1_prove (va_Pc [.ref q0, .int knots, .int count, .int length] (kU dC dI cI cN [(q0, .inr (1, [.ref q1, .ref q2])), (q1, .inl (cI, 102, .inl g)), (q2, .inl (cI, 54, .inl t))] sz)) (kV dC dI [(q0, .inr (1, [.ref q1, .ref q2])), (q1, .inl (cI, 102, .inl ((P_prove g knots count length)))), (q2, .inl (cI, 54, .inl t))] (va_A [(q0, .inr (1, [.ref q1, .ref q2])), (q1, .inl (cI, 102, .inl g)), (q2, .inl (cI, 54, .inl t))] sz)) 0 0 (va_A [(q0, .inr (1, [.ref q1, .ref q2])), (q1, .inl (cI, 102, .inl g)), (q2, .inl (cI, 54, .inl t))] sz) := by
  refine Met.ofW (cc := cX1_prove) (maxL := 5) (ret := none) (by decide) rfl ?_
  intro p e s m args below meth c s₁ B hml hv
  obtain ⟨rfl, hsz, hP, hK, hD0, hN⟩ := hv
  have hx := B.exec
  have hb := B.bytes
  have hr0 := B.returns
  have hts := atoms_spec (ws := wsX1_prove) B.pre
  have hown : s.vm.findClass RX1 = some m.cls := findClass_of_methodNamed B.named
  have hlocks := B.notSynchronized
  subst hsz
  have hD := hD0.self (sz := s.heap.size)
  generalize hAe : va_A [(q0, .inr (1, [.ref q1, .ref q2])), (q1, .inl (cI, 102, .inl g)), (q2, .inl (cI, 54, .inl t))] s.heap.size = A at hD ⊢
  have hA : ∀ q : Nat, s.heap.size ≤ q → A q := fun q h => by rw [← hAe]; exact Or.inr h
  have hS : va_S A s.heap s.heap [] := va_S.rf
  have hl := lv_entry ([.ref q0, .int knots, .int count, .int length]) (n := 5) (Nat.le_of_ble_eq_true rfl)
  rw [lg_entry_eq]
  generalize (lg_sl ([.ref q0, .int knots, .int count, .int length]) ++ List.replicate (5 - (lg_sl ([.ref q0, .int knots, .int count, .int length])).length) Slot.unset).toArray = ls at hl ⊢
  have hl : lv_has ls 5 [(0, .ref q0), (1, .int knots), (2, .int count), (3, .int length)] := hl
  obtain ⟨ρ, hρ⟩ : ∃ ρ : Nat → Int32, ρ = P_prove g knots count length := ⟨_, rfl⟩
  have hr : P_prove g knots count length = ρ := hρ.symm
  rewrite [P_prove] at hr
  refine lv_aload_n hx hb dX1_prove_0 rfl (lv_at hl 0 rfl) ?_
  refine lv_iload_n hx hb dX1_prove_1 rfl (lv_at hl 1 rfl) ?_
  refine lv_iload_n hx hb dX1_prove_2 rfl (lv_at hl 2 rfl) ?_
  refine kCall (va_runV (As := [.int knots, .int count]) (rest := []) ⟨hx, hb, hml, hown, hts⟩ (k_X1_proofPlace l dC dI cI cN q0 q1 q2 g t knots count) (cwV 2 hts gX1_prove_X1_proofPlace rfl rfl rfl (by decide +kernel) ⟨Nat.le_of_ble_eq_true rfl, Nat.le_of_ble_eq_true rfl⟩) (kW_V hP hK hD hN (ci := 1) (q0 := 0) rfl rfl [0, 1, 2] rfl rfl rfl) rfl rfl hl.1 rfl (lv_room (Nat.le_of_ble_eq_true rfl)) dX1_prove_3 ⟨Nat.zero_le _, Nat.zero_le _⟩) hP hS (fun H locs hP hS => ?_)
  refine lv_topi (fun place_1 eplace_1 => ?_)
  have hr := bd_to hr eplace_1
  refine lv_istore (lv' := [(4, .int place_1), (0, .ref q0), (1, .int knots), (2, .int count), (3, .int length)]) hx hb dX1_prove_6 hl (by decide) rfl (fun ls hl => ?_)
  refine lv_iload hx hb dX1_prove_8 (lv_at hl 0 rfl) ?_
  refine lv_iconst (v := (-1)) hx hb dX1_prove_10 (by decide) ?_
  refine lv_icmp_eq (tgt := 32) hx hb dX1_prove_11 (by decide) (fun c_2 => ?_) (fun c_2 => ?_)
  · have hr := if_to hr c_2
    have he := hr.trans hρ
    exact W.vret hx hb hr0 (fun t ht hW => kV_end (by rw [← he]; exact hP) hS ht) hS.2.2 dX1_prove_32
  · have hr := if_no hr c_2
    refine lv_aload_n hx hb dX1_prove_14 rfl (lv_at hl 1 rfl) ?_
    refine lv_iload_n hx hb dX1_prove_15 rfl (lv_at hl 2 rfl) ?_
    refine lv_iload_n hx hb dX1_prove_16 rfl (lv_at hl 3 rfl) ?_
    refine lv_iload_n hx hb dX1_prove_17 rfl (lv_at hl 4 rfl) ?_
    refine kCall (va_runV (As := [.int knots, .int count, .int length]) (rest := []) ⟨hx, hb, hml, hown, hts⟩ (k_X1_isProved l dC dI cI cN q0 q1 q2 g t knots count length) (cwV 3 hts gX1_prove_X1_isProved rfl rfl rfl (by decide +kernel) ⟨Nat.le_of_ble_eq_true rfl, Nat.le_of_ble_eq_true rfl⟩) (kW_V hP hK hD hN (ci := 1) (q0 := 0) rfl rfl [0, 1, 2] rfl rfl rfl) rfl rfl hl.1 rfl (lv_room (Nat.le_of_ble_eq_true rfl)) dX1_prove_18 ⟨Nat.zero_le _, Nat.zero_le _⟩) hP hS (fun H locs hP hS => ?_)
    refine lv_if_ne (tgt := 32) hx hb dX1_prove_21 (by decide) (fun c_3 => ?_) (fun c_3 => ?_)
    · have hr := if_no hr c_3
      have he := hr.trans hρ
      exact W.vret hx hb hr0 (fun t ht hW => kV_end (by rw [← he]; exact hP) hS ht) hS.2.2 dX1_prove_32
    · have hr := if_to hr c_3
      refine lv_aload_n hx hb dX1_prove_24 rfl (lv_at hl 1 rfl) ?_
      refine va_get (D := (dC, dI)) (ci := 1) (v := .ref q1) (C := RX1) (T := TX1) (N := 2) hx hb hts (by decide +kernel) hown hK hP 0 rfl rfl 0 (by decide) (hts (.fieldLink RX1 9 "Shortring$Ledger" "leastProved" "[I") (by decide +kernel)) (fun _ h9 => h9) rfl dX1_prove_25 ?_
      refine lv_iload hx hb dX1_prove_28 (lv_at hl 0 rfl) ?_
      refine lv_iload_n hx hb dX1_prove_30 rfl (lv_at hl 4 rfl) ?_
      refine va_iast hx hb hK hP hD hS 1 0 rfl rfl (P_proofPlace_in (by assumption) (by assumption)) dX1_prove_31 (fun H locs hP hD hS => ?_)
      have hP : va_P (dC, dI) kCl [(q0, .inr (1, [.ref q1, .ref q2])), (q1, .inl (cI, 102, .inl (upd g (place_1).toNatClampNeg length))), (q2, .inl (cI, 54, .inl t))] H := hP
      have hD : va_D A [(q0, .inr (1, [.ref q1, .ref q2])), (q1, .inl (cI, 102, .inl (upd g (place_1).toNatClampNeg length))), (q2, .inl (cI, 54, .inl t))] := hD
      have he := hr.trans hρ
      exact W.vret hx hb hr0 (fun t ht hW => kV_end (by rw [← he]; exact hP) hS ht) hS.2.2 dX1_prove_32
def P_look (t : Nat → Int32) (K : Nat) (f : Nat → Int32) : Nat → Int32 :=
  bd (P_evenCount K f) (fun count_1 =>
    if (P_isWithin count_1 2 5) = 0 then
      t
    else
      bd (P_tablePlace count_1 (P_leastRing K f)) (fun place_3 =>
        if place_3 = (-1 : Int32) then
          t
        else
          if (t (place_3).toNatClampNeg) = 0 then
            upd t (place_3).toNatClampNeg (nI K)
          else
            if (t (place_3).toNatClampNeg) ≤ (nI K) then
              t
            else
              upd t (place_3).toNatClampNeg (nI K)))
abbrev rm_X1_look : Room := { frames := 5, cells := 0, slots := 0, locals := 116 }
set_option maxHeartbeats 4000000 in
set_option maxRecDepth 100000 in
theorem k_X1_look (l : Launch) (dC : Nat → ClassId) (dI : Nat → Nat → Nat) (cI cN : ClassId) (q0 : Nat) (q1 : Nat) (q2 : Nat) (g : Nat → Int32) (t : Nat → Int32) (h0 : Nat) (h1 : Nat) (K : Nat) (f : Nat → Int32) (hK : K ≤ 16) (sz : Nat) : Met l yX1_look wsX1_look rm_X1_look (va_Pc [.ref q0, .ref h0] (kU dC dI cI cN [(q0, .inr (1, [.ref q1, .ref q2])), (q1, .inl (cI, 102, .inl g)), (q2, .inl (cI, 54, .inl t)), (h0, .inr (3, [.ref h1, .int (nI K)])), (h1, .inl (cI, 16, .inl f))] sz)) (kV dC dI [(q0, .inr (1, [.ref q1, .ref q2])), (q1, .inl (cI, 102, .inl g)), (q2, .inl (cI, 54, .inl ((P_look t K f)))), (h0, .inr (3, [.ref h1, .int (nI K)])), (h1, .inl (cI, 16, .inl f))] (va_A [(q0, .inr (1, [.ref q1, .ref q2])), (q1, .inl (cI, 102, .inl g)), (q2, .inl (cI, 54, .inl t)), (h0, .inr (3, [.ref h1, .int (nI K)])), (h1, .inl (cI, 16, .inl f))] sz)) 0 0 (va_A [(q0, .inr (1, [.ref q1, .ref q2])), (q1, .inl (cI, 102, .inl g)), (q2, .inl (cI, 54, .inl t)), (h0, .inr (3, [.ref h1, .int (nI K)])), (h1, .inl (cI, 16, .inl f))] sz) := by
  refine Met.ofW (cc := cX1_look) (maxL := 4) (ret := none) (by decide) rfl ?_
  intro p e s m args below meth c s₁ B hml hv
  obtain ⟨rfl, hsz, hP, hK, hD0, hN⟩ := hv
  have hx := B.exec
  have hb := B.bytes
  have hr0 := B.returns
  have hts := atoms_spec (ws := wsX1_look) B.pre
  have hown : s.vm.findClass RX1 = some m.cls := findClass_of_methodNamed B.named
  have hlocks := B.notSynchronized
  subst hsz
  have hD := hD0.self (sz := s.heap.size)
  generalize hAe : va_A [(q0, .inr (1, [.ref q1, .ref q2])), (q1, .inl (cI, 102, .inl g)), (q2, .inl (cI, 54, .inl t)), (h0, .inr (3, [.ref h1, .int (nI K)])), (h1, .inl (cI, 16, .inl f))] s.heap.size = A at hD ⊢
  have hA : ∀ q : Nat, s.heap.size ≤ q → A q := fun q h => by rw [← hAe]; exact Or.inr h
  have hS : va_S A s.heap s.heap [] := va_S.rf
  have hl := lv_entry ([.ref q0, .ref h0]) (n := 4) (Nat.le_of_ble_eq_true rfl)
  rw [lg_entry_eq]
  generalize (lg_sl ([.ref q0, .ref h0]) ++ List.replicate (4 - (lg_sl ([.ref q0, .ref h0])).length) Slot.unset).toArray = ls at hl ⊢
  have hl : lv_has ls 4 [(0, .ref q0), (1, .ref h0)] := hl
  obtain ⟨ρ, hρ⟩ : ∃ ρ : Nat → Int32, ρ = P_look t K f := ⟨_, rfl⟩
  have hr : P_look t K f = ρ := hρ.symm
  rewrite [P_look] at hr
  refine lv_aload_n hx hb dX1_look_0 rfl (lv_at hl 1 rfl) ?_
  refine kCall (va_runVN (As := []) (rest := []) ⟨hx, hb, hml, hown, hts⟩ (k_X3_evenCount l dC dI cI cN h0 h1 K f (by first | assumption | omega | exact Int32.le_refl _ | decide)) ⟨va_cnB 0 hts gX1_look_X3_evenCount_n32 rfl rfl rfl (hN.1 52 _ rfl) (hts (.initialized RX3) (by decide +kernel)) (by decide +kernel) ⟨Nat.le_of_ble_eq_true rfl, Nat.le_of_ble_eq_true rfl⟩, hts (.instanceMethod yX3_evenCount) (by decide +kernel), hts (.selects RX3 yX3_evenCount yX3_evenCount) (by decide +kernel)⟩ (kW_V hP hK hD hN (ci := 3) (q0 := 3) rfl rfl [3, 4] rfl rfl rfl) rfl rfl hl.1 rfl (lv_room (Nat.le_of_ble_eq_true rfl)) dX1_look_1 ⟨Nat.zero_le _, Nat.zero_le _⟩) hP hS (fun H locs hP hS => ?_)
  refine lv_topi (fun count_1 ecount_1 => ?_)
  have hr := bd_to hr ecount_1
  refine lv_istore_n (lv' := [(2, .int count_1), (0, .ref q0), (1, .ref h0)]) hx hb dX1_look_4 rfl hl (by decide) rfl (fun ls hl => ?_)
  refine lv_iload_n hx hb dX1_look_5 rfl (lv_at hl 0 rfl) ?_
  refine lv_iconst (v := 2) hx hb dX1_look_6 (by decide) ?_
  refine lv_iconst (v := 5) hx hb dX1_look_7 (by decide) ?_
  refine kCall (va_runSN (As := [.int count_1, .int 2, .int 5]) (rest := []) ⟨hx, hb, hml, hown, hts⟩ (k_X6_isWithin l dC dI cI cN count_1 2 5) ⟨va_cnB 3 hts gX1_look_X6_isWithin_n26 rfl rfl rfl (hN.1 51 _ rfl) (hts (.initialized RX6) (by decide +kernel)) (by decide +kernel) ⟨Nat.le_of_ble_eq_true rfl, Nat.le_of_ble_eq_true rfl⟩, hts (.static yX6_isWithin) (by decide +kernel), trivial⟩ (kW_S hP hK hD hN [] rfl rfl rfl) rfl rfl hl.1 rfl (lv_room (Nat.le_of_ble_eq_true rfl)) dX1_look_8 ⟨Nat.zero_le _, Nat.zero_le _⟩) hP hS (fun H locs hP hS => ?_)
  refine lv_if_ne (tgt := 15) hx hb dX1_look_11 (by decide) (fun c_2 => ?_) (fun c_2 => ?_)
  · have hr := if_no hr c_2
    refine lv_aload_n hx hb dX1_look_15 rfl (lv_at hl 1 rfl) ?_
    refine lv_iload_n hx hb dX1_look_16 rfl (lv_at hl 0 rfl) ?_
    refine lv_aload_n hx hb dX1_look_17 rfl (lv_at hl 2 rfl) ?_
    refine kCall (va_runSN (As := [.ref h0]) (rest := [.int count_1, .ref q0]) ⟨hx, hb, hml, hown, hts⟩ (k_X5_leastRing l dC dI cI cN h0 h1 K f (by first | assumption | omega | exact Int32.le_refl _ | decide)) ⟨va_cnB 1 hts gX1_look_X5_leastRing_n38 rfl rfl rfl (hN.1 53 _ rfl) (hts (.initialized RX5) (by decide +kernel)) (by decide +kernel) ⟨Nat.le_of_ble_eq_true rfl, Nat.le_of_ble_eq_true rfl⟩, hts (.static yX5_leastRing) (by decide +kernel), trivial⟩ (kW_S hP hK hD hN [3, 4] rfl rfl rfl) rfl rfl hl.1 rfl (lv_room (Nat.le_of_ble_eq_true rfl)) dX1_look_18 ⟨Nat.zero_le _, Nat.zero_le _⟩) hP hS (fun H locs hP hS => ?_)
    refine kCall (va_runV (As := [.int count_1, .int (P_leastRing K f)]) (rest := []) ⟨hx, hb, hml, hown, hts⟩ (k_X1_tablePlace l dC dI cI cN q0 q1 q2 g t count_1 (P_leastRing K f)) (cwV 2 hts gX1_look_X1_tablePlace rfl rfl rfl (by decide +kernel) ⟨Nat.le_of_ble_eq_true rfl, Nat.le_of_ble_eq_true rfl⟩) (kW_V hP hK hD hN (ci := 1) (q0 := 0) rfl rfl [0, 1, 2] rfl rfl rfl) rfl rfl hl.1 rfl (lv_room (Nat.le_of_ble_eq_true rfl)) dX1_look_21 ⟨Nat.zero_le _, Nat.zero_le _⟩) hP hS (fun H locs hP hS => ?_)
    refine lv_topi (fun place_3 eplace_3 => ?_)
    have hr := bd_to hr eplace_3
    refine lv_istore_n (lv' := [(3, .int place_3), (2, .int count_1), (0, .ref q0), (1, .ref h0)]) hx hb dX1_look_24 rfl hl (by decide) rfl (fun ls hl => ?_)
    refine lv_iload_n hx hb dX1_look_25 rfl (lv_at hl 0 rfl) ?_
    refine lv_iconst (v := (-1)) hx hb dX1_look_26 (by decide) ?_
    refine lv_icmp_eq (tgt := 62) hx hb dX1_look_27 (by decide) (fun c_4 => ?_) (fun c_4 => ?_)
    · have hr := if_to hr c_4
      have he := hr.trans hρ
      exact W.vret hx hb hr0 (fun t ht hW => kV_end (by rw [← he]; exact hP) hS ht) hS.2.2 dX1_look_62
    · have hr := if_no hr c_4
      refine lv_aload_n hx hb dX1_look_30 rfl (lv_at hl 2 rfl) ?_
      refine va_get (D := (dC, dI)) (ci := 1) (v := .ref q2) (C := RX1) (T := TX1) (N := 2) hx hb hts (by decide +kernel) hown hK hP 0 rfl rfl 1 (by decide) (hts (.fieldLink RX1 15 "Shortring$Ledger" "smallest" "[I") (by decide +kernel)) (fun _ h9 => h9) rfl dX1_look_31 ?_
      refine lv_iload_n hx hb dX1_look_34 rfl (lv_at hl 0 rfl) ?_
      refine va_iald hx hb hK hP 2 0 rfl rfl (P_tablePlace_in (by assumption) (by assumption)) dX1_look_35 ?_
      refine lv_if_eq (tgt := 52) hx hb dX1_look_36 (by decide) (fun c_5 => ?_) (fun c_5 => ?_)
      · have hr := if_to hr c_5
        refine lv_aload_n hx hb dX1_look_52 rfl (lv_at hl 2 rfl) ?_
        refine va_get (D := (dC, dI)) (ci := 1) (v := .ref q2) (C := RX1) (T := TX1) (N := 2) hx hb hts (by decide +kernel) hown hK hP 0 rfl rfl 1 (by decide) (hts (.fieldLink RX1 15 "Shortring$Ledger" "smallest" "[I") (by decide +kernel)) (fun _ h9 => h9) rfl dX1_look_53 ?_
        refine lv_iload_n hx hb dX1_look_56 rfl (lv_at hl 0 rfl) ?_
        refine lv_aload_n hx hb dX1_look_57 rfl (lv_at hl 3 rfl) ?_
        refine va_getN (D := (dC, dI)) (ci := 3) (v := .int (nI K)) (C := RX3) (T := TX3) (N := 2) hx hb hts (by decide +kernel) hown hK hP 3 rfl rfl 1 (by decide) (va_Nw.use rfl (hN.2 9 _ rfl)) (fun _ h9 => h9) rfl dX1_look_58 ?_
        refine va_iast hx hb hK hP hD hS 2 0 rfl rfl (P_tablePlace_in (by assumption) (by assumption)) dX1_look_61 (fun H locs hP hD hS => ?_)
        have hP : va_P (dC, dI) kCl [(q0, .inr (1, [.ref q1, .ref q2])), (q1, .inl (cI, 102, .inl g)), (q2, .inl (cI, 54, .inl (upd t (place_3).toNatClampNeg (nI K)))), (h0, .inr (3, [.ref h1, .int (nI K)])), (h1, .inl (cI, 16, .inl f))] H := hP
        have hD : va_D A [(q0, .inr (1, [.ref q1, .ref q2])), (q1, .inl (cI, 102, .inl g)), (q2, .inl (cI, 54, .inl (upd t (place_3).toNatClampNeg (nI K)))), (h0, .inr (3, [.ref h1, .int (nI K)])), (h1, .inl (cI, 16, .inl f))] := hD
        have he := hr.trans hρ
        exact W.vret hx hb hr0 (fun t ht hW => kV_end (by rw [← he]; exact hP) hS ht) hS.2.2 dX1_look_62
      · have hr := if_no hr c_5
        refine lv_aload_n hx hb dX1_look_39 rfl (lv_at hl 3 rfl) ?_
        refine va_getN (D := (dC, dI)) (ci := 3) (v := .int (nI K)) (C := RX3) (T := TX3) (N := 2) hx hb hts (by decide +kernel) hown hK hP 3 rfl rfl 1 (by decide) (va_Nw.use rfl (hN.2 9 _ rfl)) (fun _ h9 => h9) rfl dX1_look_40 ?_
        refine lv_aload_n hx hb dX1_look_43 rfl (lv_at hl 2 rfl) ?_
        refine va_get (D := (dC, dI)) (ci := 1) (v := .ref q2) (C := RX1) (T := TX1) (N := 2) hx hb hts (by decide +kernel) hown hK hP 0 rfl rfl 1 (by decide) (hts (.fieldLink RX1 15 "Shortring$Ledger" "smallest" "[I") (by decide +kernel)) (fun _ h9 => h9) rfl dX1_look_44 ?_
        refine lv_iload_n hx hb dX1_look_47 rfl (lv_at hl 0 rfl) ?_
        refine va_iald hx hb hK hP 2 0 rfl rfl (P_tablePlace_in (by assumption) (by assumption)) dX1_look_48 ?_
        refine lv_icmp_ge (tgt := 62) hx hb dX1_look_49 (by decide) (fun c_6 => ?_) (fun c_6 => ?_)
        · have hr := if_to hr c_6
          have he := hr.trans hρ
          exact W.vret hx hb hr0 (fun t ht hW => kV_end (by rw [← he]; exact hP) hS ht) hS.2.2 dX1_look_62
        · have hr := if_no hr c_6
          refine lv_aload_n hx hb dX1_look_52 rfl (lv_at hl 2 rfl) ?_
          refine va_get (D := (dC, dI)) (ci := 1) (v := .ref q2) (C := RX1) (T := TX1) (N := 2) hx hb hts (by decide +kernel) hown hK hP 0 rfl rfl 1 (by decide) (hts (.fieldLink RX1 15 "Shortring$Ledger" "smallest" "[I") (by decide +kernel)) (fun _ h9 => h9) rfl dX1_look_53 ?_
          refine lv_iload_n hx hb dX1_look_56 rfl (lv_at hl 0 rfl) ?_
          refine lv_aload_n hx hb dX1_look_57 rfl (lv_at hl 3 rfl) ?_
          refine va_getN (D := (dC, dI)) (ci := 3) (v := .int (nI K)) (C := RX3) (T := TX3) (N := 2) hx hb hts (by decide +kernel) hown hK hP 3 rfl rfl 1 (by decide) (va_Nw.use rfl (hN.2 9 _ rfl)) (fun _ h9 => h9) rfl dX1_look_58 ?_
          refine va_iast hx hb hK hP hD hS 2 0 rfl rfl (P_tablePlace_in (by assumption) (by assumption)) dX1_look_61 (fun H locs hP hD hS => ?_)
          have hP : va_P (dC, dI) kCl [(q0, .inr (1, [.ref q1, .ref q2])), (q1, .inl (cI, 102, .inl g)), (q2, .inl (cI, 54, .inl (upd t (place_3).toNatClampNeg (nI K)))), (h0, .inr (3, [.ref h1, .int (nI K)])), (h1, .inl (cI, 16, .inl f))] H := hP
          have hD : va_D A [(q0, .inr (1, [.ref q1, .ref q2])), (q1, .inl (cI, 102, .inl g)), (q2, .inl (cI, 54, .inl (upd t (place_3).toNatClampNeg (nI K)))), (h0, .inr (3, [.ref h1, .int (nI K)])), (h1, .inl (cI, 16, .inl f))] := hD
          have he := hr.trans hρ
          exact W.vret hx hb hr0 (fun t ht hW => kV_end (by rw [← he]; exact hP) hS ht) hS.2.2 dX1_look_62
  · have hr := if_to hr c_2
    have he := hr.trans hρ
    exact W.vret hx hb hr0 (fun t ht hW => kV_end (by rw [← he]; exact hP) hS ht) hS.2.2 dX1_look_14
