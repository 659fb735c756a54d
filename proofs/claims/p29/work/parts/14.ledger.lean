/-! the ledger: what is asked of it (printed by wip/gen) -/
def L_leastKnots_12 (count : Int32) (length : Int32) (k : Int32 → Int32 → Int32 → Int32) : Nat → Nat → Int32 → Int32 → Int32 → Int32
  | 0, i, power, sum, powers => k power sum powers
  | n + 1, i, power, sum, powers =>
    bd (sum + power) (fun sum_1 =>
      bd (power * (count - (1 : Int32))) (fun power_2 =>
        L_leastKnots_12 count length k n (i + 1) power_2 sum_1 powers))
def P_leastKnots (count : Int32) (length : Int32) : Int32 :=
  bd (length / (2 : Int32)) (fun powers_1 =>
    L_leastKnots_12 count length (fun power sum powers => if (length - length / (2 : Int32) * (2 : Int32)) = (1 : Int32) then (1 : Int32) + (count * sum) else (2 : Int32) * sum) powers_1.toNatClampNeg 0 1 0 powers_1)
abbrev rm_X1_leastKnots : Room := { frames := 0, cells := 0, slots := 0, locals := 0 }
set_option maxHeartbeats 4000000 in
set_option maxRecDepth 100000 in
theorem k_X1_leastKnots (l : Launch) (dC : Nat → ClassId) (dI : Nat → Nat → Nat) (cI cN : ClassId) (count : Int32) (length : Int32) : Met l yX1_leastKnots wsX1_leastKnots rm_X1_leastKnots (va_Pc [.int count, .int length] (kW dC dI cI cN [])) (kR (P_leastKnots count length)) 0 0 (fun _ => False) := by
  refine Met.ofW (cc := cX1_leastKnots) (maxL := 6) (ret := (some .int)) (by decide) rfl ?_
  intro p e s m args below meth c s₁ B hml hv
  obtain ⟨rfl, hP, hK, hD, hN⟩ := hv
  have hx := B.exec
  have hb := B.bytes
  have hr0 := B.returns
  have hts := atoms_spec (ws := wsX1_leastKnots) B.pre
  have hown : s.vm.findClass RX1 = some m.cls := findClass_of_methodNamed B.named
  have hlocks := B.notSynchronized
  have hS : va_S (fun _ => False) s.heap s.heap [] := va_S.rf
  have hl := lv_entry ([.int count, .int length]) (n := 6) (Nat.le_of_ble_eq_true rfl)
  rw [lg_entry_eq]
  generalize (lg_sl ([.int count, .int length]) ++ List.replicate (6 - (lg_sl ([.int count, .int length])).length) Slot.unset).toArray = ls at hl ⊢
  have hl : lv_has ls 6 [(0, .int count), (1, .int length)] := hl
  obtain ⟨ρ, hρ⟩ : ∃ ρ : Int32, ρ = P_leastKnots count length := ⟨_, rfl⟩
  have hr : P_leastKnots count length = ρ := hρ.symm
  rewrite [P_leastKnots] at hr
  refine lv_iconst (v := 1) hx hb dX1_leastKnots_0 (by decide) ?_
  refine lv_istore_n (lv' := [(2, .int 1), (0, .int count), (1, .int length)]) hx hb dX1_leastKnots_1 rfl hl (by decide) rfl (fun ls hl => ?_)
  refine lv_iconst (v := 0) hx hb dX1_leastKnots_2 (by decide) ?_
  refine lv_istore_n (lv' := [(3, .int 0), (2, .int 1), (0, .int count), (1, .int length)]) hx hb dX1_leastKnots_3 rfl hl (by decide) rfl (fun ls hl => ?_)
  refine lv_iload_n hx hb dX1_leastKnots_4 rfl (lv_at hl 3 rfl) ?_
  refine lv_iconst (v := 2) hx hb dX1_leastKnots_5 (by decide) ?_
  refine lv_idiv hx hb dX1_leastKnots_6 (by decide) ?_
  refine lv_topi (fun powers_1 epowers_1 => ?_)
  have hr := bd_to hr epowers_1
  refine lv_istore (lv' := [(4, .int powers_1), (3, .int 0), (2, .int 1), (0, .int count), (1, .int length)]) hx hb dX1_leastKnots_7 hl (by decide) rfl (fun ls hl => ?_)
  refine lv_iconst (v := 0) hx hb dX1_leastKnots_9 (by decide) ?_
  refine lv_istore (lv' := [(5, .int 0), (4, .int powers_1), (3, .int 0), (2, .int 1), (0, .int count), (1, .int length)]) hx hb dX1_leastKnots_10 hl (by decide) rfl (fun ls hl => ?_)
  have ex_12 : ∀ (power : Int32) (sum : Int32) (powers : Int32) (H : Heap) (locs : List Loc) (ls : Array Slot), (if (length - length / (2 : Int32) * (2 : Int32)) = (1 : Int32) then (1 : Int32) + (count * sum) else (2 : Int32) * sum) = ρ → va_P (dC, dI) kCl [] H → va_S (fun _ => False) s.heap H locs → lv_has ls 6 [(2, .int power), (3, .int sum), (4, .int powers), (0, .int count), (1, .int length)] → W p l e (headSpec wsX1_leastKnots rm_X1_leastKnots).room s m (([.int count, .int length] : List Value).toArray) below meth c H locs 0 0 (MQ below (kR (P_leastKnots count length)) (([.int count, .int length] : List Value).toArray) s 0 0 (fun _ => False)) (F0 m 35 ls []) := by
    intro power sum powers H locs ls hr hP hS hl
    refine lv_iload_n hx hb dX1_leastKnots_35 rfl (lv_at hl 4 rfl) ?_
    refine lv_iconst (v := 2) hx hb dX1_leastKnots_36 (by decide) ?_
    refine lv_irem hx hb dX1_leastKnots_37 (by decide) ?_
    refine lv_iconst (v := 1) hx hb dX1_leastKnots_38 (by decide) ?_
    refine lv_icmp_ne (tgt := 50) hx hb dX1_leastKnots_39 (by decide) (fun c_2 => ?_) (fun c_2 => ?_)
    · have hr := if_no hr c_2
      refine lv_iconst (v := 2) hx hb dX1_leastKnots_50 (by decide) ?_
      refine lv_iload_n hx hb dX1_leastKnots_51 rfl (lv_at hl 1 rfl) ?_
      refine lv_imul hx hb dX1_leastKnots_52 ?_
      have he := hr.trans hρ
      exact W.iret (v := (2 : Int32) * sum) hx hb hr0 (fun t ht hW => kR_end he hS ht) hS.2.2 dX1_leastKnots_53
    · have hr := if_to hr c_2
      refine lv_iconst (v := 1) hx hb dX1_leastKnots_42 (by decide) ?_
      refine lv_iload_n hx hb dX1_leastKnots_43 rfl (lv_at hl 3 rfl) ?_
      refine lv_iload_n hx hb dX1_leastKnots_44 rfl (lv_at hl 1 rfl) ?_
      refine lv_imul hx hb dX1_leastKnots_45 ?_
      refine lv_iadd hx hb dX1_leastKnots_46 ?_
      refine lv_goto (tgt := 53) hx hb dX1_leastKnots_47 (by decide) ?_
      have he := hr.trans hρ
      exact W.iret (v := (1 : Int32) + (count * sum)) hx hb hr0 (fun t ht hW => kR_end he hS ht) hS.2.2 dX1_leastKnots_53
  have lp_12 : ∀ (n_12 i : Nat) (power : Int32) (sum : Int32) (powers : Int32) (H : Heap) (locs : List Loc) (ls : Array Slot), i + n_12 = powers.toNatClampNeg → L_leastKnots_12 count length (fun power sum powers => if (length - length / (2 : Int32) * (2 : Int32)) = (1 : Int32) then (1 : Int32) + (count * sum) else (2 : Int32) * sum) n_12 i power sum powers = ρ → va_P (dC, dI) kCl [] H → va_S (fun _ => False) s.heap H locs → lv_has ls 6 [(5, .int (nI i)), (2, .int power), (3, .int sum), (4, .int powers), (0, .int count), (1, .int length)] → W p l e (headSpec wsX1_leastKnots rm_X1_leastKnots).room s m (([.int count, .int length] : List Value).toArray) below meth c H locs 0 0 (MQ below (kR (P_leastKnots count length)) (([.int count, .int length] : List Value).toArray) s 0 0 (fun _ => False)) (F0 m 12 ls []) := by
    intro n_12
    induction n_12 with
    | zero =>
      intro i power sum powers H locs ls hi hr hP hS hl
      rewrite [L_leastKnots_12] at hr
      refine lv_iload hx hb dX1_leastKnots_12 (lv_at hl 0 rfl) ?_
      refine lv_iload hx hb dX1_leastKnots_14 (lv_at hl 3 rfl) ?_
      refine lv_icmp_ge (tgt := 35) hx hb dX1_leastKnots_16 (by decide) (fun c_3 => ?_) (fun c_3 => ?_)
      · exact ex_12 power sum powers _ _ _ hr hP hS (lv_sub hl [1, 2, 3, 4, 5] rfl)
      · exact absurd (kTopC (i := i) (by omega)) c_3
    | succ n_12 ih_12 =>
      intro i power sum powers H locs ls hi hr hP hS hl
      rewrite [L_leastKnots_12] at hr
      refine lv_iload hx hb dX1_leastKnots_12 (lv_at hl 0 rfl) ?_
      refine lv_iload hx hb dX1_leastKnots_14 (lv_at hl 3 rfl) ?_
      refine lv_icmp_ge (tgt := 35) hx hb dX1_leastKnots_16 (by decide) (fun c_4 => ?_) (fun c_4 => ?_)
      · exact absurd c_4 (kLowC (i := i) (by omega))
      · refine lv_iload_n hx hb dX1_leastKnots_19 rfl (lv_at hl 2 rfl) ?_
        refine lv_iload_n hx hb dX1_leastKnots_20 rfl (lv_at hl 1 rfl) ?_
        refine lv_iadd hx hb dX1_leastKnots_21 ?_
        refine lv_topi (fun sum_5 esum_5 => ?_)
        have hr := bd_to hr esum_5
        refine lv_istore_n (lv' := [(3, .int sum_5), (5, .int (nI i)), (2, .int power), (4, .int powers), (0, .int count), (1, .int length)]) hx hb dX1_leastKnots_22 rfl hl (by decide) rfl (fun ls hl => ?_)
        refine lv_iload_n hx hb dX1_leastKnots_23 rfl (lv_at hl 2 rfl) ?_
        refine lv_iload_n hx hb dX1_leastKnots_24 rfl (lv_at hl 4 rfl) ?_
        refine lv_iconst (v := 1) hx hb dX1_leastKnots_25 (by decide) ?_
        refine lv_isub hx hb dX1_leastKnots_26 ?_
        refine lv_imul hx hb dX1_leastKnots_27 ?_
        refine lv_topi (fun power_6 epower_6 => ?_)
        have hr := bd_to hr epower_6
        refine lv_istore_n (lv' := [(2, .int power_6), (3, .int sum_5), (5, .int (nI i)), (4, .int powers), (0, .int count), (1, .int length)]) hx hb dX1_leastKnots_28 rfl hl (by decide) rfl (fun ls hl => ?_)
        refine lv_iinc (v := nI (i + 1)) (lv' := [(5, .int (nI (i + 1))), (2, .int power_6), (3, .int sum_5), (4, .int powers), (0, .int count), (1, .int length)]) hx hb dX1_leastKnots_29 hl (k := 2) rfl (nI_1 _) (by decide) rfl (fun ls hl => ?_)
        refine lv_goto (tgt := 12) hx hb dX1_leastKnots_32 (by decide) ?_
        exact ih_12 (i + 1) power_6 sum_5 powers _ _ _ (by omega) hr hP hS (lv_sub hl [0, 1, 2, 3, 4, 5] rfl)
  exact lp_12 powers_1.toNatClampNeg 0 1 0 powers_1 _ _ _ (by omega) hr hP hS (lv_sub hl [0, 3, 2, 1, 4, 5] rfl)
def P_proofPlace (knots : Int32) (count : Int32) : Int32 :=
  if (P_isWithin knots 0 16) = 0 then
    bd ((knots * (6 : Int32)) + count) (fun place_2 =>
      (-1))
  else
    if (P_isWithin count 2 5) = 0 then
      bd ((knots * (6 : Int32)) + count) (fun place_5 =>
        (-1))
    else
      bd ((knots * (6 : Int32)) + count) (fun place_7 =>
        if place_7 < 0 then
          (-1)
        else
          if (102 : Int32) ≤ place_7 then
            (-1)
          else
            place_7)
abbrev rm_X1_proofPlace : Room := { frames := 1, cells := 0, slots := 0, locals := 22 }
set_option maxHeartbeats 4000000 in
set_option maxRecDepth 100000 in
theorem k_X1_proofPlace (l : Launch) (dC : Nat → ClassId) (dI : Nat → Nat → Nat) (cI cN : ClassId) (q0 : Nat) (q1 : Nat) (q2 : Nat) (g : Nat → Int32) (t : Nat → Int32) (knots : Int32) (count : Int32) : Met l yX1_proofPlace wsX1_proofPlace rm_X1_proofPlace (va_Pc [.ref q0, .int knots, .int count] (kW dC dI cI cN [(q0, .inr (1, [.ref q1, .ref q2])), (q1, .inl (cI, 102, .inl g)), (q2, .inl (cI, 54, .inl t))])) (kR (P_proofPlace knots count)) 0 0 (fun _ => False) := by
  refine Met.ofW (cc := cX1_proofPlace) (maxL := 5) (ret := (some .int)) (by decide) rfl ?_
  intro p e s m args below meth c s₁ B hml hv
  obtain ⟨rfl, hP, hK, hD, hN⟩ := hv
  have hx := B.exec
  have hb := B.bytes
  have hr0 := B.returns
  have hts := atoms_spec (ws := wsX1_proofPlace) B.pre
  have hown : s.vm.findClass RX1 = some m.cls := findClass_of_methodNamed B.named
  have hlocks := B.notSynchronized
  have hS : va_S (fun _ => False) s.heap s.heap [] := va_S.rf
  have hl := lv_entry ([.ref q0, .int knots, .int count]) (n := 5) (Nat.le_of_ble_eq_true rfl)
  rw [lg_entry_eq]
  generalize (lg_sl ([.ref q0, .int knots, .int count]) ++ List.replicate (5 - (lg_sl ([.ref q0, .int knots, .int count])).length) Slot.unset).toArray = ls at hl ⊢
  have hl : lv_has ls 5 [(0, .ref q0), (1, .int knots), (2, .int count)] := hl
  obtain ⟨ρ, hρ⟩ : ∃ ρ : Int32, ρ = P_proofPlace knots count := ⟨_, rfl⟩
  have hr : P_proofPlace knots count = ρ := hρ.symm
  rewrite [P_proofPlace] at hr
  refine lv_iload_n hx hb dX1_proofPlace_0 rfl (lv_at hl 1 rfl) ?_
  refine lv_iconst (v := 0) hx hb dX1_proofPlace_1 (by decide) ?_
  refine lv_bipush (v := 16) hx hb dX1_proofPlace_2 (by decide) ?_
  refine kCall (va_runSN (As := [.int knots, .int 0, .int 16]) (rest := []) ⟨hx, hb, hml, hown, hts⟩ (k_X6_isWithin l dC dI cI cN knots 0 16) ⟨va_cnB 3 hts gX1_proofPlace_X6_isWithin_n26 rfl rfl rfl (hN.1 51 _ rfl) (hts (.initialized RX6) (by decide +kernel)) (by decide +kernel) ⟨Nat.le_of_ble_eq_true rfl, Nat.le_of_ble_eq_true rfl⟩, hts (.static yX6_isWithin) (by decide +kernel), trivial⟩ (kW_S hP hK hD hN [] rfl rfl rfl) rfl rfl hl.1 rfl (lv_room (Nat.le_of_ble_eq_true rfl)) dX1_proofPlace_4 ⟨Nat.zero_le _, Nat.zero_le _⟩) hP hS (fun H locs hP hS => ?_)
  refine lv_if_eq (tgt := 23) hx hb dX1_proofPlace_7 (by decide) (fun c_1 => ?_) (fun c_1 => ?_)
  · have hr := if_to hr c_1
    refine lv_iconst (v := 0) hx hb dX1_proofPlace_23 (by decide) ?_
    refine lv_istore_n (lv' := [(3, .int 0), (0, .ref q0), (1, .int knots), (2, .int count)]) hx hb dX1_proofPlace_24 rfl hl (by decide) rfl (fun ls hl => ?_)
    refine lv_iload_n hx hb dX1_proofPlace_25 rfl (lv_at hl 2 rfl) ?_
    refine lv_bipush (v := 6) hx hb dX1_proofPlace_26 (by decide) ?_
    refine lv_imul hx hb dX1_proofPlace_28 ?_
    refine lv_iload_n hx hb dX1_proofPlace_29 rfl (lv_at hl 3 rfl) ?_
    refine lv_iadd hx hb dX1_proofPlace_30 ?_
    refine lv_topi (fun place_2 eplace_2 => ?_)
    have hr := bd_to hr eplace_2
    refine lv_istore (lv' := [(4, .int place_2), (3, .int 0), (0, .ref q0), (1, .int knots), (2, .int count)]) hx hb dX1_proofPlace_31 hl (by decide) rfl (fun ls hl => ?_)
    refine lv_iload_n hx hb dX1_proofPlace_33 rfl (lv_at hl 1 rfl) ?_
    refine lv_if_eq (tgt := 57) hx hb dX1_proofPlace_34 (by decide) (fun c_3 => ?_) (fun c_3 => ?_)
    · refine lv_iconst (v := (-1)) hx hb dX1_proofPlace_57 (by decide) ?_
      have he := hr.trans hρ
      exact W.iret (v := (-1)) hx hb hr0 (fun t ht hW => kR_end he hS ht) hS.2.2 dX1_proofPlace_58
    · exact absurd c_3 (by decide)
  · have hr := if_no hr c_1
    refine lv_iload_n hx hb dX1_proofPlace_10 rfl (lv_at hl 2 rfl) ?_
    refine lv_iconst (v := 2) hx hb dX1_proofPlace_11 (by decide) ?_
    refine lv_iconst (v := 5) hx hb dX1_proofPlace_12 (by decide) ?_
    refine kCall (va_runSN (As := [.int count, .int 2, .int 5]) (rest := []) ⟨hx, hb, hml, hown, hts⟩ (k_X6_isWithin l dC dI cI cN count 2 5) ⟨va_cnB 3 hts gX1_proofPlace_X6_isWithin_n26 rfl rfl rfl (hN.1 51 _ rfl) (hts (.initialized RX6) (by decide +kernel)) (by decide +kernel) ⟨Nat.le_of_ble_eq_true rfl, Nat.le_of_ble_eq_true rfl⟩, hts (.static yX6_isWithin) (by decide +kernel), trivial⟩ (kW_S hP hK hD hN [] rfl rfl rfl) rfl rfl hl.1 rfl (lv_room (Nat.le_of_ble_eq_true rfl)) dX1_proofPlace_13 ⟨Nat.zero_le _, Nat.zero_le _⟩) hP hS (fun H locs hP hS => ?_)
    refine lv_if_eq (tgt := 23) hx hb dX1_proofPlace_16 (by decide) (fun c_4 => ?_) (fun c_4 => ?_)
    · have hr := if_to hr c_4
      refine lv_iconst (v := 0) hx hb dX1_proofPlace_23 (by decide) ?_
      refine lv_istore_n (lv' := [(3, .int 0), (0, .ref q0), (1, .int knots), (2, .int count)]) hx hb dX1_proofPlace_24 rfl hl (by decide) rfl (fun ls hl => ?_)
      refine lv_iload_n hx hb dX1_proofPlace_25 rfl (lv_at hl 2 rfl) ?_
      refine lv_bipush (v := 6) hx hb dX1_proofPlace_26 (by decide) ?_
      refine lv_imul hx hb dX1_proofPlace_28 ?_
      refine lv_iload_n hx hb dX1_proofPlace_29 rfl (lv_at hl 3 rfl) ?_
      refine lv_iadd hx hb dX1_proofPlace_30 ?_
      refine lv_topi (fun place_5 eplace_5 => ?_)
      have hr := bd_to hr eplace_5
      refine lv_istore (lv' := [(4, .int place_5), (3, .int 0), (0, .ref q0), (1, .int knots), (2, .int count)]) hx hb dX1_proofPlace_31 hl (by decide) rfl (fun ls hl => ?_)
      refine lv_iload_n hx hb dX1_proofPlace_33 rfl (lv_at hl 1 rfl) ?_
      refine lv_if_eq (tgt := 57) hx hb dX1_proofPlace_34 (by decide) (fun c_6 => ?_) (fun c_6 => ?_)
      · refine lv_iconst (v := (-1)) hx hb dX1_proofPlace_57 (by decide) ?_
        have he := hr.trans hρ
        exact W.iret (v := (-1)) hx hb hr0 (fun t ht hW => kR_end he hS ht) hS.2.2 dX1_proofPlace_58
      · exact absurd c_6 (by decide)
    · have hr := if_no hr c_4
      refine lv_iconst (v := 1) hx hb dX1_proofPlace_19 (by decide) ?_
      refine lv_goto (tgt := 24) hx hb dX1_proofPlace_20 (by decide) ?_
      refine lv_istore_n (lv' := [(3, .int 1), (0, .ref q0), (1, .int knots), (2, .int count)]) hx hb dX1_proofPlace_24 rfl hl (by decide) rfl (fun ls hl => ?_)
      refine lv_iload_n hx hb dX1_proofPlace_25 rfl (lv_at hl 2 rfl) ?_
      refine lv_bipush (v := 6) hx hb dX1_proofPlace_26 (by decide) ?_
      refine lv_imul hx hb dX1_proofPlace_28 ?_
      refine lv_iload_n hx hb dX1_proofPlace_29 rfl (lv_at hl 3 rfl) ?_
      refine lv_iadd hx hb dX1_proofPlace_30 ?_
      refine lv_topi (fun place_7 eplace_7 => ?_)
      have hr := bd_to hr eplace_7
      refine lv_istore (lv' := [(4, .int place_7), (3, .int 1), (0, .ref q0), (1, .int knots), (2, .int count)]) hx hb dX1_proofPlace_31 hl (by decide) rfl (fun ls hl => ?_)
      refine lv_iload_n hx hb dX1_proofPlace_33 rfl (lv_at hl 1 rfl) ?_
      refine lv_if_eq (tgt := 57) hx hb dX1_proofPlace_34 (by decide) (fun c_8 => ?_) (fun c_8 => ?_)
      · exact absurd c_8 (by decide)
      · refine lv_iload hx hb dX1_proofPlace_37 (lv_at hl 0 rfl) ?_
        refine lv_if_lt (tgt := 57) hx hb dX1_proofPlace_39 (by decide) (fun c_9 => ?_) (fun c_9 => ?_)
        · have hr := if_to hr c_9
          refine lv_iconst (v := (-1)) hx hb dX1_proofPlace_57 (by decide) ?_
          have he := hr.trans hρ
          exact W.iret (v := (-1)) hx hb hr0 (fun t ht hW => kR_end he hS ht) hS.2.2 dX1_proofPlace_58
        · have hr := if_no hr c_9
          refine lv_iload hx hb dX1_proofPlace_42 (lv_at hl 0 rfl) ?_
          refine lv_aload_n hx hb dX1_proofPlace_44 rfl (lv_at hl 2 rfl) ?_
          refine va_get (D := (dC, dI)) (ci := 1) (v := .ref q1) (C := RX1) (T := TX1) (N := 2) hx hb hts (by decide +kernel) hown hK hP 0 rfl rfl 0 (by decide) (hts (.fieldLink RX1 9 "Shortring$Ledger" "leastProved" "[I") (by decide +kernel)) (fun _ h9 => h9) rfl dX1_proofPlace_45 ?_
          refine va_alen (v := 102) hx hb hK hP 1 0 rfl rfl rfl dX1_proofPlace_48 ?_
          refine lv_icmp_ge (tgt := 57) hx hb dX1_proofPlace_49 (by decide) (fun c_10 => ?_) (fun c_10 => ?_)
          · have hr := if_to hr c_10
            refine lv_iconst (v := (-1)) hx hb dX1_proofPlace_57 (by decide) ?_
            have he := hr.trans hρ
            exact W.iret (v := (-1)) hx hb hr0 (fun t ht hW => kR_end he hS ht) hS.2.2 dX1_proofPlace_58
          · have hr := if_no hr c_10
            refine lv_iload hx hb dX1_proofPlace_52 (lv_at hl 0 rfl) ?_
            refine lv_goto (tgt := 58) hx hb dX1_proofPlace_54 (by decide) ?_
            have he := hr.trans hρ
            exact W.iret (v := place_7) hx hb hr0 (fun t ht hW => kR_end he hS ht) hS.2.2 dX1_proofPlace_58
theorem P_proofPlace_or (knots : Int32) (count : Int32) : ∀ y, P_proofPlace knots count = y → y = -1 ∨ vp_in y 102 := by
  unfold P_proofPlace
  simp only [bd]
  repeat' split
  all_goals (intro y hy; subst hy; first | exact Or.inl rfl | exact Or.inr (kIn (N := 102) (by decide) (by assumption) (by assumption)))
theorem P_proofPlace_in {knots : Int32} {count : Int32} {x : Int32} (e : x = P_proofPlace knots count) (h : ¬ x = -1) : vp_in x 102 := (P_proofPlace_or knots count x e.symm).resolve_left h
def P_isProved (g : Nat → Int32) (knots : Int32) (count : Int32) (length : Int32) : Int32 :=
  bd (P_proofPlace knots count) (fun place_1 =>
    if place_1 = (-1 : Int32) then
      0
    else
      bd (g (place_1).toNatClampNeg) (fun least_3 =>
        if least_3 ≤ 0 then
          0
        else
          if length < least_3 then
            0
          else
            1))
abbrev rm_X1_isProved : Room := { frames := 2, cells := 0, slots := 0, locals := 46 }
set_option maxHeartbeats 4000000 in
set_option maxRecDepth 100000 in
theorem k_X1_isProved (l : Launch) (dC : Nat → ClassId) (dI : Nat → Nat → Nat) (cI cN : ClassId) (q0 : Nat) (q1 : Nat) (q2 : Nat) (g : Nat → Int32) (t : Nat → Int32) (knots : Int32) (count : Int32) (length : Int32) : Met l yX1_isProved wsX1_isProved rm_X1_isProved (va_Pc [.ref q0, .int knots, .int count, .int length] (kW dC dI cI cN [(q0, .inr (1, [.ref q1, .ref q2])), (q1, .inl (cI, 102, .inl g)), (q2, .inl (cI, 54, .inl t))])) (kR (P_isProved g knots count length)) 0 0 (fun _ => False) := by
  refine Met.ofW (cc := cX1_isProved) (maxL := 6) (ret := (some .boolean)) (by decide) rfl ?_
  intro p e s m args below meth c s₁ B hml hv
  obtain ⟨rfl, hP, hK, hD, hN⟩ := hv
  have hx := B.exec
  have hb := B.bytes
  have hr0 := B.returns
  have hts := atoms_spec (ws := wsX1_isProved) B.pre
  have hown : s.vm.findClass RX1 = some m.cls := findClass_of_methodNamed B.named
  have hlocks := B.notSynchronized
  have hS : va_S (fun _ => False) s.heap s.heap [] := va_S.rf
  have hl := lv_entry ([.ref q0, .int knots, .int count, .int length]) (n := 6) (Nat.le_of_ble_eq_true rfl)
  rw [lg_entry_eq]
  generalize (lg_sl ([.ref q0, .int knots, .int count, .int length]) ++ List.replicate (6 - (lg_sl ([.ref q0, .int knots, .int count, .int length])).length) Slot.unset).toArray = ls at hl ⊢
  have hl : lv_has ls 6 [(0, .ref q0), (1, .int knots), (2, .int count), (3, .int length)] := hl
  obtain ⟨ρ, hρ⟩ : ∃ ρ : Int32, ρ = P_isProved g knots count length := ⟨_, rfl⟩
  have hr : P_isProved g knots count length = ρ := hρ.symm
  rewrite [P_isProved] at hr
  refine lv_aload_n hx hb dX1_isProved_0 rfl (lv_at hl 0 rfl) ?_
  refine lv_iload_n hx hb dX1_isProved_1 rfl (lv_at hl 1 rfl) ?_
  refine lv_iload_n hx hb dX1_isProved_2 rfl (lv_at hl 2 rfl) ?_
  refine kCall (va_runV (As := [.int knots, .int count]) (rest := []) ⟨hx, hb, hml, hown, hts⟩ (k_X1_proofPlace l dC dI cI cN q0 q1 q2 g t knots count) (cwV 2 hts gX1_isProved_X1_proofPlace rfl rfl rfl (by decide +kernel) ⟨Nat.le_of_ble_eq_true rfl, Nat.le_of_ble_eq_true rfl⟩) (kW_V hP hK hD hN (ci := 1) (q0 := 0) rfl rfl [0, 1, 2] rfl rfl rfl) rfl rfl hl.1 rfl (lv_room (Nat.le_of_ble_eq_true rfl)) dX1_isProved_3 ⟨Nat.zero_le _, Nat.zero_le _⟩) hP hS (fun H locs hP hS => ?_)
  refine lv_topi (fun place_1 eplace_1 => ?_)
  have hr := bd_to hr eplace_1
  refine lv_istore (lv' := [(4, .int place_1), (0, .ref q0), (1, .int knots), (2, .int count), (3, .int length)]) hx hb dX1_isProved_6 hl (by decide) rfl (fun ls hl => ?_)
  refine lv_iload hx hb dX1_isProved_8 (lv_at hl 0 rfl) ?_
  refine lv_iconst (v := (-1)) hx hb dX1_isProved_10 (by decide) ?_
  refine lv_icmp_ne (tgt := 16) hx hb dX1_isProved_11 (by decide) (fun c_2 => ?_) (fun c_2 => ?_)
  · have hr := if_no hr c_2
    refine lv_aload_n hx hb dX1_isProved_16 rfl (lv_at hl 1 rfl) ?_
    refine va_get (D := (dC, dI)) (ci := 1) (v := .ref q1) (C := RX1) (T := TX1) (N := 2) hx hb hts (by decide +kernel) hown hK hP 0 rfl rfl 0 (by decide) (hts (.fieldLink RX1 9 "Shortring$Ledger" "leastProved" "[I") (by decide +kernel)) (fun _ h9 => h9) rfl dX1_isProved_17 ?_
    refine lv_iload hx hb dX1_isProved_20 (lv_at hl 0 rfl) ?_
    refine va_iald hx hb hK hP 1 0 rfl rfl (P_proofPlace_in (by assumption) (by assumption)) dX1_isProved_22 ?_
    refine lv_topi (fun least_3 eleast_3 => ?_)
    have hr := bd_to hr eleast_3
    refine lv_istore (lv' := [(5, .int least_3), (4, .int place_1), (0, .ref q0), (1, .int knots), (2, .int count), (3, .int length)]) hx hb dX1_isProved_23 hl (by decide) rfl (fun ls hl => ?_)
    refine lv_iload hx hb dX1_isProved_25 (lv_at hl 0 rfl) ?_
    refine lv_if_le (tgt := 40) hx hb dX1_isProved_27 (by decide) (fun c_4 => ?_) (fun c_4 => ?_)
    · have hr := if_to hr c_4
      refine lv_iconst (v := 0) hx hb dX1_isProved_40 (by decide) ?_
      have he := hr.trans hρ
      exact W.zret (v := 0) hx hb hr0 rfl (fun t ht hW => kR_end he hS ht) hS.2.2 dX1_isProved_41
    · have hr := if_no hr c_4
      refine lv_iload hx hb dX1_isProved_30 (lv_at hl 0 rfl) ?_
      refine lv_iload_n hx hb dX1_isProved_32 rfl (lv_at hl 5 rfl) ?_
      refine lv_icmp_gt (tgt := 40) hx hb dX1_isProved_33 (by decide) (fun c_5 => ?_) (fun c_5 => ?_)
      · have hr := if_to hr c_5
        refine lv_iconst (v := 0) hx hb dX1_isProved_40 (by decide) ?_
        have he := hr.trans hρ
        exact W.zret (v := 0) hx hb hr0 rfl (fun t ht hW => kR_end he hS ht) hS.2.2 dX1_isProved_41
      · have hr := if_no hr c_5
        refine lv_iconst (v := 1) hx hb dX1_isProved_36 (by decide) ?_
        refine lv_goto (tgt := 41) hx hb dX1_isProved_37 (by decide) ?_
        have he := hr.trans hρ
        exact W.zret (v := 1) hx hb hr0 rfl (fun t ht hW => kR_end he hS ht) hS.2.2 dX1_isProved_41
  · have hr := if_to hr c_2
    refine lv_iconst (v := 0) hx hb dX1_isProved_14 (by decide) ?_
    have he := hr.trans hρ
    exact W.zret (v := 0) hx hb hr0 rfl (fun t ht hW => kR_end he hS ht) hS.2.2 dX1_isProved_15
theorem P_isProved_b (g : Nat → Int32) (knots count length : Int32) : P_isProved g knots count length = 0 ∨ P_isProved g knots count length = 1 := by
  unfold P_isProved
  simp only [bd]
  repeat' split
  all_goals first | exact Or.inl rfl | exact Or.inr rfl
def P_why (g : Nat → Int32) (knots : Int32) (count : Int32) (length : Int32) : Int32 :=
  if (knots - knots / (2 : Int32) * (2 : Int32)) = (1 : Int32) then
    if (count - count / (2 : Int32) * (2 : Int32)) = (1 : Int32) then
      1
    else
      if (P_leastKnots count length) ≤ knots then
        if (P_isProved g knots count length) = 0 then
          0
        else
          3
      else
        2
  else
    if (P_leastKnots count length) ≤ knots then
      if (P_isProved g knots count length) = 0 then
        0
      else
        3
    else
      2
abbrev rm_X1_why : Room := { frames := 3, cells := 0, slots := 0, locals := 71 }
set_option maxHeartbeats 4000000 in
set_option maxRecDepth 100000 in
theorem k_X1_why (l : Launch) (dC : Nat → ClassId) (dI : Nat → Nat → Nat) (cI cN : ClassId) (q0 : Nat) (q1 : Nat) (q2 : Nat) (g : Nat → Int32) (t : Nat → Int32) (knots : Int32) (count : Int32) (length : Int32) : Met l yX1_why wsX1_why rm_X1_why (va_Pc [.ref q0, .int knots, .int count, .int length] (kW dC dI cI cN [(q0, .inr (1, [.ref q1, .ref q2])), (q1, .inl (cI, 102, .inl g)), (q2, .inl (cI, 54, .inl t))])) (kR (P_why g knots count length)) 0 0 (fun _ => False) := by
  refine Met.ofW (cc := cX1_why) (maxL := 4) (ret := (some .int)) (by decide) rfl ?_
  intro p e s m args below meth c s₁ B hml hv
  obtain ⟨rfl, hP, hK, hD, hN⟩ := hv
  have hx := B.exec
  have hb := B.bytes
  have hr0 := B.returns
  have hts := atoms_spec (ws := wsX1_why) B.pre
  have hown : s.vm.findClass RX1 = some m.cls := findClass_of_methodNamed B.named
  have hlocks := B.notSynchronized
  have hS : va_S (fun _ => False) s.heap s.heap [] := va_S.rf
  have hl := lv_entry ([.ref q0, .int knots, .int count, .int length]) (n := 4) (Nat.le_of_ble_eq_true rfl)
  rw [lg_entry_eq]
  generalize (lg_sl ([.ref q0, .int knots, .int count, .int length]) ++ List.replicate (4 - (lg_sl ([.ref q0, .int knots, .int count, .int length])).length) Slot.unset).toArray = ls at hl ⊢
  have hl : lv_has ls 4 [(0, .ref q0), (1, .int knots), (2, .int count), (3, .int length)] := hl
  obtain ⟨ρ, hρ⟩ : ∃ ρ : Int32, ρ = P_why g knots count length := ⟨_, rfl⟩
  have hr : P_why g knots count length = ρ := hρ.symm
  rewrite [P_why] at hr
  refine lv_iload_n hx hb dX1_why_0 rfl (lv_at hl 1 rfl) ?_
  refine lv_iconst (v := 2) hx hb dX1_why_1 (by decide) ?_
  refine lv_irem hx hb dX1_why_2 (by decide) ?_
  refine lv_iconst (v := 1) hx hb dX1_why_3 (by decide) ?_
  refine lv_icmp_ne (tgt := 16) hx hb dX1_why_4 (by decide) (fun c_1 => ?_) (fun c_1 => ?_)
  · have hr := if_no hr c_1
    refine lv_iload_n hx hb dX1_why_16 rfl (lv_at hl 1 rfl) ?_
    refine lv_iload_n hx hb dX1_why_17 rfl (lv_at hl 2 rfl) ?_
    refine lv_iload_n hx hb dX1_why_18 rfl (lv_at hl 3 rfl) ?_
    refine kCall (va_runS (As := [.int count, .int length]) (rest := [.int knots]) ⟨hx, hb, hml, hown, hts⟩ (k_X1_leastKnots l dC dI cI cN count length) (va_cwS 2 hts gX1_why_X1_leastKnots rfl rfl rfl (by decide +kernel) ⟨Nat.le_of_ble_eq_true rfl, Nat.le_of_ble_eq_true rfl⟩) (kW_S hP hK hD hN [] rfl rfl rfl) rfl rfl hl.1 rfl (lv_room (Nat.le_of_ble_eq_true rfl)) dX1_why_19 ⟨Nat.zero_le _, Nat.zero_le _⟩) hP hS (fun H locs hP hS => ?_)
    refine lv_icmp_ge (tgt := 27) hx hb dX1_why_22 (by decide) (fun c_2 => ?_) (fun c_2 => ?_)
    · have hr := if_to hr c_2
      refine lv_aload_n hx hb dX1_why_27 rfl (lv_at hl 0 rfl) ?_
      refine lv_iload_n hx hb dX1_why_28 rfl (lv_at hl 1 rfl) ?_
      refine lv_iload_n hx hb dX1_why_29 rfl (lv_at hl 2 rfl) ?_
      refine lv_iload_n hx hb dX1_why_30 rfl (lv_at hl 3 rfl) ?_
      refine kCall (va_runV (As := [.int knots, .int count, .int length]) (rest := []) ⟨hx, hb, hml, hown, hts⟩ (k_X1_isProved l dC dI cI cN q0 q1 q2 g t knots count length) (cwV 3 hts gX1_why_X1_isProved rfl rfl rfl (by decide +kernel) ⟨Nat.le_of_ble_eq_true rfl, Nat.le_of_ble_eq_true rfl⟩) (kW_V hP hK hD hN (ci := 1) (q0 := 0) rfl rfl [0, 1, 2] rfl rfl rfl) rfl rfl hl.1 rfl (lv_room (Nat.le_of_ble_eq_true rfl)) dX1_why_31 ⟨Nat.zero_le _, Nat.zero_le _⟩) hP hS (fun H locs hP hS => ?_)
      refine lv_if_eq (tgt := 41) hx hb dX1_why_34 (by decide) (fun c_3 => ?_) (fun c_3 => ?_)
      · have hr := if_to hr c_3
        refine lv_iconst (v := 0) hx hb dX1_why_41 (by decide) ?_
        have he := hr.trans hρ
        exact W.iret (v := 0) hx hb hr0 (fun t ht hW => kR_end he hS ht) hS.2.2 dX1_why_42
      · have hr := if_no hr c_3
        refine lv_iconst (v := 3) hx hb dX1_why_37 (by decide) ?_
        refine lv_goto (tgt := 42) hx hb dX1_why_38 (by decide) ?_
        have he := hr.trans hρ
        exact W.iret (v := 3) hx hb hr0 (fun t ht hW => kR_end he hS ht) hS.2.2 dX1_why_42
    · have hr := if_no hr c_2
      refine lv_iconst (v := 2) hx hb dX1_why_25 (by decide) ?_
      have he := hr.trans hρ
      exact W.iret (v := 2) hx hb hr0 (fun t ht hW => kR_end he hS ht) hS.2.2 dX1_why_26
  · have hr := if_to hr c_1
    refine lv_iload_n hx hb dX1_why_7 rfl (lv_at hl 2 rfl) ?_
    refine lv_iconst (v := 2) hx hb dX1_why_8 (by decide) ?_
    refine lv_irem hx hb dX1_why_9 (by decide) ?_
    refine lv_iconst (v := 1) hx hb dX1_why_10 (by decide) ?_
    refine lv_icmp_ne (tgt := 16) hx hb dX1_why_11 (by decide) (fun c_4 => ?_) (fun c_4 => ?_)
    · have hr := if_no hr c_4
      refine lv_iload_n hx hb dX1_why_16 rfl (lv_at hl 1 rfl) ?_
      refine lv_iload_n hx hb dX1_why_17 rfl (lv_at hl 2 rfl) ?_
      refine lv_iload_n hx hb dX1_why_18 rfl (lv_at hl 3 rfl) ?_
      refine kCall (va_runS (As := [.int count, .int length]) (rest := [.int knots]) ⟨hx, hb, hml, hown, hts⟩ (k_X1_leastKnots l dC dI cI cN count length) (va_cwS 2 hts gX1_why_X1_leastKnots rfl rfl rfl (by decide +kernel) ⟨Nat.le_of_ble_eq_true rfl, Nat.le_of_ble_eq_true rfl⟩) (kW_S hP hK hD hN [] rfl rfl rfl) rfl rfl hl.1 rfl (lv_room (Nat.le_of_ble_eq_true rfl)) dX1_why_19 ⟨Nat.zero_le _, Nat.zero_le _⟩) hP hS (fun H locs hP hS => ?_)
      refine lv_icmp_ge (tgt := 27) hx hb dX1_why_22 (by decide) (fun c_5 => ?_) (fun c_5 => ?_)
      · have hr := if_to hr c_5
        refine lv_aload_n hx hb dX1_why_27 rfl (lv_at hl 0 rfl) ?_
        refine lv_iload_n hx hb dX1_why_28 rfl (lv_at hl 1 rfl) ?_
        refine lv_iload_n hx hb dX1_why_29 rfl (lv_at hl 2 rfl) ?_
        refine lv_iload_n hx hb dX1_why_30 rfl (lv_at hl 3 rfl) ?_
        refine kCall (va_runV (As := [.int knots, .int count, .int length]) (rest := []) ⟨hx, hb, hml, hown, hts⟩ (k_X1_isProved l dC dI cI cN q0 q1 q2 g t knots count length) (cwV 3 hts gX1_why_X1_isProved rfl rfl rfl (by decide +kernel) ⟨Nat.le_of_ble_eq_true rfl, Nat.le_of_ble_eq_true rfl⟩) (kW_V hP hK hD hN (ci := 1) (q0 := 0) rfl rfl [0, 1, 2] rfl rfl rfl) rfl rfl hl.1 rfl (lv_room (Nat.le_of_ble_eq_true rfl)) dX1_why_31 ⟨Nat.zero_le _, Nat.zero_le _⟩) hP hS (fun H locs hP hS => ?_)
        refine lv_if_eq (tgt := 41) hx hb dX1_why_34 (by decide) (fun c_6 => ?_) (fun c_6 => ?_)
        · have hr := if_to hr c_6
          refine lv_iconst (v := 0) hx hb dX1_why_41 (by decide) ?_
          have he := hr.trans hρ
          exact W.iret (v := 0) hx hb hr0 (fun t ht hW => kR_end he hS ht) hS.2.2 dX1_why_42
        · have hr := if_no hr c_6
          refine lv_iconst (v := 3) hx hb dX1_why_37 (by decide) ?_
          refine lv_goto (tgt := 42) hx hb dX1_why_38 (by decide) ?_
          have he := hr.trans hρ
          exact W.iret (v := 3) hx hb hr0 (fun t ht hW => kR_end he hS ht) hS.2.2 dX1_why_42
      · have hr := if_no hr c_5
        refine lv_iconst (v := 2) hx hb dX1_why_25 (by decide) ?_
        have he := hr.trans hρ
        exact W.iret (v := 2) hx hb hr0 (fun t ht hW => kR_end he hS ht) hS.2.2 dX1_why_26
    · have hr := if_to hr c_4
      refine lv_iconst (v := 1) hx hb dX1_why_14 (by decide) ?_
      have he := hr.trans hρ
      exact W.iret (v := 1) hx hb hr0 (fun t ht hW => kR_end he hS ht) hS.2.2 dX1_why_15
def P_tablePlace (count : Int32) (length : Int32) : Int32 :=
  if (P_isWithin count 2 5) = 0 then
    bd ((count * (9 : Int32)) + length) (fun place_2 =>
      (-1))
  else
    if (P_isWithin length 3 8) = 0 then
      bd ((count * (9 : Int32)) + length) (fun place_5 =>
        (-1))
    else
      bd ((count * (9 : Int32)) + length) (fun place_7 =>
        if place_7 < 0 then
          (-1)
        else
          if (54 : Int32) ≤ place_7 then
            (-1)
          else
            place_7)
abbrev rm_X1_tablePlace : Room := { frames := 1, cells := 0, slots := 0, locals := 22 }
set_option maxHeartbeats 4000000 in
set_option maxRecDepth 100000 in
theorem k_X1_tablePlace (l : Launch) (dC : Nat → ClassId) (dI : Nat → Nat → Nat) (cI cN : ClassId) (q0 : Nat) (q1 : Nat) (q2 : Nat) (g : Nat → Int32) (t : Nat → Int32) (count : Int32) (length : Int32) : Met l yX1_tablePlace wsX1_tablePlace rm_X1_tablePlace (va_Pc [.ref q0, .int count, .int length] (kW dC dI cI cN [(q0, .inr (1, [.ref q1, .ref q2])), (q1, .inl (cI, 102, .inl g)), (q2, .inl (cI, 54, .inl t))])) (kR (P_tablePlace count length)) 0 0 (fun _ => False) := by
  refine Met.ofW (cc := cX1_tablePlace) (maxL := 5) (ret := (some .int)) (by decide) rfl ?_
  intro p e s m args below meth c s₁ B hml hv
  obtain ⟨rfl, hP, hK, hD, hN⟩ := hv
  have hx := B.exec
  have hb := B.bytes
  have hr0 := B.returns
  have hts := atoms_spec (ws := wsX1_tablePlace) B.pre
  have hown : s.vm.findClass RX1 = some m.cls := findClass_of_methodNamed B.named
  have hlocks := B.notSynchronized
  have hS : va_S (fun _ => False) s.heap s.heap [] := va_S.rf
  have hl := lv_entry ([.ref q0, .int count, .int length]) (n := 5) (Nat.le_of_ble_eq_true rfl)
  rw [lg_entry_eq]
  generalize (lg_sl ([.ref q0, .int count, .int length]) ++ List.replicate (5 - (lg_sl ([.ref q0, .int count, .int length])).length) Slot.unset).toArray = ls at hl ⊢
  have hl : lv_has ls 5 [(0, .ref q0), (1, .int count), (2, .int length)] := hl
  obtain ⟨ρ, hρ⟩ : ∃ ρ : Int32, ρ = P_tablePlace count length := ⟨_, rfl⟩
  have hr : P_tablePlace count length = ρ := hρ.symm
  rewrite [P_tablePlace] at hr
  refine lv_iload_n hx hb dX1_tablePlace_0 rfl (lv_at hl 1 rfl) ?_
  refine lv_iconst (v := 2) hx hb dX1_tablePlace_1 (by decide) ?_
  refine lv_iconst (v := 5) hx hb dX1_tablePlace_2 (by decide) ?_
  refine kCall (va_runSN (As := [.int count, .int 2, .int 5]) (rest := []) ⟨hx, hb, hml, hown, hts⟩ (k_X6_isWithin l dC dI cI cN count 2 5) ⟨va_cnB 3 hts gX1_tablePlace_X6_isWithin_n26 rfl rfl rfl (hN.1 51 _ rfl) (hts (.initialized RX6) (by decide +kernel)) (by decide +kernel) ⟨Nat.le_of_ble_eq_true rfl, Nat.le_of_ble_eq_true rfl⟩, hts (.static yX6_isWithin) (by decide +kernel), trivial⟩ (kW_S hP hK hD hN [] rfl rfl rfl) rfl rfl hl.1 rfl (lv_room (Nat.le_of_ble_eq_true rfl)) dX1_tablePlace_3 ⟨Nat.zero_le _, Nat.zero_le _⟩) hP hS (fun H locs hP hS => ?_)
  refine lv_if_eq (tgt := 23) hx hb dX1_tablePlace_6 (by decide) (fun c_1 => ?_) (fun c_1 => ?_)
  · have hr := if_to hr c_1
    refine lv_iconst (v := 0) hx hb dX1_tablePlace_23 (by decide) ?_
    refine lv_istore_n (lv' := [(3, .int 0), (0, .ref q0), (1, .int count), (2, .int length)]) hx hb dX1_tablePlace_24 rfl hl (by decide) rfl (fun ls hl => ?_)
    refine lv_iload_n hx hb dX1_tablePlace_25 rfl (lv_at hl 2 rfl) ?_
    refine lv_bipush (v := 9) hx hb dX1_tablePlace_26 (by decide) ?_
    refine lv_imul hx hb dX1_tablePlace_28 ?_
    refine lv_iload_n hx hb dX1_tablePlace_29 rfl (lv_at hl 3 rfl) ?_
    refine lv_iadd hx hb dX1_tablePlace_30 ?_
    refine lv_topi (fun place_2 eplace_2 => ?_)
    have hr := bd_to hr eplace_2
    refine lv_istore (lv' := [(4, .int place_2), (3, .int 0), (0, .ref q0), (1, .int count), (2, .int length)]) hx hb dX1_tablePlace_31 hl (by decide) rfl (fun ls hl => ?_)
    refine lv_iload_n hx hb dX1_tablePlace_33 rfl (lv_at hl 1 rfl) ?_
    refine lv_if_eq (tgt := 57) hx hb dX1_tablePlace_34 (by decide) (fun c_3 => ?_) (fun c_3 => ?_)
    · refine lv_iconst (v := (-1)) hx hb dX1_tablePlace_57 (by decide) ?_
      have he := hr.trans hρ
      exact W.iret (v := (-1)) hx hb hr0 (fun t ht hW => kR_end he hS ht) hS.2.2 dX1_tablePlace_58
    · exact absurd c_3 (by decide)
  · have hr := if_no hr c_1
    refine lv_iload_n hx hb dX1_tablePlace_9 rfl (lv_at hl 2 rfl) ?_
    refine lv_iconst (v := 3) hx hb dX1_tablePlace_10 (by decide) ?_
    refine lv_bipush (v := 8) hx hb dX1_tablePlace_11 (by decide) ?_
    refine kCall (va_runSN (As := [.int length, .int 3, .int 8]) (rest := []) ⟨hx, hb, hml, hown, hts⟩ (k_X6_isWithin l dC dI cI cN length 3 8) ⟨va_cnB 3 hts gX1_tablePlace_X6_isWithin_n26 rfl rfl rfl (hN.1 51 _ rfl) (hts (.initialized RX6) (by decide +kernel)) (by decide +kernel) ⟨Nat.le_of_ble_eq_true rfl, Nat.le_of_ble_eq_true rfl⟩, hts (.static yX6_isWithin) (by decide +kernel), trivial⟩ (kW_S hP hK hD hN [] rfl rfl rfl) rfl rfl hl.1 rfl (lv_room (Nat.le_of_ble_eq_true rfl)) dX1_tablePlace_13 ⟨Nat.zero_le _, Nat.zero_le _⟩) hP hS (fun H locs hP hS => ?_)
    refine lv_if_eq (tgt := 23) hx hb dX1_tablePlace_16 (by decide) (fun c_4 => ?_) (fun c_4 => ?_)
    · have hr := if_to hr c_4
      refine lv_iconst (v := 0) hx hb dX1_tablePlace_23 (by decide) ?_
      refine lv_istore_n (lv' := [(3, .int 0), (0, .ref q0), (1, .int count), (2, .int length)]) hx hb dX1_tablePlace_24 rfl hl (by decide) rfl (fun ls hl => ?_)
      refine lv_iload_n hx hb dX1_tablePlace_25 rfl (lv_at hl 2 rfl) ?_
      refine lv_bipush (v := 9) hx hb dX1_tablePlace_26 (by decide) ?_
      refine lv_imul hx hb dX1_tablePlace_28 ?_
      refine lv_iload_n hx hb dX1_tablePlace_29 rfl (lv_at hl 3 rfl) ?_
      refine lv_iadd hx hb dX1_tablePlace_30 ?_
      refine lv_topi (fun place_5 eplace_5 => ?_)
      have hr := bd_to hr eplace_5
      refine lv_istore (lv' := [(4, .int place_5), (3, .int 0), (0, .ref q0), (1, .int count), (2, .int length)]) hx hb dX1_tablePlace_31 hl (by decide) rfl (fun ls hl => ?_)
      refine lv_iload_n hx hb dX1_tablePlace_33 rfl (lv_at hl 1 rfl) ?_
      refine lv_if_eq (tgt := 57) hx hb dX1_tablePlace_34 (by decide) (fun c_6 => ?_) (fun c_6 => ?_)
      · refine lv_iconst (v := (-1)) hx hb dX1_tablePlace_57 (by decide) ?_
        have he := hr.trans hρ
        exact W.iret (v := (-1)) hx hb hr0 (fun t ht hW => kR_end he hS ht) hS.2.2 dX1_tablePlace_58
      · exact absurd c_6 (by decide)
    · have hr := if_no hr c_4
      refine lv_iconst (v := 1) hx hb dX1_tablePlace_19 (by decide) ?_
      refine lv_goto (tgt := 24) hx hb dX1_tablePlace_20 (by decide) ?_
      refine lv_istore_n (lv' := [(3, .int 1), (0, .ref q0), (1, .int count), (2, .int length)]) hx hb dX1_tablePlace_24 rfl hl (by decide) rfl (fun ls hl => ?_)
      refine lv_iload_n hx hb dX1_tablePlace_25 rfl (lv_at hl 2 rfl) ?_
      refine lv_bipush (v := 9) hx hb dX1_tablePlace_26 (by decide) ?_
      refine lv_imul hx hb dX1_tablePlace_28 ?_
      refine lv_iload_n hx hb dX1_tablePlace_29 rfl (lv_at hl 3 rfl) ?_
      refine lv_iadd hx hb dX1_tablePlace_30 ?_
      refine lv_topi (fun place_7 eplace_7 => ?_)
      have hr := bd_to hr eplace_7
      refine lv_istore (lv' := [(4, .int place_7), (3, .int 1), (0, .ref q0), (1, .int count), (2, .int length)]) hx hb dX1_tablePlace_31 hl (by decide) rfl (fun ls hl => ?_)
      refine lv_iload_n hx hb dX1_tablePlace_33 rfl (lv_at hl 1 rfl) ?_
      refine lv_if_eq (tgt := 57) hx hb dX1_tablePlace_34 (by decide) (fun c_8 => ?_) (fun c_8 => ?_)
      · exact absurd c_8 (by decide)
      · refine lv_iload hx hb dX1_tablePlace_37 (lv_at hl 0 rfl) ?_
        refine lv_if_lt (tgt := 57) hx hb dX1_tablePlace_39 (by decide) (fun c_9 => ?_) (fun c_9 => ?_)
        · have hr := if_to hr c_9
          refine lv_iconst (v := (-1)) hx hb dX1_tablePlace_57 (by decide) ?_
          have he := hr.trans hρ
          exact W.iret (v := (-1)) hx hb hr0 (fun t ht hW => kR_end he hS ht) hS.2.2 dX1_tablePlace_58
        · have hr := if_no hr c_9
          refine lv_iload hx hb dX1_tablePlace_42 (lv_at hl 0 rfl) ?_
          refine lv_aload_n hx hb dX1_tablePlace_44 rfl (lv_at hl 2 rfl) ?_
          refine va_get (D := (dC, dI)) (ci := 1) (v := .ref q2) (C := RX1) (T := TX1) (N := 2) hx hb hts (by decide +kernel) hown hK hP 0 rfl rfl 1 (by decide) (hts (.fieldLink RX1 15 "Shortring$Ledger" "smallest" "[I") (by decide +kernel)) (fun _ h9 => h9) rfl dX1_tablePlace_45 ?_
          refine va_alen (v := 54) hx hb hK hP 2 0 rfl rfl rfl dX1_tablePlace_48 ?_
          refine lv_icmp_ge (tgt := 57) hx hb dX1_tablePlace_49 (by decide) (fun c_10 => ?_) (fun c_10 => ?_)
          · have hr := if_to hr c_10
            refine lv_iconst (v := (-1)) hx hb dX1_tablePlace_57 (by decide) ?_
            have he := hr.trans hρ
            exact W.iret (v := (-1)) hx hb hr0 (fun t ht hW => kR_end he hS ht) hS.2.2 dX1_tablePlace_58
          · have hr := if_no hr c_10
            refine lv_iload hx hb dX1_tablePlace_52 (lv_at hl 0 rfl) ?_
            refine lv_goto (tgt := 58) hx hb dX1_tablePlace_54 (by decide) ?_
            have he := hr.trans hρ
            exact W.iret (v := place_7) hx hb hr0 (fun t ht hW => kR_end he hS ht) hS.2.2 dX1_tablePlace_58
theorem P_tablePlace_or (count : Int32) (length : Int32) : ∀ y, P_tablePlace count length = y → y = -1 ∨ vp_in y 54 := by
  unfold P_tablePlace
  simp only [bd]
  repeat' split
  all_goals (intro y hy; subst hy; first | exact Or.inl rfl | exact Or.inr (kIn (N := 54) (by decide) (by assumption) (by assumption)))
theorem P_tablePlace_in {count : Int32} {length : Int32} {x : Int32} (e : x = P_tablePlace count length) (h : ¬ x = -1) : vp_in x 54 := (P_tablePlace_or count length x e.symm).resolve_left h
def P_smallestOf (t : Nat → Int32) (count : Int32) (length : Int32) : Int32 :=
  bd (P_tablePlace count length) (fun place_1 =>
    if place_1 = (-1 : Int32) then
      (-1)
    else
      if (t (place_1).toNatClampNeg) = 0 then
        (-1)
      else
        t (place_1).toNatClampNeg)
abbrev rm_X1_smallestOf : Room := { frames := 2, cells := 0, slots := 0, locals := 46 }
set_option maxHeartbeats 4000000 in
set_option maxRecDepth 100000 in
theorem k_X1_smallestOf (l : Launch) (dC : Nat → ClassId) (dI : Nat → Nat → Nat) (cI cN : ClassId) (q0 : Nat) (q1 : Nat) (q2 : Nat) (g : Nat → Int32) (t : Nat → Int32) (count : Int32) (length : Int32) : Met l yX1_smallestOf wsX1_smallestOf rm_X1_smallestOf (va_Pc [.ref q0, .int count, .int length] (kW dC dI cI cN [(q0, .inr (1, [.ref q1, .ref q2])), (q1, .inl (cI, 102, .inl g)), (q2, .inl (cI, 54, .inl t))])) (kR (P_smallestOf t count length)) 0 0 (fun _ => False) := by
  refine Met.ofW (cc := cX1_smallestOf) (maxL := 4) (ret := (some .int)) (by decide) rfl ?_
  intro p e s m args below meth c s₁ B hml hv
  obtain ⟨rfl, hP, hK, hD, hN⟩ := hv
  have hx := B.exec
  have hb := B.bytes
  have hr0 := B.returns
  have hts := atoms_spec (ws := wsX1_smallestOf) B.pre
  have hown : s.vm.findClass RX1 = some m.cls := findClass_of_methodNamed B.named
  have hlocks := B.notSynchronized
  have hS : va_S (fun _ => False) s.heap s.heap [] := va_S.rf
  have hl := lv_entry ([.ref q0, .int count, .int length]) (n := 4) (Nat.le_of_ble_eq_true rfl)
  rw [lg_entry_eq]
  generalize (lg_sl ([.ref q0, .int count, .int length]) ++ List.replicate (4 - (lg_sl ([.ref q0, .int count, .int length])).length) Slot.unset).toArray = ls at hl ⊢
  have hl : lv_has ls 4 [(0, .ref q0), (1, .int count), (2, .int length)] := hl
  obtain ⟨ρ, hρ⟩ : ∃ ρ : Int32, ρ = P_smallestOf t count length := ⟨_, rfl⟩
  have hr : P_smallestOf t count length = ρ := hρ.symm
  rewrite [P_smallestOf] at hr
  refine lv_aload_n hx hb dX1_smallestOf_0 rfl (lv_at hl 0 rfl) ?_
  refine lv_iload_n hx hb dX1_smallestOf_1 rfl (lv_at hl 1 rfl) ?_
  refine lv_iload_n hx hb dX1_smallestOf_2 rfl (lv_at hl 2 rfl) ?_
  refine kCall (va_runV (As := [.int count, .int length]) (rest := []) ⟨hx, hb, hml, hown, hts⟩ (k_X1_tablePlace l dC dI cI cN q0 q1 q2 g t count length) (cwV 2 hts gX1_smallestOf_X1_tablePlace rfl rfl rfl (by decide +kernel) ⟨Nat.le_of_ble_eq_true rfl, Nat.le_of_ble_eq_true rfl⟩) (kW_V hP hK hD hN (ci := 1) (q0 := 0) rfl rfl [0, 1, 2] rfl rfl rfl) rfl rfl hl.1 rfl (lv_room (Nat.le_of_ble_eq_true rfl)) dX1_smallestOf_3 ⟨Nat.zero_le _, Nat.zero_le _⟩) hP hS (fun H locs hP hS => ?_)
  refine lv_topi (fun place_1 eplace_1 => ?_)
  have hr := bd_to hr eplace_1
  refine lv_istore_n (lv' := [(3, .int place_1), (0, .ref q0), (1, .int count), (2, .int length)]) hx hb dX1_smallestOf_6 rfl hl (by decide) rfl (fun ls hl => ?_)
  refine lv_iload_n hx hb dX1_smallestOf_7 rfl (lv_at hl 0 rfl) ?_
  refine lv_iconst (v := (-1)) hx hb dX1_smallestOf_8 (by decide) ?_
  refine lv_icmp_eq (tgt := 21) hx hb dX1_smallestOf_9 (by decide) (fun c_2 => ?_) (fun c_2 => ?_)
  · have hr := if_to hr c_2
    refine lv_iconst (v := (-1)) hx hb dX1_smallestOf_21 (by decide) ?_
    refine lv_goto (tgt := 31) hx hb dX1_smallestOf_22 (by decide) ?_
    have he := hr.trans hρ
    exact W.iret (v := (-1)) hx hb hr0 (fun t ht hW => kR_end he hS ht) hS.2.2 dX1_smallestOf_31
  · have hr := if_no hr c_2
    refine lv_aload_n hx hb dX1_smallestOf_12 rfl (lv_at hl 1 rfl) ?_
    refine va_get (D := (dC, dI)) (ci := 1) (v := .ref q2) (C := RX1) (T := TX1) (N := 2) hx hb hts (by decide +kernel) hown hK hP 0 rfl rfl 1 (by decide) (hts (.fieldLink RX1 15 "Shortring$Ledger" "smallest" "[I") (by decide +kernel)) (fun _ h9 => h9) rfl dX1_smallestOf_13 ?_
    refine lv_iload_n hx hb dX1_smallestOf_16 rfl (lv_at hl 0 rfl) ?_
    refine va_iald hx hb hK hP 2 0 rfl rfl (P_tablePlace_in (by assumption) (by assumption)) dX1_smallestOf_17 ?_
    refine lv_if_ne (tgt := 25) hx hb dX1_smallestOf_18 (by decide) (fun c_3 => ?_) (fun c_3 => ?_)
    · have hr := if_no hr c_3
      refine lv_aload_n hx hb dX1_smallestOf_25 rfl (lv_at hl 1 rfl) ?_
      refine va_get (D := (dC, dI)) (ci := 1) (v := .ref q2) (C := RX1) (T := TX1) (N := 2) hx hb hts (by decide +kernel) hown hK hP 0 rfl rfl 1 (by decide) (hts (.fieldLink RX1 15 "Shortring$Ledger" "smallest" "[I") (by decide +kernel)) (fun _ h9 => h9) rfl dX1_smallestOf_26 ?_
      refine lv_iload_n hx hb dX1_smallestOf_29 rfl (lv_at hl 0 rfl) ?_
      refine va_iald hx hb hK hP 2 0 rfl rfl (P_tablePlace_in (by assumption) (by assumption)) dX1_smallestOf_30 ?_
      have he := hr.trans hρ
      exact W.iret (v := t (place_1).toNatClampNeg) hx hb hr0 (fun t ht hW => kR_end he hS ht) hS.2.2 dX1_smallestOf_31
    · have hr := if_to hr c_3
      refine lv_iconst (v := (-1)) hx hb dX1_smallestOf_21 (by decide) ?_
      refine lv_goto (tgt := 31) hx hb dX1_smallestOf_22 (by decide) ?_
      have he := hr.trans hρ
      exact W.iret (v := (-1)) hx hb hr0 (fun t ht hW => kR_end he hS ht) hS.2.2 dX1_smallestOf_31
def L_nextOf_2 (g : Nat → Int32) (count : Int32) (length : Int32) (k : Int32) : Nat → Nat → Int32
  | 0, knots => k
  | n + 1, knots =>
    if (P_why g (nI knots) count length) = 0 then
      nI knots
    else
      L_nextOf_2 g count length k n (knots + 1)
def P_nextOf (g : Nat → Int32) (count : Int32) (length : Int32) : Int32 :=
  L_nextOf_2 g count length ((-1)) (1000 - 3) 3
abbrev rm_X1_nextOf : Room := { frames := 4, cells := 0, slots := 0, locals := 94 }
set_option maxHeartbeats 4000000 in
set_option maxRecDepth 100000 in
theorem k_X1_nextOf (l : Launch) (dC : Nat → ClassId) (dI : Nat → Nat → Nat) (cI cN : ClassId) (q0 : Nat) (q1 : Nat) (q2 : Nat) (g : Nat → Int32) (t : Nat → Int32) (count : Int32) (length : Int32) : Met l yX1_nextOf wsX1_nextOf rm_X1_nextOf (va_Pc [.ref q0, .int count, .int length] (kW dC dI cI cN [(q0, .inr (1, [.ref q1, .ref q2])), (q1, .inl (cI, 102, .inl g)), (q2, .inl (cI, 54, .inl t))])) (kR (P_nextOf g count length)) 0 0 (fun _ => False) := by
  refine Met.ofW (cc := cX1_nextOf) (maxL := 4) (ret := (some .int)) (by decide) rfl ?_
  intro p e s m args below meth c s₁ B hml hv
  obtain ⟨rfl, hP, hK, hD, hN⟩ := hv
  have hx := B.exec
  have hb := B.bytes
  have hr0 := B.returns
  have hts := atoms_spec (ws := wsX1_nextOf) B.pre
  have hown : s.vm.findClass RX1 = some m.cls := findClass_of_methodNamed B.named
  have hlocks := B.notSynchronized
  have hS : va_S (fun _ => False) s.heap s.heap [] := va_S.rf
  have hl := lv_entry ([.ref q0, .int count, .int length]) (n := 4) (Nat.le_of_ble_eq_true rfl)
  rw [lg_entry_eq]
  generalize (lg_sl ([.ref q0, .int count, .int length]) ++ List.replicate (4 - (lg_sl ([.ref q0, .int count, .int length])).length) Slot.unset).toArray = ls at hl ⊢
  have hl : lv_has ls 4 [(0, .ref q0), (1, .int count), (2, .int length)] := hl
  obtain ⟨ρ, hρ⟩ : ∃ ρ : Int32, ρ = P_nextOf g count length := ⟨_, rfl⟩
  have hr : P_nextOf g count length = ρ := hρ.symm
  rewrite [P_nextOf] at hr
  refine lv_iconst (v := 3) hx hb dX1_nextOf_0 (by decide) ?_
  refine lv_istore_n (lv' := [(3, .int 3), (0, .ref q0), (1, .int count), (2, .int length)]) hx hb dX1_nextOf_1 rfl hl (by decide) rfl (fun ls hl => ?_)
  have ex_2 : ∀  (H : Heap) (locs : List Loc) (ls : Array Slot), ((-1)) = ρ → va_P (dC, dI) kCl [(q0, .inr (1, [.ref q1, .ref q2])), (q1, .inl (cI, 102, .inl g)), (q2, .inl (cI, 54, .inl t))] H → va_S (fun _ => False) s.heap H locs → lv_has ls 4 [(0, .ref q0), (1, .int count), (2, .int length)] → W p l e (headSpec wsX1_nextOf rm_X1_nextOf).room s m (([.ref q0, .int count, .int length] : List Value).toArray) below meth c H locs 0 0 (MQ below (kR (P_nextOf g count length)) (([.ref q0, .int count, .int length] : List Value).toArray) s 0 0 (fun _ => False)) (F0 m 27 ls []) := by
    intro  H locs ls hr hP hS hl
    refine lv_iconst (v := (-1)) hx hb dX1_nextOf_27 (by decide) ?_
    have he := hr.trans hρ
    exact W.iret (v := (-1)) hx hb hr0 (fun t ht hW => kR_end he hS ht) hS.2.2 dX1_nextOf_28
  have lp_2 : ∀ (n_2 knots : Nat)  (H : Heap) (locs : List Loc) (ls : Array Slot), knots + n_2 = 1000 → L_nextOf_2 g count length ((-1)) n_2 knots = ρ → va_P (dC, dI) kCl [(q0, .inr (1, [.ref q1, .ref q2])), (q1, .inl (cI, 102, .inl g)), (q2, .inl (cI, 54, .inl t))] H → va_S (fun _ => False) s.heap H locs → lv_has ls 4 [(3, .int (nI knots)), (0, .ref q0), (1, .int count), (2, .int length)] → W p l e (headSpec wsX1_nextOf rm_X1_nextOf).room s m (([.ref q0, .int count, .int length] : List Value).toArray) below meth c H locs 0 0 (MQ below (kR (P_nextOf g count length)) (([.ref q0, .int count, .int length] : List Value).toArray) s 0 0 (fun _ => False)) (F0 m 2 ls []) := by
    intro n_2
    induction n_2 with
    | zero =>
      intro knots  H locs ls hi hr hP hS hl
      rewrite [L_nextOf_2] at hr
      refine lv_iload_n hx hb dX1_nextOf_2 rfl (lv_at hl 0 rfl) ?_
      refine lv_sipush (v := 999) hx hb dX1_nextOf_3 (by decide) ?_
      refine lv_icmp_gt (tgt := 27) hx hb dX1_nextOf_6 (by decide) (fun c_1 => ?_) (fun c_1 => ?_)
      · exact ex_2  _ _ _ hr hP hS (lv_sub hl [1, 2, 3] rfl)
      · exact absurd (kTopG (i := knots) (N := 1000) rfl (by omega) (by omega)) c_1
    | succ n_2 ih_2 =>
      intro knots  H locs ls hi hr hP hS hl
      rewrite [L_nextOf_2] at hr
      refine lv_iload_n hx hb dX1_nextOf_2 rfl (lv_at hl 0 rfl) ?_
      refine lv_sipush (v := 999) hx hb dX1_nextOf_3 (by decide) ?_
      refine lv_icmp_gt (tgt := 27) hx hb dX1_nextOf_6 (by decide) (fun c_2 => ?_) (fun c_2 => ?_)
      · exact absurd c_2 (kLowG (i := knots) (N := 1000) rfl (by omega) (by omega))
      · refine lv_aload_n hx hb dX1_nextOf_9 rfl (lv_at hl 1 rfl) ?_
        refine lv_iload_n hx hb dX1_nextOf_10 rfl (lv_at hl 0 rfl) ?_
        refine lv_iload_n hx hb dX1_nextOf_11 rfl (lv_at hl 2 rfl) ?_
        refine lv_iload_n hx hb dX1_nextOf_12 rfl (lv_at hl 3 rfl) ?_
        refine kCall (va_runV (As := [.int (nI knots), .int count, .int length]) (rest := []) ⟨hx, hb, hml, hown, hts⟩ (k_X1_why l dC dI cI cN q0 q1 q2 g t (nI knots) count length) (cwV 3 hts gX1_nextOf_X1_why rfl rfl rfl (by decide +kernel) ⟨Nat.le_of_ble_eq_true rfl, Nat.le_of_ble_eq_true rfl⟩) (kW_V hP hK hD hN (ci := 1) (q0 := 0) rfl rfl [0, 1, 2] rfl rfl rfl) rfl rfl hl.1 rfl (lv_room (Nat.le_of_ble_eq_true rfl)) dX1_nextOf_13 ⟨Nat.zero_le _, Nat.zero_le _⟩) hP hS (fun H locs hP hS => ?_)
        refine lv_if_ne (tgt := 21) hx hb dX1_nextOf_16 (by decide) (fun c_3 => ?_) (fun c_3 => ?_)
        · have hr := if_no hr c_3
          refine lv_iinc (v := nI (knots + 1)) (lv' := [(3, .int (nI (knots + 1))), (0, .ref q0), (1, .int count), (2, .int length)]) hx hb dX1_nextOf_21 hl (k := 0) rfl (nI_1 _) (by decide) rfl (fun ls hl => ?_)
          refine lv_goto (tgt := 2) hx hb dX1_nextOf_24 (by decide) ?_
          exact ih_2 (knots + 1)  _ _ _ (by omega) hr hP hS (lv_sub hl [0, 1, 2, 3] rfl)
        · have hr := if_to hr c_3
          refine lv_iload_n hx hb dX1_nextOf_19 rfl (lv_at hl 0 rfl) ?_
          have he := hr.trans hρ
          exact W.iret (v := nI knots) hx hb hr0 (fun t ht hW => kR_end he hS ht) hS.2.2 dX1_nextOf_20
  exact lp_2 (1000 - 3) 3  _ _ _ (by omega) hr hP hS (lv_sub hl [0, 1, 2, 3] rfl)
def L_isTableSound_9 (g : Nat → Int32) (t : Nat → Int32) (count : Nat) (k : Int32) : Nat → Nat → Int32
  | 0, length => k
  | n + 1, length =>
    bd (P_smallestOf t (nI count) (nI length)) (fun knots_1 =>
      if knots_1 = (-1 : Int32) then
        L_isTableSound_9 g t count k n (length + 1)
      else
        if (P_why g knots_1 (nI count) (nI length)) = 0 then
          if (P_nextOf g (nI count) (nI length)) ≤ knots_1 then
            L_isTableSound_9 g t count k n (length + 1)
          else
            0
        else
          0)
def L_isTableSound_2 (g : Nat → Int32) (t : Nat → Int32) (k : Int32) : Nat → Nat → Int32
  | 0, count => k
  | n + 1, count =>
    L_isTableSound_9 g t count (L_isTableSound_2 g t k n (count + 1)) (9 - 3) 3
def P_isTableSound (g : Nat → Int32) (t : Nat → Int32) : Int32 :=
  L_isTableSound_2 g t (1) (6 - 2) 2
abbrev rm_X1_isTableSound : Room := { frames := 5, cells := 0, slots := 0, locals := 117 }
set_option maxHeartbeats 4000000 in
set_option maxRecDepth 100000 in
theorem k_X1_isTableSound (l : Launch) (dC : Nat → ClassId) (dI : Nat → Nat → Nat) (cI cN : ClassId) (q0 : Nat) (q1 : Nat) (q2 : Nat) (g : Nat → Int32) (t : Nat → Int32) : Met l yX1_isTableSound wsX1_isTableSound rm_X1_isTableSound (va_Pc [.ref q0] (kW dC dI cI cN [(q0, .inr (1, [.ref q1, .ref q2])), (q1, .inl (cI, 102, .inl g)), (q2, .inl (cI, 54, .inl t))])) (kR (P_isTableSound g t)) 0 0 (fun _ => False) := by
  refine Met.ofW (cc := cX1_isTableSound) (maxL := 5) (ret := (some .boolean)) (by decide) rfl ?_
  intro p e s m args below meth c s₁ B hml hv
  obtain ⟨rfl, hP, hK, hD, hN⟩ := hv
  have hx := B.exec
  have hb := B.bytes
  have hr0 := B.returns
  have hts := atoms_spec (ws := wsX1_isTableSound) B.pre
  have hown : s.vm.findClass RX1 = some m.cls := findClass_of_methodNamed B.named
  have hlocks := B.notSynchronized
  have hS : va_S (fun _ => False) s.heap s.heap [] := va_S.rf
  have hl := lv_entry ([.ref q0]) (n := 5) (Nat.le_of_ble_eq_true rfl)
  rw [lg_entry_eq]
  generalize (lg_sl ([.ref q0]) ++ List.replicate (5 - (lg_sl ([.ref q0])).length) Slot.unset).toArray = ls at hl ⊢
  have hl : lv_has ls 5 [(0, .ref q0)] := hl
  obtain ⟨ρ, hρ⟩ : ∃ ρ : Int32, ρ = P_isTableSound g t := ⟨_, rfl⟩
  have hr : P_isTableSound g t = ρ := hρ.symm
  rewrite [P_isTableSound] at hr
  refine lv_iconst (v := 2) hx hb dX1_isTableSound_0 (by decide) ?_
  refine lv_istore_n (lv' := [(1, .int 2), (0, .ref q0)]) hx hb dX1_isTableSound_1 rfl hl (by decide) rfl (fun ls hl => ?_)
  have ex_2 : ∀  (H : Heap) (locs : List Loc) (ls : Array Slot), (1) = ρ → va_P (dC, dI) kCl [(q0, .inr (1, [.ref q1, .ref q2])), (q1, .inl (cI, 102, .inl g)), (q2, .inl (cI, 54, .inl t))] H → va_S (fun _ => False) s.heap H locs → lv_has ls 5 [(0, .ref q0)] → W p l e (headSpec wsX1_isTableSound rm_X1_isTableSound).room s m (([.ref q0] : List Value).toArray) below meth c H locs 0 0 (MQ below (kR (P_isTableSound g t)) (([.ref q0] : List Value).toArray) s 0 0 (fun _ => False)) (F0 m 73 ls []) := by
    intro  H locs ls hr hP hS hl
    refine lv_iconst (v := 1) hx hb dX1_isTableSound_73 (by decide) ?_
    have he := hr.trans hρ
    exact W.zret (v := 1) hx hb hr0 rfl (fun t ht hW => kR_end he hS ht) hS.2.2 dX1_isTableSound_74
  have lp_2 : ∀ (n_2 count : Nat)  (H : Heap) (locs : List Loc) (ls : Array Slot), count + n_2 = 6 → L_isTableSound_2 g t (1) n_2 count = ρ → va_P (dC, dI) kCl [(q0, .inr (1, [.ref q1, .ref q2])), (q1, .inl (cI, 102, .inl g)), (q2, .inl (cI, 54, .inl t))] H → va_S (fun _ => False) s.heap H locs → lv_has ls 5 [(1, .int (nI count)), (0, .ref q0)] → W p l e (headSpec wsX1_isTableSound rm_X1_isTableSound).room s m (([.ref q0] : List Value).toArray) below meth c H locs 0 0 (MQ below (kR (P_isTableSound g t)) (([.ref q0] : List Value).toArray) s 0 0 (fun _ => False)) (F0 m 2 ls []) := by
    intro n_2
    induction n_2 with
    | zero =>
      intro count  H locs ls hi hr hP hS hl
      rewrite [L_isTableSound_2] at hr
      refine lv_iload_n hx hb dX1_isTableSound_2 rfl (lv_at hl 0 rfl) ?_
      refine lv_iconst (v := 5) hx hb dX1_isTableSound_3 (by decide) ?_
      refine lv_icmp_gt (tgt := 73) hx hb dX1_isTableSound_4 (by decide) (fun c_1 => ?_) (fun c_1 => ?_)
      · exact ex_2  _ _ _ hr hP hS (lv_sub hl [1] rfl)
      · exact absurd (kTopG (i := count) (N := 6) rfl (by omega) (by omega)) c_1
    | succ n_2 ih_2 =>
      intro count  H locs ls hi hr hP hS hl
      rewrite [L_isTableSound_2] at hr
      refine lv_iload_n hx hb dX1_isTableSound_2 rfl (lv_at hl 0 rfl) ?_
      refine lv_iconst (v := 5) hx hb dX1_isTableSound_3 (by decide) ?_
      refine lv_icmp_gt (tgt := 73) hx hb dX1_isTableSound_4 (by decide) (fun c_2 => ?_) (fun c_2 => ?_)
      · exact absurd c_2 (kLowG (i := count) (N := 6) rfl (by omega) (by omega))
      · refine lv_iconst (v := 3) hx hb dX1_isTableSound_7 (by decide) ?_
        refine lv_istore_n (lv' := [(2, .int 3), (1, .int (nI count)), (0, .ref q0)]) hx hb dX1_isTableSound_8 rfl hl (by decide) rfl (fun ls hl => ?_)
        have ex_9 : ∀  (H : Heap) (locs : List Loc) (ls : Array Slot), (L_isTableSound_2 g t (1) n_2 (count + 1)) = ρ → va_P (dC, dI) kCl [(q0, .inr (1, [.ref q1, .ref q2])), (q1, .inl (cI, 102, .inl g)), (q2, .inl (cI, 54, .inl t))] H → va_S (fun _ => False) s.heap H locs → lv_has ls 5 [(0, .ref q0), (1, .int (nI count))] → W p l e (headSpec wsX1_isTableSound rm_X1_isTableSound).room s m (([.ref q0] : List Value).toArray) below meth c H locs 0 0 (MQ below (kR (P_isTableSound g t)) (([.ref q0] : List Value).toArray) s 0 0 (fun _ => False)) (F0 m 67 ls []) := by
          intro  H locs ls hr hP hS hl
          refine lv_iinc (v := nI (count + 1)) (lv' := [(1, .int (nI (count + 1))), (0, .ref q0)]) hx hb dX1_isTableSound_67 hl (k := 1) rfl (nI_1 _) (by decide) rfl (fun ls hl => ?_)
          refine lv_goto (tgt := 2) hx hb dX1_isTableSound_70 (by decide) ?_
          exact ih_2 (count + 1)  _ _ _ (by omega) hr hP hS (lv_sub hl [0, 1] rfl)
        have lp_9 : ∀ (n_9 length : Nat)  (H : Heap) (locs : List Loc) (ls : Array Slot), length + n_9 = 9 → L_isTableSound_9 g t count (L_isTableSound_2 g t (1) n_2 (count + 1)) n_9 length = ρ → va_P (dC, dI) kCl [(q0, .inr (1, [.ref q1, .ref q2])), (q1, .inl (cI, 102, .inl g)), (q2, .inl (cI, 54, .inl t))] H → va_S (fun _ => False) s.heap H locs → lv_has ls 5 [(2, .int (nI length)), (0, .ref q0), (1, .int (nI count))] → W p l e (headSpec wsX1_isTableSound rm_X1_isTableSound).room s m (([.ref q0] : List Value).toArray) below meth c H locs 0 0 (MQ below (kR (P_isTableSound g t)) (([.ref q0] : List Value).toArray) s 0 0 (fun _ => False)) (F0 m 9 ls []) := by
          intro n_9
          induction n_9 with
          | zero =>
            intro length  H locs ls hi hr hP hS hl
            rewrite [L_isTableSound_9] at hr
            refine lv_iload_n hx hb dX1_isTableSound_9 rfl (lv_at hl 0 rfl) ?_
            refine lv_bipush (v := 8) hx hb dX1_isTableSound_10 (by decide) ?_
            refine lv_icmp_gt (tgt := 67) hx hb dX1_isTableSound_12 (by decide) (fun c_3 => ?_) (fun c_3 => ?_)
            · exact ex_9  _ _ _ hr hP hS (lv_sub hl [1, 2] rfl)
            · exact absurd (kTopG (i := length) (N := 9) rfl (by omega) (by omega)) c_3
          | succ n_9 ih_9 =>
            intro length  H locs ls hi hr hP hS hl
            rewrite [L_isTableSound_9] at hr
            refine lv_iload_n hx hb dX1_isTableSound_9 rfl (lv_at hl 0 rfl) ?_
            refine lv_bipush (v := 8) hx hb dX1_isTableSound_10 (by decide) ?_
            refine lv_icmp_gt (tgt := 67) hx hb dX1_isTableSound_12 (by decide) (fun c_4 => ?_) (fun c_4 => ?_)
            · exact absurd c_4 (kLowG (i := length) (N := 9) rfl (by omega) (by omega))
            · refine lv_aload_n hx hb dX1_isTableSound_15 rfl (lv_at hl 1 rfl) ?_
              refine lv_iload_n hx hb dX1_isTableSound_16 rfl (lv_at hl 2 rfl) ?_
              refine lv_iload_n hx hb dX1_isTableSound_17 rfl (lv_at hl 0 rfl) ?_
              refine kCall (va_runV (As := [.int (nI count), .int (nI length)]) (rest := []) ⟨hx, hb, hml, hown, hts⟩ (k_X1_smallestOf l dC dI cI cN q0 q1 q2 g t (nI count) (nI length)) (cwV 2 hts gX1_isTableSound_X1_smallestOf rfl rfl rfl (by decide +kernel) ⟨Nat.le_of_ble_eq_true rfl, Nat.le_of_ble_eq_true rfl⟩) (kW_V hP hK hD hN (ci := 1) (q0 := 0) rfl rfl [0, 1, 2] rfl rfl rfl) rfl rfl hl.1 rfl (lv_room (Nat.le_of_ble_eq_true rfl)) dX1_isTableSound_18 ⟨Nat.zero_le _, Nat.zero_le _⟩) hP hS (fun H locs hP hS => ?_)
              refine lv_topi (fun knots_5 eknots_5 => ?_)
              have hr := bd_to hr eknots_5
              refine lv_istore_n (lv' := [(3, .int knots_5), (2, .int (nI length)), (0, .ref q0), (1, .int (nI count))]) hx hb dX1_isTableSound_21 rfl hl (by decide) rfl (fun ls hl => ?_)
              refine lv_iload_n hx hb dX1_isTableSound_22 rfl (lv_at hl 0 rfl) ?_
              refine lv_iconst (v := (-1)) hx hb dX1_isTableSound_23 (by decide) ?_
              refine lv_icmp_eq (tgt := 31) hx hb dX1_isTableSound_24 (by decide) (fun c_6 => ?_) (fun c_6 => ?_)
              · have hr := if_to hr c_6
                refine lv_iconst (v := 0) hx hb dX1_isTableSound_31 (by decide) ?_
                refine lv_istore (lv' := [(4, .int 0), (3, .int knots_5), (2, .int (nI length)), (0, .ref q0), (1, .int (nI count))]) hx hb dX1_isTableSound_32 hl (by decide) rfl (fun ls hl => ?_)
                refine lv_iload hx hb dX1_isTableSound_34 (lv_at hl 0 rfl) ?_
                refine lv_if_eq (tgt := 61) hx hb dX1_isTableSound_36 (by decide) (fun c_7 => ?_) (fun c_7 => ?_)
                · refine lv_iinc (v := nI (length + 1)) (lv' := [(2, .int (nI (length + 1))), (4, .int 0), (3, .int knots_5), (0, .ref q0), (1, .int (nI count))]) hx hb dX1_isTableSound_61 hl (k := 2) rfl (nI_1 _) (by decide) rfl (fun ls hl => ?_)
                  refine lv_goto (tgt := 9) hx hb dX1_isTableSound_64 (by decide) ?_
                  exact ih_9 (length + 1)  _ _ _ (by omega) hr hP hS (lv_sub hl [0, 3, 4] rfl)
                · exact absurd c_7 (by decide)
              · have hr := if_no hr c_6
                refine lv_iconst (v := 1) hx hb dX1_isTableSound_27 (by decide) ?_
                refine lv_goto (tgt := 32) hx hb dX1_isTableSound_28 (by decide) ?_
                refine lv_istore (lv' := [(4, .int 1), (3, .int knots_5), (2, .int (nI length)), (0, .ref q0), (1, .int (nI count))]) hx hb dX1_isTableSound_32 hl (by decide) rfl (fun ls hl => ?_)
                refine lv_iload hx hb dX1_isTableSound_34 (lv_at hl 0 rfl) ?_
                refine lv_if_eq (tgt := 61) hx hb dX1_isTableSound_36 (by decide) (fun c_8 => ?_) (fun c_8 => ?_)
                · exact absurd c_8 (by decide)
                · refine lv_aload_n hx hb dX1_isTableSound_39 rfl (lv_at hl 3 rfl) ?_
                  refine lv_iload_n hx hb dX1_isTableSound_40 rfl (lv_at hl 1 rfl) ?_
                  refine lv_iload_n hx hb dX1_isTableSound_41 rfl (lv_at hl 4 rfl) ?_
                  refine lv_iload_n hx hb dX1_isTableSound_42 rfl (lv_at hl 2 rfl) ?_
                  refine kCall (va_runV (As := [.int knots_5, .int (nI count), .int (nI length)]) (rest := []) ⟨hx, hb, hml, hown, hts⟩ (k_X1_why l dC dI cI cN q0 q1 q2 g t knots_5 (nI count) (nI length)) (cwV 3 hts gX1_isTableSound_X1_why rfl rfl rfl (by decide +kernel) ⟨Nat.le_of_ble_eq_true rfl, Nat.le_of_ble_eq_true rfl⟩) (kW_V hP hK hD hN (ci := 1) (q0 := 0) rfl rfl [0, 1, 2] rfl rfl rfl) rfl rfl hl.1 rfl (lv_room (Nat.le_of_ble_eq_true rfl)) dX1_isTableSound_43 ⟨Nat.zero_le _, Nat.zero_le _⟩) hP hS (fun H locs hP hS => ?_)
                  refine lv_if_ne (tgt := 59) hx hb dX1_isTableSound_46 (by decide) (fun c_9 => ?_) (fun c_9 => ?_)
                  · have hr := if_no hr c_9
                    refine lv_iconst (v := 0) hx hb dX1_isTableSound_59 (by decide) ?_
                    have he := hr.trans hρ
                    exact W.zret (v := 0) hx hb hr0 rfl (fun t ht hW => kR_end he hS ht) hS.2.2 dX1_isTableSound_60
                  · have hr := if_to hr c_9
                    refine lv_iload_n hx hb dX1_isTableSound_49 rfl (lv_at hl 1 rfl) ?_
                    refine lv_aload_n hx hb dX1_isTableSound_50 rfl (lv_at hl 3 rfl) ?_
                    refine lv_iload_n hx hb dX1_isTableSound_51 rfl (lv_at hl 4 rfl) ?_
                    refine lv_iload_n hx hb dX1_isTableSound_52 rfl (lv_at hl 2 rfl) ?_
                    refine kCall (va_runV (As := [.int (nI count), .int (nI length)]) (rest := [.int knots_5]) ⟨hx, hb, hml, hown, hts⟩ (k_X1_nextOf l dC dI cI cN q0 q1 q2 g t (nI count) (nI length)) (cwV 2 hts gX1_isTableSound_X1_nextOf rfl rfl rfl (by decide +kernel) ⟨Nat.le_of_ble_eq_true rfl, Nat.le_of_ble_eq_true rfl⟩) (kW_V hP hK hD hN (ci := 1) (q0 := 0) rfl rfl [0, 1, 2] rfl rfl rfl) rfl rfl hl.1 rfl (lv_room (Nat.le_of_ble_eq_true rfl)) dX1_isTableSound_53 ⟨Nat.zero_le _, Nat.zero_le _⟩) hP hS (fun H locs hP hS => ?_)
                    refine lv_icmp_ge (tgt := 61) hx hb dX1_isTableSound_56 (by decide) (fun c_10 => ?_) (fun c_10 => ?_)
                    · have hr := if_to hr c_10
                      refine lv_iinc (v := nI (length + 1)) (lv' := [(2, .int (nI (length + 1))), (4, .int 1), (3, .int knots_5), (0, .ref q0), (1, .int (nI count))]) hx hb dX1_isTableSound_61 hl (k := 2) rfl (nI_1 _) (by decide) rfl (fun ls hl => ?_)
                      refine lv_goto (tgt := 9) hx hb dX1_isTableSound_64 (by decide) ?_
                      exact ih_9 (length + 1)  _ _ _ (by omega) hr hP hS (lv_sub hl [0, 3, 4] rfl)
                    · have hr := if_no hr c_10
                      refine lv_iconst (v := 0) hx hb dX1_isTableSound_59 (by decide) ?_
                      have he := hr.trans hρ
                      exact W.zret (v := 0) hx hb hr0 rfl (fun t ht hW => kR_end he hS ht) hS.2.2 dX1_isTableSound_60
        exact lp_9 (9 - 3) 3  _ _ _ (by omega) hr hP hS (lv_sub hl [0, 2, 1] rfl)
  exact lp_2 (6 - 2) 2  _ _ _ (by omega) hr hP hS (lv_sub hl [0, 1] rfl)
