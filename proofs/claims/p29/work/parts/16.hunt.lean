/-! the hunt: what is asked of it (printed by wip/gen) -/
def L_needy_4 (K : Nat) (f : Nat → Int32) (cnt : Int32) (k : Int32 → Int32) : Nat → Nat → Int32 → Int32
  | 0, i, set => k set
  | n + 1, i, set =>
    if cnt ≤ (P_countOf f (nI i)) then
      L_needy_4 K f cnt k n (i + 1) set
    else
      bd (set ||| (P_bit (nI i))) (fun set_1 =>
        L_needy_4 K f cnt k n (i + 1) set_1)
def P_needy (K : Nat) (f : Nat → Int32) (cnt : Int32) : Int32 :=
  L_needy_4 K f cnt (fun set => set) K 0 0
abbrev rm_X0_needy : Room := { frames := 2, cells := 0, slots := 0, locals := 42 }
set_option maxHeartbeats 4000000 in
set_option maxRecDepth 100000 in
theorem k_X0_needy (l : Launch) (dC : Nat → ClassId) (dI : Nat → Nat → Nat) (cI cN : ClassId) (a0 : Nat) (a1 : Nat) (a2 : Nat) (a3 : Nat) (a4 : Nat) (isOn : Int32) (cnt : Int32) (len : Int32) (stp : Int32) (sta : Int32) (pm : Int32) (bm : Int32) (bw : Nat → Int32) (bars : Nat → Int32) (puts : Nat → Int32) (bap : Nat → Int32) (h0 : Nat) (h1 : Nat) (K : Nat) (f : Nat → Int32) (hK : K ≤ 16) : Met l yX0_needy wsX0_needy rm_X0_needy (va_Pc [.ref a0, .ref h0] (kW dC dI cI cN [(a0, .inr (0, [.ref a1, .ref a2, .ref a3, .ref a4, .int isOn, .int cnt, .int len, .int stp, .int sta, .int pm, .int bm])), (a1, .inl (cI, 16, .inl bw)), (a2, .inl (cI, 120, .inl bars)), (a3, .inl (cI, 40, .inl puts)), (a4, .inl (cI, 40, .inl bap)), (h0, .inr (3, [.ref h1, .int (nI K)])), (h1, .inl (cI, 16, .inl f))])) (kR (P_needy K f cnt)) 0 0 (fun _ => False) := by
  refine Met.ofW (cc := cX0_needy) (maxL := 4) (ret := (some .int)) (by decide) rfl ?_
  intro p e s m args below meth c s₁ B hml hv
  obtain ⟨rfl, hP, hK, hD, hN⟩ := hv
  have hx := B.exec
  have hb := B.bytes
  have hr0 := B.returns
  have hts := atoms_spec (ws := wsX0_needy) B.pre
  have hown : s.vm.findClass RX0 = some m.cls := findClass_of_methodNamed B.named
  have hlocks := B.notSynchronized
  have hS : va_S (fun _ => False) s.heap s.heap [] := va_S.rf
  have hl := lv_entry ([.ref a0, .ref h0]) (n := 4) (Nat.le_of_ble_eq_true rfl)
  rw [lg_entry_eq]
  generalize (lg_sl ([.ref a0, .ref h0]) ++ List.replicate (4 - (lg_sl ([.ref a0, .ref h0])).length) Slot.unset).toArray = ls at hl ⊢
  have hl : lv_has ls 4 [(0, .ref a0), (1, .ref h0)] := hl
  obtain ⟨ρ, hρ⟩ : ∃ ρ : Int32, ρ = P_needy K f cnt := ⟨_, rfl⟩
  have hr : P_needy K f cnt = ρ := hρ.symm
  rewrite [P_needy] at hr
  refine lv_iconst (v := 0) hx hb dX0_needy_0 (by decide) ?_
  refine lv_istore_n (lv' := [(2, .int 0), (0, .ref a0), (1, .ref h0)]) hx hb dX0_needy_1 rfl hl (by decide) rfl (fun ls hl => ?_)
  refine lv_iconst (v := 0) hx hb dX0_needy_2 (by decide) ?_
  refine lv_istore_n (lv' := [(3, .int 0), (2, .int 0), (0, .ref a0), (1, .ref h0)]) hx hb dX0_needy_3 rfl hl (by decide) rfl (fun ls hl => ?_)
  have ex_4 : ∀ (set : Int32) (H : Heap) (locs : List Loc) (ls : Array Slot), (set) = ρ → va_P (dC, dI) kCl [(a0, .inr (0, [.ref a1, .ref a2, .ref a3, .ref a4, .int isOn, .int cnt, .int len, .int stp, .int sta, .int pm, .int bm])), (a1, .inl (cI, 16, .inl bw)), (a2, .inl (cI, 120, .inl bars)), (a3, .inl (cI, 40, .inl puts)), (a4, .inl (cI, 40, .inl bap)), (h0, .inr (3, [.ref h1, .int (nI K)])), (h1, .inl (cI, 16, .inl f))] H → va_S (fun _ => False) s.heap H locs → lv_has ls 4 [(2, .int set), (0, .ref a0), (1, .ref h0)] → W p l e (headSpec wsX0_needy rm_X0_needy).room s m (([.ref a0, .ref h0] : List Value).toArray) below meth c H locs 0 0 (MQ below (kR (P_needy K f cnt)) (([.ref a0, .ref h0] : List Value).toArray) s 0 0 (fun _ => False)) (F0 m 37 ls []) := by
    intro set H locs ls hr hP hS hl
    refine lv_iload_n hx hb dX0_needy_37 rfl (lv_at hl 0 rfl) ?_
    have he := hr.trans hρ
    exact W.iret (v := set) hx hb hr0 (fun t ht hW => kR_end he hS ht) hS.2.2 dX0_needy_38
  have lp_4 : ∀ (n_4 i : Nat) (set : Int32) (H : Heap) (locs : List Loc) (ls : Array Slot), i + n_4 = K → L_needy_4 K f cnt (fun set => set) n_4 i set = ρ → va_P (dC, dI) kCl [(a0, .inr (0, [.ref a1, .ref a2, .ref a3, .ref a4, .int isOn, .int cnt, .int len, .int stp, .int sta, .int pm, .int bm])), (a1, .inl (cI, 16, .inl bw)), (a2, .inl (cI, 120, .inl bars)), (a3, .inl (cI, 40, .inl puts)), (a4, .inl (cI, 40, .inl bap)), (h0, .inr (3, [.ref h1, .int (nI K)])), (h1, .inl (cI, 16, .inl f))] H → va_S (fun _ => False) s.heap H locs → lv_has ls 4 [(3, .int (nI i)), (2, .int set), (0, .ref a0), (1, .ref h0)] → W p l e (headSpec wsX0_needy rm_X0_needy).room s m (([.ref a0, .ref h0] : List Value).toArray) below meth c H locs 0 0 (MQ below (kR (P_needy K f cnt)) (([.ref a0, .ref h0] : List Value).toArray) s 0 0 (fun _ => False)) (F0 m 4 ls []) := by
    intro n_4
    induction n_4 with
    | zero =>
      intro i set H locs ls hi hr hP hS hl
      rewrite [L_needy_4] at hr
      refine lv_iload_n hx hb dX0_needy_4 rfl (lv_at hl 0 rfl) ?_
      refine lv_aload_n hx hb dX0_needy_5 rfl (lv_at hl 3 rfl) ?_
      refine va_getN (D := (dC, dI)) (ci := 3) (v := .int (nI K)) (C := RX3) (T := TX3) (N := 2) hx hb hts (by decide +kernel) hown hK hP 5 rfl rfl 1 (by decide) (va_Nw.use rfl (hN.2 8 _ rfl)) (fun _ h9 => h9) rfl dX0_needy_6 ?_
      refine lv_icmp_ge (tgt := 37) hx hb dX0_needy_9 (by decide) (fun c_1 => ?_) (fun c_1 => ?_)
      · exact ex_4 set _ _ _ hr hP hS (lv_sub hl [1, 2, 3] rfl)
      · exact absurd (kTop (i := i) (N := K) rfl (by omega)) c_1
    | succ n_4 ih_4 =>
      intro i set H locs ls hi hr hP hS hl
      rewrite [L_needy_4] at hr
      refine lv_iload_n hx hb dX0_needy_4 rfl (lv_at hl 0 rfl) ?_
      refine lv_aload_n hx hb dX0_needy_5 rfl (lv_at hl 3 rfl) ?_
      refine va_getN (D := (dC, dI)) (ci := 3) (v := .int (nI K)) (C := RX3) (T := TX3) (N := 2) hx hb hts (by decide +kernel) hown hK hP 5 rfl rfl 1 (by decide) (va_Nw.use rfl (hN.2 8 _ rfl)) (fun _ h9 => h9) rfl dX0_needy_6 ?_
      refine lv_icmp_ge (tgt := 37) hx hb dX0_needy_9 (by decide) (fun c_2 => ?_) (fun c_2 => ?_)
      · exact absurd c_2 (kLow (i := i) (N := K) rfl (by omega) (by omega))
      · refine lv_aload_n hx hb dX0_needy_12 rfl (lv_at hl 3 rfl) ?_
        refine lv_iload_n hx hb dX0_needy_13 rfl (lv_at hl 0 rfl) ?_
        refine kCall (va_runVN (As := [.int (nI i)]) (rest := []) ⟨hx, hb, hml, hown, hts⟩ (k_X3_countOf l dC dI cI cN h0 h1 K f (nI i) (by first | assumption | omega | exact Int32.le_refl _ | decide)) ⟨va_cnB 1 hts gX0_needy_X3_countOf_n99 rfl rfl rfl (hN.1 47 _ rfl) (hts (.initialized RX3) (by decide +kernel)) (by decide +kernel) ⟨Nat.le_of_ble_eq_true rfl, Nat.le_of_ble_eq_true rfl⟩, hts (.instanceMethod yX3_countOf) (by decide +kernel), hts (.selects RX3 yX3_countOf yX3_countOf) (by decide +kernel)⟩ (kW_V hP hK hD hN (ci := 3) (q0 := 5) rfl rfl [5, 6] rfl rfl rfl) rfl rfl hl.1 rfl (lv_room (Nat.le_of_ble_eq_true rfl)) dX0_needy_14 ⟨Nat.zero_le _, Nat.zero_le _⟩) hP hS (fun H locs hP hS => ?_)
        refine lv_aload_n hx hb dX0_needy_17 rfl (lv_at hl 2 rfl) ?_
        refine va_get (D := (dC, dI)) (ci := 0) (v := .int cnt) (C := RX0) (T := TX0) (N := 11) hx hb hts (by decide +kernel) hown hK hP 0 rfl rfl 5 (by decide) (hts (.fieldLink RX0 32 "Shortring$Hunt" "count" "I") (by decide +kernel)) (fun _ h9 => h9) rfl dX0_needy_18 ?_
        refine lv_icmp_ge (tgt := 31) hx hb dX0_needy_21 (by decide) (fun c_3 => ?_) (fun c_3 => ?_)
        · have hr := if_to hr c_3
          refine lv_iinc (v := nI (i + 1)) (lv' := [(3, .int (nI (i + 1))), (2, .int set), (0, .ref a0), (1, .ref h0)]) hx hb dX0_needy_31 hl (k := 0) rfl (nI_1 _) (by decide) rfl (fun ls hl => ?_)
          refine lv_goto (tgt := 4) hx hb dX0_needy_34 (by decide) ?_
          exact ih_4 (i + 1) set _ _ _ (by omega) hr hP hS (lv_sub hl [0, 1, 2, 3] rfl)
        · have hr := if_no hr c_3
          refine lv_iload_n hx hb dX0_needy_24 rfl (lv_at hl 1 rfl) ?_
          refine lv_iload_n hx hb dX0_needy_25 rfl (lv_at hl 0 rfl) ?_
          refine kCall (va_runSN (As := [.int (nI i)]) (rest := [.int set]) ⟨hx, hb, hml, hown, hts⟩ (k_X6_bit l dC dI cI cN (nI i)) ⟨va_cnB 1 hts gX0_needy_X6_bit_n93 rfl rfl rfl (hN.1 46 _ rfl) (hts (.initialized RX6) (by decide +kernel)) (by decide +kernel) ⟨Nat.le_of_ble_eq_true rfl, Nat.le_of_ble_eq_true rfl⟩, hts (.static yX6_bit) (by decide +kernel), trivial⟩ (kW_S hP hK hD hN [] rfl rfl rfl) rfl rfl hl.1 rfl (lv_room (Nat.le_of_ble_eq_true rfl)) dX0_needy_26 ⟨Nat.zero_le _, Nat.zero_le _⟩) hP hS (fun H locs hP hS => ?_)
          refine lv_ior hx hb dX0_needy_29 ?_
          refine lv_topi (fun set_4 eset_4 => ?_)
          have hr := bd_to hr eset_4
          refine lv_istore_n (lv' := [(2, .int set_4), (3, .int (nI i)), (0, .ref a0), (1, .ref h0)]) hx hb dX0_needy_30 rfl hl (by decide) rfl (fun ls hl => ?_)
          refine lv_iinc (v := nI (i + 1)) (lv' := [(3, .int (nI (i + 1))), (2, .int set_4), (0, .ref a0), (1, .ref h0)]) hx hb dX0_needy_31 hl (k := 1) rfl (nI_1 _) (by decide) rfl (fun ls hl => ?_)
          refine lv_goto (tgt := 4) hx hb dX0_needy_34 (by decide) ?_
          exact ih_4 (i + 1) set_4 _ _ _ (by omega) hr hP hS (lv_sub hl [0, 1, 2, 3] rfl)
  exact lp_4 K 0 0 _ _ _ (by omega) hr hP hS (lv_sub hl [0, 1, 2, 3] rfl)
def P_joinableOf (f : Nat → Int32) (bw : Nat → Int32) (len : Int32) (knot : Int32) (needy : Int32) : Int32 :=
  if (P_holds needy knot) = 0 then
    0
  else
    if knot < 0 then
      0
    else
      if knot < (16 : Int32) then
        (needy &&& ((P_within f knot (len - (2 : Int32))) ^^^ (-1 : Int32))) &&& ((bw (knot).toNatClampNeg) ^^^ (-1 : Int32))
      else
        0
abbrev rm_X0_joinableOf : Room := { frames := 3, cells := 0, slots := 0, locals := 71 }
set_option maxHeartbeats 4000000 in
set_option maxRecDepth 100000 in
theorem k_X0_joinableOf (l : Launch) (dC : Nat → ClassId) (dI : Nat → Nat → Nat) (cI cN : ClassId) (a0 : Nat) (a1 : Nat) (a2 : Nat) (a3 : Nat) (a4 : Nat) (isOn : Int32) (cnt : Int32) (len : Int32) (stp : Int32) (sta : Int32) (pm : Int32) (bm : Int32) (bw : Nat → Int32) (bars : Nat → Int32) (puts : Nat → Int32) (bap : Nat → Int32) (h0 : Nat) (h1 : Nat) (K : Nat) (f : Nat → Int32) (knot : Int32) (needy : Int32) (hK : K ≤ 16) : Met l yX0_joinableOf wsX0_joinableOf rm_X0_joinableOf (va_Pc [.ref a0, .ref h0, .int knot, .int needy] (kW dC dI cI cN [(a0, .inr (0, [.ref a1, .ref a2, .ref a3, .ref a4, .int isOn, .int cnt, .int len, .int stp, .int sta, .int pm, .int bm])), (a1, .inl (cI, 16, .inl bw)), (a2, .inl (cI, 120, .inl bars)), (a3, .inl (cI, 40, .inl puts)), (a4, .inl (cI, 40, .inl bap)), (h0, .inr (3, [.ref h1, .int (nI K)])), (h1, .inl (cI, 16, .inl f))])) (kR (P_joinableOf f bw len knot needy)) 0 0 (fun _ => False) := by
  refine Met.ofW (cc := cX0_joinableOf) (maxL := 4) (ret := (some .int)) (by decide) rfl ?_
  intro p e s m args below meth c s₁ B hml hv
  obtain ⟨rfl, hP, hK, hD, hN⟩ := hv
  have hx := B.exec
  have hb := B.bytes
  have hr0 := B.returns
  have hts := atoms_spec (ws := wsX0_joinableOf) B.pre
  have hown : s.vm.findClass RX0 = some m.cls := findClass_of_methodNamed B.named
  have hlocks := B.notSynchronized
  have hS : va_S (fun _ => False) s.heap s.heap [] := va_S.rf
  have hl := lv_entry ([.ref a0, .ref h0, .int knot, .int needy]) (n := 4) (Nat.le_of_ble_eq_true rfl)
  rw [lg_entry_eq]
  generalize (lg_sl ([.ref a0, .ref h0, .int knot, .int needy]) ++ List.replicate (4 - (lg_sl ([.ref a0, .ref h0, .int knot, .int needy])).length) Slot.unset).toArray = ls at hl ⊢
  have hl : lv_has ls 4 [(0, .ref a0), (1, .ref h0), (2, .int knot), (3, .int needy)] := hl
  obtain ⟨ρ, hρ⟩ : ∃ ρ : Int32, ρ = P_joinableOf f bw len knot needy := ⟨_, rfl⟩
  have hr : P_joinableOf f bw len knot needy = ρ := hρ.symm
  rewrite [P_joinableOf] at hr
  refine lv_iload_n hx hb dX0_joinableOf_0 rfl (lv_at hl 3 rfl) ?_
  refine lv_iload_n hx hb dX0_joinableOf_1 rfl (lv_at hl 2 rfl) ?_
  refine kCall (va_runSN (As := [.int needy, .int knot]) (rest := []) ⟨hx, hb, hml, hown, hts⟩ (k_X6_holds l dC dI cI cN needy knot) ⟨va_cnB 2 hts gX0_joinableOf_X6_holds_n102 rfl rfl rfl (hN.1 48 _ rfl) (hts (.initialized RX6) (by decide +kernel)) (by decide +kernel) ⟨Nat.le_of_ble_eq_true rfl, Nat.le_of_ble_eq_true rfl⟩, hts (.static yX6_holds) (by decide +kernel), trivial⟩ (kW_S hP hK hD hN [] rfl rfl rfl) rfl rfl hl.1 rfl (lv_room (Nat.le_of_ble_eq_true rfl)) dX0_joinableOf_2 ⟨Nat.zero_le _, Nat.zero_le _⟩) hP hS (fun H locs hP hS => ?_)
  refine lv_if_eq (tgt := 21) hx hb dX0_joinableOf_5 (by decide) (fun c_1 => ?_) (fun c_1 => ?_)
  · have hr := if_to hr c_1
    refine lv_iconst (v := 0) hx hb dX0_joinableOf_21 (by decide) ?_
    have he := hr.trans hρ
    exact W.iret (v := 0) hx hb hr0 (fun t ht hW => kR_end he hS ht) hS.2.2 dX0_joinableOf_22
  · have hr := if_no hr c_1
    refine lv_iload_n hx hb dX0_joinableOf_8 rfl (lv_at hl 2 rfl) ?_
    refine lv_if_lt (tgt := 21) hx hb dX0_joinableOf_9 (by decide) (fun c_2 => ?_) (fun c_2 => ?_)
    · have hr := if_to hr c_2
      refine lv_iconst (v := 0) hx hb dX0_joinableOf_21 (by decide) ?_
      have he := hr.trans hρ
      exact W.iret (v := 0) hx hb hr0 (fun t ht hW => kR_end he hS ht) hS.2.2 dX0_joinableOf_22
    · have hr := if_no hr c_2
      refine lv_iload_n hx hb dX0_joinableOf_12 rfl (lv_at hl 2 rfl) ?_
      refine lv_aload_n hx hb dX0_joinableOf_13 rfl (lv_at hl 0 rfl) ?_
      refine va_get (D := (dC, dI)) (ci := 0) (v := .ref a1) (C := RX0) (T := TX0) (N := 11) hx hb hts (by decide +kernel) hown hK hP 0 rfl rfl 0 (by decide) (hts (.fieldLink RX0 9 "Shortring$Hunt" "barredWith" "[I") (by decide +kernel)) (fun _ h9 => h9) rfl dX0_joinableOf_14 ?_
      refine va_alen (v := 16) hx hb hK hP 1 0 rfl rfl rfl dX0_joinableOf_17 ?_
      refine lv_icmp_lt (tgt := 23) hx hb dX0_joinableOf_18 (by decide) (fun c_3 => ?_) (fun c_3 => ?_)
      · have hr := if_to hr c_3
        refine lv_iload_n hx hb dX0_joinableOf_23 rfl (lv_at hl 3 rfl) ?_
        refine lv_aload_n hx hb dX0_joinableOf_24 rfl (lv_at hl 1 rfl) ?_
        refine lv_iload_n hx hb dX0_joinableOf_25 rfl (lv_at hl 2 rfl) ?_
        refine lv_aload_n hx hb dX0_joinableOf_26 rfl (lv_at hl 0 rfl) ?_
        refine va_get (D := (dC, dI)) (ci := 0) (v := .int len) (C := RX0) (T := TX0) (N := 11) hx hb hts (by decide +kernel) hown hK hP 0 rfl rfl 6 (by decide) (hts (.fieldLink RX0 35 "Shortring$Hunt" "length" "I") (by decide +kernel)) (fun _ h9 => h9) rfl dX0_joinableOf_27 ?_
        refine lv_iconst (v := 2) hx hb dX0_joinableOf_30 (by decide) ?_
        refine lv_isub hx hb dX0_joinableOf_31 ?_
        refine kCall (va_runSN (As := [.ref h0, .int knot, .int (len - (2 : Int32))]) (rest := [.int needy]) ⟨hx, hb, hml, hown, hts⟩ (k_X5_within l dC dI cI cN h0 h1 K f knot (len - (2 : Int32)) (by first | assumption | omega | exact Int32.le_refl _ | decide)) ⟨va_cnB 3 hts gX0_joinableOf_X5_within_n106 rfl rfl rfl (hN.1 49 _ rfl) (hts (.initialized RX5) (by decide +kernel)) (by decide +kernel) ⟨Nat.le_of_ble_eq_true rfl, Nat.le_of_ble_eq_true rfl⟩, hts (.static yX5_within) (by decide +kernel), trivial⟩ (kW_S hP hK hD hN [5, 6] rfl rfl rfl) rfl rfl hl.1 rfl (lv_room (Nat.le_of_ble_eq_true rfl)) dX0_joinableOf_32 ⟨Nat.zero_le _, Nat.zero_le _⟩) hP hS (fun H locs hP hS => ?_)
        refine lv_iconst (v := (-1)) hx hb dX0_joinableOf_35 (by decide) ?_
        refine lv_ixor hx hb dX0_joinableOf_36 ?_
        refine lv_iand hx hb dX0_joinableOf_37 ?_
        refine lv_aload_n hx hb dX0_joinableOf_38 rfl (lv_at hl 0 rfl) ?_
        refine va_get (D := (dC, dI)) (ci := 0) (v := .ref a1) (C := RX0) (T := TX0) (N := 11) hx hb hts (by decide +kernel) hown hK hP 0 rfl rfl 0 (by decide) (hts (.fieldLink RX0 9 "Shortring$Hunt" "barredWith" "[I") (by decide +kernel)) (fun _ h9 => h9) rfl dX0_joinableOf_39 ?_
        refine lv_iload_n hx hb dX0_joinableOf_42 rfl (lv_at hl 2 rfl) ?_
        refine va_iald hx hb hK hP 1 0 rfl rfl (kIn2 (N := 16) (by decide) (kNlt (by assumption)) (by assumption)) dX0_joinableOf_43 ?_
        refine lv_iconst (v := (-1)) hx hb dX0_joinableOf_44 (by decide) ?_
        refine lv_ixor hx hb dX0_joinableOf_45 ?_
        refine lv_iand hx hb dX0_joinableOf_46 ?_
        have he := hr.trans hρ
        exact W.iret (v := (needy &&& ((P_within f knot (len - (2 : Int32))) ^^^ (-1 : Int32))) &&& ((bw (knot).toNatClampNeg) ^^^ (-1 : Int32))) hx hb hr0 (fun t ht hW => kR_end he hS ht) hS.2.2 dX0_joinableOf_47
      · have hr := if_no hr c_3
        refine lv_iconst (v := 0) hx hb dX0_joinableOf_21 (by decide) ?_
        have he := hr.trans hρ
        exact W.iret (v := 0) hx hb hr0 (fun t ht hW => kR_end he hS ht) hS.2.2 dX0_joinableOf_22
def P_joinable (K : Nat) (f : Nat → Int32) (bw : Nat → Int32) (isOn : Int32) (cnt : Int32) (len : Int32) (knot : Int32) : Int32 :=
  if isOn = 0 then
    0
  else
    P_joinableOf f bw len knot (P_needy K f cnt)
abbrev rm_X0_joinable : Room := { frames := 4, cells := 0, slots := 0, locals := 94 }
set_option maxHeartbeats 4000000 in
set_option maxRecDepth 100000 in
theorem k_X0_joinable (l : Launch) (dC : Nat → ClassId) (dI : Nat → Nat → Nat) (cI cN : ClassId) (a0 : Nat) (a1 : Nat) (a2 : Nat) (a3 : Nat) (a4 : Nat) (isOn : Int32) (cnt : Int32) (len : Int32) (stp : Int32) (sta : Int32) (pm : Int32) (bm : Int32) (bw : Nat → Int32) (bars : Nat → Int32) (puts : Nat → Int32) (bap : Nat → Int32) (h0 : Nat) (h1 : Nat) (K : Nat) (f : Nat → Int32) (knot : Int32) (hK : K ≤ 16) : Met l yX0_joinable wsX0_joinable rm_X0_joinable (va_Pc [.ref a0, .ref h0, .int knot] (kW dC dI cI cN [(a0, .inr (0, [.ref a1, .ref a2, .ref a3, .ref a4, .int isOn, .int cnt, .int len, .int stp, .int sta, .int pm, .int bm])), (a1, .inl (cI, 16, .inl bw)), (a2, .inl (cI, 120, .inl bars)), (a3, .inl (cI, 40, .inl puts)), (a4, .inl (cI, 40, .inl bap)), (h0, .inr (3, [.ref h1, .int (nI K)])), (h1, .inl (cI, 16, .inl f))])) (kR (P_joinable K f bw isOn cnt len knot)) 0 0 (fun _ => False) := by
  refine Met.ofW (cc := cX0_joinable) (maxL := 3) (ret := (some .int)) (by decide) rfl ?_
  intro p e s m args below meth c s₁ B hml hv
  obtain ⟨rfl, hP, hK, hD, hN⟩ := hv
  have hx := B.exec
  have hb := B.bytes
  have hr0 := B.returns
  have hts := atoms_spec (ws := wsX0_joinable) B.pre
  have hown : s.vm.findClass RX0 = some m.cls := findClass_of_methodNamed B.named
  have hlocks := B.notSynchronized
  have hS : va_S (fun _ => False) s.heap s.heap [] := va_S.rf
  have hl := lv_entry ([.ref a0, .ref h0, .int knot]) (n := 3) (Nat.le_of_ble_eq_true rfl)
  rw [lg_entry_eq]
  generalize (lg_sl ([.ref a0, .ref h0, .int knot]) ++ List.replicate (3 - (lg_sl ([.ref a0, .ref h0, .int knot])).length) Slot.unset).toArray = ls at hl ⊢
  have hl : lv_has ls 3 [(0, .ref a0), (1, .ref h0), (2, .int knot)] := hl
  obtain ⟨ρ, hρ⟩ : ∃ ρ : Int32, ρ = P_joinable K f bw isOn cnt len knot := ⟨_, rfl⟩
  have hr : P_joinable K f bw isOn cnt len knot = ρ := hρ.symm
  rewrite [P_joinable] at hr
  refine lv_aload_n hx hb dX0_joinable_0 rfl (lv_at hl 0 rfl) ?_
  refine va_get (D := (dC, dI)) (ci := 0) (v := .int isOn) (C := RX0) (T := TX0) (N := 11) hx hb hts (by decide +kernel) hown hK hP 0 rfl rfl 4 (by decide) (hts (.fieldLink RX0 24 "Shortring$Hunt" "isOn" "Z") (by decide +kernel)) (fun _ h9 => h9) rfl dX0_joinable_1 ?_
  refine lv_if_eq (tgt := 21) hx hb dX0_joinable_4 (by decide) (fun c_1 => ?_) (fun c_1 => ?_)
  · have hr := if_to hr c_1
    refine lv_iconst (v := 0) hx hb dX0_joinable_21 (by decide) ?_
    have he := hr.trans hρ
    exact W.iret (v := 0) hx hb hr0 (fun t ht hW => kR_end he hS ht) hS.2.2 dX0_joinable_22
  · have hr := if_no hr c_1
    refine lv_aload_n hx hb dX0_joinable_7 rfl (lv_at hl 0 rfl) ?_
    refine lv_aload_n hx hb dX0_joinable_8 rfl (lv_at hl 1 rfl) ?_
    refine lv_iload_n hx hb dX0_joinable_9 rfl (lv_at hl 2 rfl) ?_
    refine lv_aload_n hx hb dX0_joinable_10 rfl (lv_at hl 0 rfl) ?_
    refine lv_aload_n hx hb dX0_joinable_11 rfl (lv_at hl 1 rfl) ?_
    refine kCall (va_runV (As := [.ref h0]) (rest := [.int knot, .ref h0, .ref a0]) ⟨hx, hb, hml, hown, hts⟩ (k_X0_needy l dC dI cI cN a0 a1 a2 a3 a4 isOn cnt len stp sta pm bm bw bars puts bap h0 h1 K f (by first | assumption | omega | exact Int32.le_refl _ | decide)) (cwV 1 hts gX0_joinable_X0_needy rfl rfl rfl (by decide +kernel) ⟨Nat.le_of_ble_eq_true rfl, Nat.le_of_ble_eq_true rfl⟩) (kW_V hP hK hD hN (ci := 0) (q0 := 0) rfl rfl [0, 1, 2, 3, 4, 5, 6] rfl rfl rfl) rfl rfl hl.1 rfl (lv_room (Nat.le_of_ble_eq_true rfl)) dX0_joinable_12 ⟨Nat.zero_le _, Nat.zero_le _⟩) hP hS (fun H locs hP hS => ?_)
    refine kCall (va_runV (As := [.ref h0, .int knot, .int (P_needy K f cnt)]) (rest := []) ⟨hx, hb, hml, hown, hts⟩ (k_X0_joinableOf l dC dI cI cN a0 a1 a2 a3 a4 isOn cnt len stp sta pm bm bw bars puts bap h0 h1 K f knot (P_needy K f cnt) (by first | assumption | omega | exact Int32.le_refl _ | decide)) (cwV 3 hts gX0_joinable_X0_joinableOf rfl rfl rfl (by decide +kernel) ⟨Nat.le_of_ble_eq_true rfl, Nat.le_of_ble_eq_true rfl⟩) (kW_V hP hK hD hN (ci := 0) (q0 := 0) rfl rfl [0, 1, 2, 3, 4, 5, 6] rfl rfl rfl) rfl rfl hl.1 rfl (lv_room (Nat.le_of_ble_eq_true rfl)) dX0_joinable_15 ⟨Nat.zero_le _, Nat.zero_le _⟩) hP hS (fun H locs hP hS => ?_)
    refine lv_goto (tgt := 22) hx hb dX0_joinable_18 (by decide) ?_
    have he := hr.trans hρ
    exact W.iret (v := P_joinableOf f bw len knot (P_needy K f cnt)) hx hb hr0 (fun t ht hW => kR_end he hS ht) hS.2.2 dX0_joinable_22
def L_nextKnot_24 (K : Nat) (f : Nat → Int32) (bw : Nat → Int32) (cnt : Int32) (len : Int32) (sta : Int32) (k : Int32 → Int32 → Int32 → Int32) : Nat → Nat → Int32 → Int32 → Int32 → Int32
  | 0, i, needy, best, fewest => k needy best fewest
  | n + 1, i, needy, best, fewest =>
    if (P_holds needy (nI i)) = 0 then
      L_nextKnot_24 K f bw cnt len sta k n (i + 1) needy best fewest
    else
      bd (P_bitCount (P_joinableOf f bw len (nI i) needy)) (fun many_1 =>
        if fewest ≤ many_1 then
          L_nextKnot_24 K f bw cnt len sta k n (i + 1) needy best fewest
        else
          L_nextKnot_24 K f bw cnt len sta k n (i + 1) needy (nI i) many_1)
def P_nextKnot (K : Nat) (f : Nat → Int32) (bw : Nat → Int32) (cnt : Int32) (len : Int32) (sta : Int32) : Int32 :=
  if sta = 0 then
    bd (P_needy K f cnt) (fun needy_2 =>
      L_nextKnot_24 K f bw cnt len sta (fun needy best fewest => best) K 0 needy_2 (-1) 16)
  else
    (-1)
abbrev rm_X0_nextKnot : Room := { frames := 4, cells := 0, slots := 0, locals := 94 }
set_option maxHeartbeats 4000000 in
set_option maxRecDepth 100000 in
theorem k_X0_nextKnot (l : Launch) (dC : Nat → ClassId) (dI : Nat → Nat → Nat) (cI cN : ClassId) (a0 : Nat) (a1 : Nat) (a2 : Nat) (a3 : Nat) (a4 : Nat) (isOn : Int32) (cnt : Int32) (len : Int32) (stp : Int32) (sta : Int32) (pm : Int32) (bm : Int32) (bw : Nat → Int32) (bars : Nat → Int32) (puts : Nat → Int32) (bap : Nat → Int32) (h0 : Nat) (h1 : Nat) (K : Nat) (f : Nat → Int32) (hK : K ≤ 16) : Met l yX0_nextKnot wsX0_nextKnot rm_X0_nextKnot (va_Pc [.ref a0, .ref h0] (kW dC dI cI cN [(a0, .inr (0, [.ref a1, .ref a2, .ref a3, .ref a4, .int isOn, .int cnt, .int len, .int stp, .int sta, .int pm, .int bm])), (a1, .inl (cI, 16, .inl bw)), (a2, .inl (cI, 120, .inl bars)), (a3, .inl (cI, 40, .inl puts)), (a4, .inl (cI, 40, .inl bap)), (h0, .inr (3, [.ref h1, .int (nI K)])), (h1, .inl (cI, 16, .inl f))])) (kR (P_nextKnot K f bw cnt len sta)) 0 0 (fun _ => False) := by
  refine Met.ofW (cc := cX0_nextKnot) (maxL := 7) (ret := (some .int)) (by decide) rfl ?_
  intro p e s m args below meth c s₁ B hml hv
  obtain ⟨rfl, hP, hK, hD, hN⟩ := hv
  have hx := B.exec
  have hb := B.bytes
  have hr0 := B.returns
  have hts := atoms_spec (ws := wsX0_nextKnot) B.pre
  have hown : s.vm.findClass RX0 = some m.cls := findClass_of_methodNamed B.named
  have hlocks := B.notSynchronized
  have hS : va_S (fun _ => False) s.heap s.heap [] := va_S.rf
  have hl := lv_entry ([.ref a0, .ref h0]) (n := 7) (Nat.le_of_ble_eq_true rfl)
  rw [lg_entry_eq]
  generalize (lg_sl ([.ref a0, .ref h0]) ++ List.replicate (7 - (lg_sl ([.ref a0, .ref h0])).length) Slot.unset).toArray = ls at hl ⊢
  have hl : lv_has ls 7 [(0, .ref a0), (1, .ref h0)] := hl
  obtain ⟨ρ, hρ⟩ : ∃ ρ : Int32, ρ = P_nextKnot K f bw cnt len sta := ⟨_, rfl⟩
  have hr : P_nextKnot K f bw cnt len sta = ρ := hρ.symm
  rewrite [P_nextKnot] at hr
  refine lv_aload_n hx hb dX0_nextKnot_0 rfl (lv_at hl 0 rfl) ?_
  refine va_get (D := (dC, dI)) (ci := 0) (v := .int sta) (C := RX0) (T := TX0) (N := 11) hx hb hts (by decide +kernel) hown hK hP 0 rfl rfl 8 (by decide) (hts (.fieldLink RX0 28 "Shortring$Hunt" "state" "I") (by decide +kernel)) (fun _ h9 => h9) rfl dX0_nextKnot_1 ?_
  refine lv_if_eq (tgt := 9) hx hb dX0_nextKnot_4 (by decide) (fun c_1 => ?_) (fun c_1 => ?_)
  · have hr := if_to hr c_1
    refine lv_aload_n hx hb dX0_nextKnot_9 rfl (lv_at hl 0 rfl) ?_
    refine lv_aload_n hx hb dX0_nextKnot_10 rfl (lv_at hl 1 rfl) ?_
    refine kCall (va_runV (As := [.ref h0]) (rest := []) ⟨hx, hb, hml, hown, hts⟩ (k_X0_needy l dC dI cI cN a0 a1 a2 a3 a4 isOn cnt len stp sta pm bm bw bars puts bap h0 h1 K f (by first | assumption | omega | exact Int32.le_refl _ | decide)) (cwV 1 hts gX0_nextKnot_X0_needy rfl rfl rfl (by decide +kernel) ⟨Nat.le_of_ble_eq_true rfl, Nat.le_of_ble_eq_true rfl⟩) (kW_V hP hK hD hN (ci := 0) (q0 := 0) rfl rfl [0, 1, 2, 3, 4, 5, 6] rfl rfl rfl) rfl rfl hl.1 rfl (lv_room (Nat.le_of_ble_eq_true rfl)) dX0_nextKnot_11 ⟨Nat.zero_le _, Nat.zero_le _⟩) hP hS (fun H locs hP hS => ?_)
    refine lv_topi (fun needy_2 eneedy_2 => ?_)
    have hr := bd_to hr eneedy_2
    refine lv_istore_n (lv' := [(2, .int needy_2), (0, .ref a0), (1, .ref h0)]) hx hb dX0_nextKnot_14 rfl hl (by decide) rfl (fun ls hl => ?_)
    refine lv_iconst (v := (-1)) hx hb dX0_nextKnot_15 (by decide) ?_
    refine lv_istore_n (lv' := [(3, .int (-1)), (2, .int needy_2), (0, .ref a0), (1, .ref h0)]) hx hb dX0_nextKnot_16 rfl hl (by decide) rfl (fun ls hl => ?_)
    refine lv_bipush (v := 16) hx hb dX0_nextKnot_17 (by decide) ?_
    refine lv_istore (lv' := [(4, .int 16), (3, .int (-1)), (2, .int needy_2), (0, .ref a0), (1, .ref h0)]) hx hb dX0_nextKnot_19 hl (by decide) rfl (fun ls hl => ?_)
    refine lv_iconst (v := 0) hx hb dX0_nextKnot_21 (by decide) ?_
    refine lv_istore (lv' := [(5, .int 0), (4, .int 16), (3, .int (-1)), (2, .int needy_2), (0, .ref a0), (1, .ref h0)]) hx hb dX0_nextKnot_22 hl (by decide) rfl (fun ls hl => ?_)
    have ex_24 : ∀ (needy : Int32) (best : Int32) (fewest : Int32) (H : Heap) (locs : List Loc) (ls : Array Slot), (best) = ρ → va_P (dC, dI) kCl [(a0, .inr (0, [.ref a1, .ref a2, .ref a3, .ref a4, .int isOn, .int cnt, .int len, .int stp, .int sta, .int pm, .int bm])), (a1, .inl (cI, 16, .inl bw)), (a2, .inl (cI, 120, .inl bars)), (a3, .inl (cI, 40, .inl puts)), (a4, .inl (cI, 40, .inl bap)), (h0, .inr (3, [.ref h1, .int (nI K)])), (h1, .inl (cI, 16, .inl f))] H → va_S (fun _ => False) s.heap H locs → lv_has ls 7 [(2, .int needy), (3, .int best), (4, .int fewest), (0, .ref a0), (1, .ref h0)] → W p l e (headSpec wsX0_nextKnot rm_X0_nextKnot).room s m (([.ref a0, .ref h0] : List Value).toArray) below meth c H locs 0 0 (MQ below (kR (P_nextKnot K f bw cnt len sta)) (([.ref a0, .ref h0] : List Value).toArray) s 0 0 (fun _ => False)) (F0 m 75 ls []) := by
      intro needy best fewest H locs ls hr hP hS hl
      refine lv_iload_n hx hb dX0_nextKnot_75 rfl (lv_at hl 1 rfl) ?_
      have he := hr.trans hρ
      exact W.iret (v := best) hx hb hr0 (fun t ht hW => kR_end he hS ht) hS.2.2 dX0_nextKnot_76
    have lp_24 : ∀ (n_24 i : Nat) (needy : Int32) (best : Int32) (fewest : Int32) (H : Heap) (locs : List Loc) (ls : Array Slot), i + n_24 = K → L_nextKnot_24 K f bw cnt len sta (fun needy best fewest => best) n_24 i needy best fewest = ρ → va_P (dC, dI) kCl [(a0, .inr (0, [.ref a1, .ref a2, .ref a3, .ref a4, .int isOn, .int cnt, .int len, .int stp, .int sta, .int pm, .int bm])), (a1, .inl (cI, 16, .inl bw)), (a2, .inl (cI, 120, .inl bars)), (a3, .inl (cI, 40, .inl puts)), (a4, .inl (cI, 40, .inl bap)), (h0, .inr (3, [.ref h1, .int (nI K)])), (h1, .inl (cI, 16, .inl f))] H → va_S (fun _ => False) s.heap H locs → lv_has ls 7 [(5, .int (nI i)), (2, .int needy), (3, .int best), (4, .int fewest), (0, .ref a0), (1, .ref h0)] → W p l e (headSpec wsX0_nextKnot rm_X0_nextKnot).room s m (([.ref a0, .ref h0] : List Value).toArray) below meth c H locs 0 0 (MQ below (kR (P_nextKnot K f bw cnt len sta)) (([.ref a0, .ref h0] : List Value).toArray) s 0 0 (fun _ => False)) (F0 m 24 ls []) := by
      intro n_24
      induction n_24 with
      | zero =>
        intro i needy best fewest H locs ls hi hr hP hS hl
        rewrite [L_nextKnot_24] at hr
        refine lv_iload hx hb dX0_nextKnot_24 (lv_at hl 0 rfl) ?_
        refine lv_aload_n hx hb dX0_nextKnot_26 rfl (lv_at hl 5 rfl) ?_
        refine va_getN (D := (dC, dI)) (ci := 3) (v := .int (nI K)) (C := RX3) (T := TX3) (N := 2) hx hb hts (by decide +kernel) hown hK hP 5 rfl rfl 1 (by decide) (va_Nw.use rfl (hN.2 8 _ rfl)) (fun _ h9 => h9) rfl dX0_nextKnot_27 ?_
        refine lv_icmp_ge (tgt := 75) hx hb dX0_nextKnot_30 (by decide) (fun c_3 => ?_) (fun c_3 => ?_)
        · exact ex_24 needy best fewest _ _ _ hr hP hS (lv_sub hl [1, 2, 3, 4, 5] rfl)
        · exact absurd (kTop (i := i) (N := K) rfl (by omega)) c_3
      | succ n_24 ih_24 =>
        intro i needy best fewest H locs ls hi hr hP hS hl
        rewrite [L_nextKnot_24] at hr
        refine lv_iload hx hb dX0_nextKnot_24 (lv_at hl 0 rfl) ?_
        refine lv_aload_n hx hb dX0_nextKnot_26 rfl (lv_at hl 5 rfl) ?_
        refine va_getN (D := (dC, dI)) (ci := 3) (v := .int (nI K)) (C := RX3) (T := TX3) (N := 2) hx hb hts (by decide +kernel) hown hK hP 5 rfl rfl 1 (by decide) (va_Nw.use rfl (hN.2 8 _ rfl)) (fun _ h9 => h9) rfl dX0_nextKnot_27 ?_
        refine lv_icmp_ge (tgt := 75) hx hb dX0_nextKnot_30 (by decide) (fun c_4 => ?_) (fun c_4 => ?_)
        · exact absurd c_4 (kLow (i := i) (N := K) rfl (by omega) (by omega))
        · refine lv_iload_n hx hb dX0_nextKnot_33 rfl (lv_at hl 1 rfl) ?_
          refine lv_iload hx hb dX0_nextKnot_34 (lv_at hl 0 rfl) ?_
          refine kCall (va_runSN (As := [.int needy, .int (nI i)]) (rest := []) ⟨hx, hb, hml, hown, hts⟩ (k_X6_holds l dC dI cI cN needy (nI i)) ⟨va_cnB 2 hts gX0_nextKnot_X6_holds_n102 rfl rfl rfl (hN.1 48 _ rfl) (hts (.initialized RX6) (by decide +kernel)) (by decide +kernel) ⟨Nat.le_of_ble_eq_true rfl, Nat.le_of_ble_eq_true rfl⟩, hts (.static yX6_holds) (by decide +kernel), trivial⟩ (kW_S hP hK hD hN [] rfl rfl rfl) rfl rfl hl.1 rfl (lv_room (Nat.le_of_ble_eq_true rfl)) dX0_nextKnot_36 ⟨Nat.zero_le _, Nat.zero_le _⟩) hP hS (fun H locs hP hS => ?_)
          refine lv_if_eq (tgt := 69) hx hb dX0_nextKnot_39 (by decide) (fun c_5 => ?_) (fun c_5 => ?_)
          · have hr := if_to hr c_5
            refine lv_iinc (v := nI (i + 1)) (lv' := [(5, .int (nI (i + 1))), (2, .int needy), (3, .int best), (4, .int fewest), (0, .ref a0), (1, .ref h0)]) hx hb dX0_nextKnot_69 hl (k := 0) rfl (nI_1 _) (by decide) rfl (fun ls hl => ?_)
            refine lv_goto (tgt := 24) hx hb dX0_nextKnot_72 (by decide) ?_
            exact ih_24 (i + 1) needy best fewest _ _ _ (by omega) hr hP hS (lv_sub hl [0, 1, 2, 3, 4, 5] rfl)
          · have hr := if_no hr c_5
            refine lv_aload_n hx hb dX0_nextKnot_42 rfl (lv_at hl 4 rfl) ?_
            refine lv_aload_n hx hb dX0_nextKnot_43 rfl (lv_at hl 5 rfl) ?_
            refine lv_iload hx hb dX0_nextKnot_44 (lv_at hl 0 rfl) ?_
            refine lv_iload_n hx hb dX0_nextKnot_46 rfl (lv_at hl 1 rfl) ?_
            refine kCall (va_runV (As := [.ref h0, .int (nI i), .int needy]) (rest := []) ⟨hx, hb, hml, hown, hts⟩ (k_X0_joinableOf l dC dI cI cN a0 a1 a2 a3 a4 isOn cnt len stp sta pm bm bw bars puts bap h0 h1 K f (nI i) needy (by first | assumption | omega | exact Int32.le_refl _ | decide)) (cwV 3 hts gX0_nextKnot_X0_joinableOf rfl rfl rfl (by decide +kernel) ⟨Nat.le_of_ble_eq_true rfl, Nat.le_of_ble_eq_true rfl⟩) (kW_V hP hK hD hN (ci := 0) (q0 := 0) rfl rfl [0, 1, 2, 3, 4, 5, 6] rfl rfl rfl) rfl rfl hl.1 rfl (lv_room (Nat.le_of_ble_eq_true rfl)) dX0_nextKnot_47 ⟨Nat.zero_le _, Nat.zero_le _⟩) hP hS (fun H locs hP hS => ?_)
            refine kCall (va_runS (As := [.int (P_joinableOf f bw len (nI i) needy)]) (rest := []) ⟨hx, hb, hml, hown, hts⟩ (k_J6_bitCount_0f7a4 l dC dI cI cN (P_joinableOf f bw len (nI i) needy)) (va_cwS 1 hts gX0_nextKnot_J6_bitCount_0f7a4 rfl rfl rfl (by decide +kernel) ⟨Nat.le_of_ble_eq_true rfl, Nat.le_of_ble_eq_true rfl⟩) (kW_S hP hK hD hN [] rfl rfl rfl) rfl rfl hl.1 rfl (lv_room (Nat.le_of_ble_eq_true rfl)) dX0_nextKnot_50 ⟨Nat.zero_le _, Nat.zero_le _⟩) hP hS (fun H locs hP hS => ?_)
            refine lv_topi (fun many_6 emany_6 => ?_)
            have hr := bd_to hr emany_6
            refine lv_istore (lv' := [(6, .int many_6), (5, .int (nI i)), (2, .int needy), (3, .int best), (4, .int fewest), (0, .ref a0), (1, .ref h0)]) hx hb dX0_nextKnot_53 hl (by decide) rfl (fun ls hl => ?_)
            refine lv_iload hx hb dX0_nextKnot_55 (lv_at hl 0 rfl) ?_
            refine lv_iload hx hb dX0_nextKnot_57 (lv_at hl 4 rfl) ?_
            refine lv_icmp_ge (tgt := 69) hx hb dX0_nextKnot_59 (by decide) (fun c_7 => ?_) (fun c_7 => ?_)
            · have hr := if_to hr c_7
              refine lv_iinc (v := nI (i + 1)) (lv' := [(5, .int (nI (i + 1))), (6, .int many_6), (2, .int needy), (3, .int best), (4, .int fewest), (0, .ref a0), (1, .ref h0)]) hx hb dX0_nextKnot_69 hl (k := 1) rfl (nI_1 _) (by decide) rfl (fun ls hl => ?_)
              refine lv_goto (tgt := 24) hx hb dX0_nextKnot_72 (by decide) ?_
              exact ih_24 (i + 1) needy best fewest _ _ _ (by omega) hr hP hS (lv_sub hl [0, 2, 3, 4, 5, 6] rfl)
            · have hr := if_no hr c_7
              refine lv_iload hx hb dX0_nextKnot_62 (lv_at hl 0 rfl) ?_
              refine lv_istore (lv' := [(4, .int many_6), (6, .int many_6), (5, .int (nI i)), (2, .int needy), (3, .int best), (0, .ref a0), (1, .ref h0)]) hx hb dX0_nextKnot_64 hl (by decide) rfl (fun ls hl => ?_)
              refine lv_iload hx hb dX0_nextKnot_66 (lv_at hl 2 rfl) ?_
              refine lv_istore_n (lv' := [(3, .int (nI i)), (4, .int many_6), (6, .int many_6), (5, .int (nI i)), (2, .int needy), (0, .ref a0), (1, .ref h0)]) hx hb dX0_nextKnot_68 rfl hl (by decide) rfl (fun ls hl => ?_)
              refine lv_iinc (v := nI (i + 1)) (lv' := [(5, .int (nI (i + 1))), (3, .int (nI i)), (4, .int many_6), (6, .int many_6), (2, .int needy), (0, .ref a0), (1, .ref h0)]) hx hb dX0_nextKnot_69 hl (k := 3) rfl (nI_1 _) (by decide) rfl (fun ls hl => ?_)
              refine lv_goto (tgt := 24) hx hb dX0_nextKnot_72 (by decide) ?_
              exact ih_24 (i + 1) needy (nI i) many_6 _ _ _ (by omega) hr hP hS (lv_sub hl [0, 4, 1, 2, 5, 6] rfl)
    exact lp_24 K 0 needy_2 (-1) 16 _ _ _ (by omega) hr hP hS (lv_sub hl [0, 3, 2, 1, 4, 5] rfl)
  · have hr := if_no hr c_1
    refine lv_iconst (v := (-1)) hx hb dX0_nextKnot_7 (by decide) ?_
    have he := hr.trans hρ
    exact W.iret (v := (-1)) hx hb hr0 (fun t ht hW => kR_end he hS ht) hS.2.2 dX0_nextKnot_8
def P_partnerOf (K : Nat) (f : Nat → Int32) (bw : Nat → Int32) (cnt : Int32) (len : Int32) (knot : Int32) : Int32 :=
  if knot = (-1 : Int32) then
    (-1)
  else
    bd (P_joinableOf f bw len knot (P_needy K f cnt)) (fun open__2 =>
      bd (cnt - (P_countOf f knot)) (fun needed_3 =>
        if (P_bitCount open__2) < needed_3 then
          (-1)
        else
          P_firstOf open__2))
abbrev rm_X0_partnerOf : Room := { frames := 4, cells := 0, slots := 0, locals := 94 }
set_option maxHeartbeats 4000000 in
set_option maxRecDepth 100000 in
theorem k_X0_partnerOf (l : Launch) (dC : Nat → ClassId) (dI : Nat → Nat → Nat) (cI cN : ClassId) (a0 : Nat) (a1 : Nat) (a2 : Nat) (a3 : Nat) (a4 : Nat) (isOn : Int32) (cnt : Int32) (len : Int32) (stp : Int32) (sta : Int32) (pm : Int32) (bm : Int32) (bw : Nat → Int32) (bars : Nat → Int32) (puts : Nat → Int32) (bap : Nat → Int32) (h0 : Nat) (h1 : Nat) (K : Nat) (f : Nat → Int32) (knot : Int32) (hK : K ≤ 16) : Met l yX0_partnerOf wsX0_partnerOf rm_X0_partnerOf (va_Pc [.ref a0, .ref h0, .int knot] (kW dC dI cI cN [(a0, .inr (0, [.ref a1, .ref a2, .ref a3, .ref a4, .int isOn, .int cnt, .int len, .int stp, .int sta, .int pm, .int bm])), (a1, .inl (cI, 16, .inl bw)), (a2, .inl (cI, 120, .inl bars)), (a3, .inl (cI, 40, .inl puts)), (a4, .inl (cI, 40, .inl bap)), (h0, .inr (3, [.ref h1, .int (nI K)])), (h1, .inl (cI, 16, .inl f))])) (kR (P_partnerOf K f bw cnt len knot)) 0 0 (fun _ => False) := by
  refine Met.ofW (cc := cX0_partnerOf) (maxL := 5) (ret := (some .int)) (by decide) rfl ?_
  intro p e s m args below meth c s₁ B hml hv
  obtain ⟨rfl, hP, hK, hD, hN⟩ := hv
  have hx := B.exec
  have hb := B.bytes
  have hr0 := B.returns
  have hts := atoms_spec (ws := wsX0_partnerOf) B.pre
  have hown : s.vm.findClass RX0 = some m.cls := findClass_of_methodNamed B.named
  have hlocks := B.notSynchronized
  have hS : va_S (fun _ => False) s.heap s.heap [] := va_S.rf
  have hl := lv_entry ([.ref a0, .ref h0, .int knot]) (n := 5) (Nat.le_of_ble_eq_true rfl)
  rw [lg_entry_eq]
  generalize (lg_sl ([.ref a0, .ref h0, .int knot]) ++ List.replicate (5 - (lg_sl ([.ref a0, .ref h0, .int knot])).length) Slot.unset).toArray = ls at hl ⊢
  have hl : lv_has ls 5 [(0, .ref a0), (1, .ref h0), (2, .int knot)] := hl
  obtain ⟨ρ, hρ⟩ : ∃ ρ : Int32, ρ = P_partnerOf K f bw cnt len knot := ⟨_, rfl⟩
  have hr : P_partnerOf K f bw cnt len knot = ρ := hρ.symm
  rewrite [P_partnerOf] at hr
  refine lv_iload_n hx hb dX0_partnerOf_0 rfl (lv_at hl 2 rfl) ?_
  refine lv_iconst (v := (-1)) hx hb dX0_partnerOf_1 (by decide) ?_
  refine lv_icmp_ne (tgt := 7) hx hb dX0_partnerOf_2 (by decide) (fun c_1 => ?_) (fun c_1 => ?_)
  · have hr := if_no hr c_1
    refine lv_aload_n hx hb dX0_partnerOf_7 rfl (lv_at hl 0 rfl) ?_
    refine lv_aload_n hx hb dX0_partnerOf_8 rfl (lv_at hl 1 rfl) ?_
    refine lv_iload_n hx hb dX0_partnerOf_9 rfl (lv_at hl 2 rfl) ?_
    refine lv_aload_n hx hb dX0_partnerOf_10 rfl (lv_at hl 0 rfl) ?_
    refine lv_aload_n hx hb dX0_partnerOf_11 rfl (lv_at hl 1 rfl) ?_
    refine kCall (va_runV (As := [.ref h0]) (rest := [.int knot, .ref h0, .ref a0]) ⟨hx, hb, hml, hown, hts⟩ (k_X0_needy l dC dI cI cN a0 a1 a2 a3 a4 isOn cnt len stp sta pm bm bw bars puts bap h0 h1 K f (by first | assumption | omega | exact Int32.le_refl _ | decide)) (cwV 1 hts gX0_partnerOf_X0_needy rfl rfl rfl (by decide +kernel) ⟨Nat.le_of_ble_eq_true rfl, Nat.le_of_ble_eq_true rfl⟩) (kW_V hP hK hD hN (ci := 0) (q0 := 0) rfl rfl [0, 1, 2, 3, 4, 5, 6] rfl rfl rfl) rfl rfl hl.1 rfl (lv_room (Nat.le_of_ble_eq_true rfl)) dX0_partnerOf_12 ⟨Nat.zero_le _, Nat.zero_le _⟩) hP hS (fun H locs hP hS => ?_)
    refine kCall (va_runV (As := [.ref h0, .int knot, .int (P_needy K f cnt)]) (rest := []) ⟨hx, hb, hml, hown, hts⟩ (k_X0_joinableOf l dC dI cI cN a0 a1 a2 a3 a4 isOn cnt len stp sta pm bm bw bars puts bap h0 h1 K f knot (P_needy K f cnt) (by first | assumption | omega | exact Int32.le_refl _ | decide)) (cwV 3 hts gX0_partnerOf_X0_joinableOf rfl rfl rfl (by decide +kernel) ⟨Nat.le_of_ble_eq_true rfl, Nat.le_of_ble_eq_true rfl⟩) (kW_V hP hK hD hN (ci := 0) (q0 := 0) rfl rfl [0, 1, 2, 3, 4, 5, 6] rfl rfl rfl) rfl rfl hl.1 rfl (lv_room (Nat.le_of_ble_eq_true rfl)) dX0_partnerOf_15 ⟨Nat.zero_le _, Nat.zero_le _⟩) hP hS (fun H locs hP hS => ?_)
    refine lv_topi (fun open__2 eopen__2 => ?_)
    have hr := bd_to hr eopen__2
    refine lv_istore_n (lv' := [(3, .int open__2), (0, .ref a0), (1, .ref h0), (2, .int knot)]) hx hb dX0_partnerOf_18 rfl hl (by decide) rfl (fun ls hl => ?_)
    refine lv_aload_n hx hb dX0_partnerOf_19 rfl (lv_at hl 1 rfl) ?_
    refine va_get (D := (dC, dI)) (ci := 0) (v := .int cnt) (C := RX0) (T := TX0) (N := 11) hx hb hts (by decide +kernel) hown hK hP 0 rfl rfl 5 (by decide) (hts (.fieldLink RX0 32 "Shortring$Hunt" "count" "I") (by decide +kernel)) (fun _ h9 => h9) rfl dX0_partnerOf_20 ?_
    refine lv_aload_n hx hb dX0_partnerOf_23 rfl (lv_at hl 2 rfl) ?_
    refine lv_iload_n hx hb dX0_partnerOf_24 rfl (lv_at hl 3 rfl) ?_
    refine kCall (va_runVN (As := [.int knot]) (rest := [.int cnt]) ⟨hx, hb, hml, hown, hts⟩ (k_X3_countOf l dC dI cI cN h0 h1 K f knot (by first | assumption | omega | exact Int32.le_refl _ | decide)) ⟨va_cnB 1 hts gX0_partnerOf_X3_countOf_n99 rfl rfl rfl (hN.1 47 _ rfl) (hts (.initialized RX3) (by decide +kernel)) (by decide +kernel) ⟨Nat.le_of_ble_eq_true rfl, Nat.le_of_ble_eq_true rfl⟩, hts (.instanceMethod yX3_countOf) (by decide +kernel), hts (.selects RX3 yX3_countOf yX3_countOf) (by decide +kernel)⟩ (kW_V hP hK hD hN (ci := 3) (q0 := 5) rfl rfl [5, 6] rfl rfl rfl) rfl rfl hl.1 rfl (lv_room (Nat.le_of_ble_eq_true rfl)) dX0_partnerOf_25 ⟨Nat.zero_le _, Nat.zero_le _⟩) hP hS (fun H locs hP hS => ?_)
    refine lv_isub hx hb dX0_partnerOf_28 ?_
    refine lv_topi (fun needed_3 eneeded_3 => ?_)
    have hr := bd_to hr eneeded_3
    refine lv_istore (lv' := [(4, .int needed_3), (3, .int open__2), (0, .ref a0), (1, .ref h0), (2, .int knot)]) hx hb dX0_partnerOf_29 hl (by decide) rfl (fun ls hl => ?_)
    refine lv_iload_n hx hb dX0_partnerOf_31 rfl (lv_at hl 1 rfl) ?_
    refine kCall (va_runS (As := [.int open__2]) (rest := []) ⟨hx, hb, hml, hown, hts⟩ (k_J6_bitCount_0f7a4 l dC dI cI cN open__2) (va_cwS 1 hts gX0_partnerOf_J6_bitCount_0f7a4 rfl rfl rfl (by decide +kernel) ⟨Nat.le_of_ble_eq_true rfl, Nat.le_of_ble_eq_true rfl⟩) (kW_S hP hK hD hN [] rfl rfl rfl) rfl rfl hl.1 rfl (lv_room (Nat.le_of_ble_eq_true rfl)) dX0_partnerOf_32 ⟨Nat.zero_le _, Nat.zero_le _⟩) hP hS (fun H locs hP hS => ?_)
    refine lv_iload hx hb dX0_partnerOf_35 (lv_at hl 0 rfl) ?_
    refine lv_icmp_lt (tgt := 47) hx hb dX0_partnerOf_37 (by decide) (fun c_4 => ?_) (fun c_4 => ?_)
    · have hr := if_to hr c_4
      refine lv_iconst (v := (-1)) hx hb dX0_partnerOf_47 (by decide) ?_
      have he := hr.trans hρ
      exact W.iret (v := (-1)) hx hb hr0 (fun t ht hW => kR_end he hS ht) hS.2.2 dX0_partnerOf_48
    · have hr := if_no hr c_4
      refine lv_iload_n hx hb dX0_partnerOf_40 rfl (lv_at hl 1 rfl) ?_
      refine kCall (va_runSN (As := [.int open__2]) (rest := []) ⟨hx, hb, hml, hown, hts⟩ (k_X6_firstOf l dC dI cI cN open__2) ⟨va_cnB 1 hts gX0_partnerOf_X6_firstOf_n123 rfl rfl rfl (hN.1 50 _ rfl) (hts (.initialized RX6) (by decide +kernel)) (by decide +kernel) ⟨Nat.le_of_ble_eq_true rfl, Nat.le_of_ble_eq_true rfl⟩, hts (.static yX6_firstOf) (by decide +kernel), trivial⟩ (kW_S hP hK hD hN [] rfl rfl rfl) rfl rfl hl.1 rfl (lv_room (Nat.le_of_ble_eq_true rfl)) dX0_partnerOf_41 ⟨Nat.zero_le _, Nat.zero_le _⟩) hP hS (fun H locs hP hS => ?_)
      refine lv_goto (tgt := 48) hx hb dX0_partnerOf_44 (by decide) ?_
      have he := hr.trans hρ
      exact W.iret (v := P_firstOf open__2) hx hb hr0 (fun t ht hW => kR_end he hS ht) hS.2.2 dX0_partnerOf_48
  · have hr := if_to hr c_1
    refine lv_iconst (v := (-1)) hx hb dX0_partnerOf_5 (by decide) ?_
    have he := hr.trans hρ
    exact W.iret (v := (-1)) hx hb hr0 (fun t ht hW => kR_end he hS ht) hS.2.2 dX0_partnerOf_6
