/-! paths (printed by wip/gen) -/
def L_around_7 (f : Nat → Int32) (set : Int32) (k : Int32 → Int32 → Int32) : Nat → Nat → Int32 → Int32 → Int32
  | 0, i, all, left => k all left
  | n + 1, i, all, left =>
    if left = 0 then
      k all left
    else
      bd (P_bitCount ((left &&& (-left)) - (1 : Int32))) (fun first_1 =>
        bd (all ||| (P_nearOf f first_1)) (fun all_2 =>
          bd (left &&& (left - (1 : Int32))) (fun left_3 =>
            L_around_7 f set k n (i + 1) all_2 left_3)))
def P_around (f : Nat → Int32) (set : Int32) : Int32 :=
  L_around_7 f set (fun all left => all) 16 0 0 set
abbrev rm_X5_around : Room := { frames := 1, cells := 0, slots := 0, locals := 21 }
set_option maxHeartbeats 4000000 in
set_option maxRecDepth 100000 in
theorem k_X5_around (l : Launch) (dC : Nat → ClassId) (dI : Nat → Nat → Nat) (cI cN : ClassId) (h0 : Nat) (h1 : Nat) (K : Nat) (f : Nat → Int32) (set : Int32) (hK : K ≤ 16) : Met l yX5_around wsX5_around rm_X5_around (va_Pc [.ref h0, .int set] (kW dC dI cI cN [(h0, .inr (3, [.ref h1, .int (nI K)])), (h1, .inl (cI, 16, .inl f))])) (kR (P_around f set)) 0 0 (fun _ => False) := by
  refine Met.ofW (cc := cX5_around) (maxL := 6) (ret := (some .int)) (by decide) rfl ?_
  intro p e s m args below meth c s₁ B hml hv
  obtain ⟨rfl, hP, hK, hD, hN⟩ := hv
  have hx := B.exec
  have hb := B.bytes
  have hr0 := B.returns
  have hts := atoms_spec (ws := wsX5_around) B.pre
  have hown : s.vm.findClass RX5 = some m.cls := findClass_of_methodNamed B.named
  have hlocks := B.notSynchronized
  have hS : va_S (fun _ => False) s.heap s.heap [] := va_S.rf
  have hl := lv_entry ([.ref h0, .int set]) (n := 6) (Nat.le_of_ble_eq_true rfl)
  rw [lg_entry_eq]
  generalize (lg_sl ([.ref h0, .int set]) ++ List.replicate (6 - (lg_sl ([.ref h0, .int set])).length) Slot.unset).toArray = ls at hl ⊢
  have hl : lv_has ls 6 [(0, .ref h0), (1, .int set)] := hl
  obtain ⟨ρ, hρ⟩ : ∃ ρ : Int32, ρ = P_around f set := ⟨_, rfl⟩
  have hr : P_around f set = ρ := hρ.symm
  rewrite [P_around] at hr
  refine lv_iconst (v := 0) hx hb dX5_around_0 (by decide) ?_
  refine lv_istore_n (lv' := [(2, .int 0), (0, .ref h0), (1, .int set)]) hx hb dX5_around_1 rfl hl (by decide) rfl (fun ls hl => ?_)
  refine lv_iload_n hx hb dX5_around_2 rfl (lv_at hl 2 rfl) ?_
  refine lv_istore_n (lv' := [(3, .int set), (2, .int 0), (0, .ref h0), (1, .int set)]) hx hb dX5_around_3 rfl hl (by decide) rfl (fun ls hl => ?_)
  refine lv_iconst (v := 0) hx hb dX5_around_4 (by decide) ?_
  refine lv_istore (lv' := [(4, .int 0), (3, .int set), (2, .int 0), (0, .ref h0), (1, .int set)]) hx hb dX5_around_5 hl (by decide) rfl (fun ls hl => ?_)
  have ex_7 : ∀ (all : Int32) (left : Int32) (H : Heap) (locs : List Loc) (ls : Array Slot), (all) = ρ → va_P (dC, dI) kCl [(h0, .inr (3, [.ref h1, .int (nI K)])), (h1, .inl (cI, 16, .inl f))] H → va_S (fun _ => False) s.heap H locs → lv_has ls 6 [(2, .int all), (3, .int left), (0, .ref h0)] → W p l e (headSpec wsX5_around rm_X5_around).room s m (([.ref h0, .int set] : List Value).toArray) below meth c H locs 0 0 (MQ below (kR (P_around f set)) (([.ref h0, .int set] : List Value).toArray) s 0 0 (fun _ => False)) (F0 m 50 ls []) := by
    intro all left H locs ls hr hP hS hl
    refine lv_iload_n hx hb dX5_around_50 rfl (lv_at hl 0 rfl) ?_
    have he := hr.trans hρ
    exact W.iret (v := all) hx hb hr0 (fun t ht hW => kR_end he hS ht) hS.2.2 dX5_around_51
  have lp_7 : ∀ (n_7 i : Nat) (all : Int32) (left : Int32) (H : Heap) (locs : List Loc) (ls : Array Slot), i + n_7 = 16 → L_around_7 f set (fun all left => all) n_7 i all left = ρ → va_P (dC, dI) kCl [(h0, .inr (3, [.ref h1, .int (nI K)])), (h1, .inl (cI, 16, .inl f))] H → va_S (fun _ => False) s.heap H locs → lv_has ls 6 [(4, .int (nI i)), (2, .int all), (3, .int left), (0, .ref h0)] → W p l e (headSpec wsX5_around rm_X5_around).room s m (([.ref h0, .int set] : List Value).toArray) below meth c H locs 0 0 (MQ below (kR (P_around f set)) (([.ref h0, .int set] : List Value).toArray) s 0 0 (fun _ => False)) (F0 m 7 ls []) := by
    intro n_7
    induction n_7 with
    | zero =>
      intro i all left H locs ls hi hr hP hS hl
      rewrite [L_around_7] at hr
      refine lv_iload hx hb dX5_around_7 (lv_at hl 0 rfl) ?_
      refine lv_bipush (v := 16) hx hb dX5_around_9 (by decide) ?_
      refine lv_icmp_ge (tgt := 50) hx hb dX5_around_11 (by decide) (fun c_1 => ?_) (fun c_1 => ?_)
      · exact ex_7 all left _ _ _ hr hP hS (lv_sub hl [1, 2, 3] rfl)
      · exact absurd (kTop (i := i) (N := 16) rfl (by omega)) c_1
    | succ n_7 ih_7 =>
      intro i all left H locs ls hi hr hP hS hl
      rewrite [L_around_7] at hr
      refine lv_iload hx hb dX5_around_7 (lv_at hl 0 rfl) ?_
      refine lv_bipush (v := 16) hx hb dX5_around_9 (by decide) ?_
      refine lv_icmp_ge (tgt := 50) hx hb dX5_around_11 (by decide) (fun c_2 => ?_) (fun c_2 => ?_)
      · exact absurd c_2 (kLow (i := i) (N := 16) rfl (by omega) (by omega))
      · refine lv_iload_n hx hb dX5_around_14 rfl (lv_at hl 2 rfl) ?_
        refine lv_if_eq (tgt := 50) hx hb dX5_around_15 (by decide) (fun c_3 => ?_) (fun c_3 => ?_)
        · have hr := if_to hr c_3
          exact ex_7 all left _ _ _ hr hP hS (lv_sub hl [1, 2, 3] rfl)
        · have hr := if_no hr c_3
          refine lv_iload_n hx hb dX5_around_18 rfl (lv_at hl 2 rfl) ?_
          refine lv_iload_n hx hb dX5_around_19 rfl (lv_at hl 2 rfl) ?_
          refine lv_ineg hx hb dX5_around_20 ?_
          refine lv_iand hx hb dX5_around_21 ?_
          refine lv_iconst (v := 1) hx hb dX5_around_22 (by decide) ?_
          refine lv_isub hx hb dX5_around_23 ?_
          refine kCall (va_runS (As := [.int ((left &&& (-left)) - (1 : Int32))]) (rest := []) ⟨hx, hb, hml, hown, hts⟩ (k_J6_bitCount_0f7a4 l dC dI cI cN ((left &&& (-left)) - (1 : Int32))) (va_cwS 1 hts gX5_around_J6_bitCount_0f7a4 rfl rfl rfl (by decide +kernel) ⟨Nat.le_of_ble_eq_true rfl, Nat.le_of_ble_eq_true rfl⟩) (kW_S hP hK hD hN [] rfl rfl rfl) rfl rfl hl.1 rfl (lv_room (Nat.le_of_ble_eq_true rfl)) dX5_around_24 ⟨Nat.zero_le _, Nat.zero_le _⟩) hP hS (fun H locs hP hS => ?_)
          refine lv_topi (fun first_4 efirst_4 => ?_)
          have hr := bd_to hr efirst_4
          refine lv_istore (lv' := [(5, .int first_4), (4, .int (nI i)), (2, .int all), (3, .int left), (0, .ref h0)]) hx hb dX5_around_27 hl (by decide) rfl (fun ls hl => ?_)
          refine lv_iload_n hx hb dX5_around_29 rfl (lv_at hl 2 rfl) ?_
          refine lv_aload_n hx hb dX5_around_30 rfl (lv_at hl 4 rfl) ?_
          refine lv_iload hx hb dX5_around_31 (lv_at hl 0 rfl) ?_
          refine kCall (va_runVN (As := [.int first_4]) (rest := [.int all]) ⟨hx, hb, hml, hown, hts⟩ (k_X3_nearOf l dC dI cI cN h0 h1 K f first_4 (by first | assumption | omega | exact Int32.le_refl _ | decide)) ⟨va_cnB 1 hts gX5_around_X3_nearOf_n15 rfl rfl rfl (hN.1 69 _ rfl) (hts (.initialized RX3) (by decide +kernel)) (by decide +kernel) ⟨Nat.le_of_ble_eq_true rfl, Nat.le_of_ble_eq_true rfl⟩, hts (.instanceMethod yX3_nearOf) (by decide +kernel), hts (.selects RX3 yX3_nearOf yX3_nearOf) (by decide +kernel)⟩ (kW_V hP hK hD hN (ci := 3) (q0 := 0) rfl rfl [0, 1] rfl rfl rfl) rfl rfl hl.1 rfl (lv_room (Nat.le_of_ble_eq_true rfl)) dX5_around_33 ⟨Nat.zero_le _, Nat.zero_le _⟩) hP hS (fun H locs hP hS => ?_)
          refine lv_ior hx hb dX5_around_36 ?_
          refine lv_topi (fun all_5 eall_5 => ?_)
          have hr := bd_to hr eall_5
          refine lv_istore_n (lv' := [(2, .int all_5), (5, .int first_4), (4, .int (nI i)), (3, .int left), (0, .ref h0)]) hx hb dX5_around_37 rfl hl (by decide) rfl (fun ls hl => ?_)
          refine lv_iload_n hx hb dX5_around_38 rfl (lv_at hl 3 rfl) ?_
          refine lv_iload_n hx hb dX5_around_39 rfl (lv_at hl 3 rfl) ?_
          refine lv_iconst (v := 1) hx hb dX5_around_40 (by decide) ?_
          refine lv_isub hx hb dX5_around_41 ?_
          refine lv_iand hx hb dX5_around_42 ?_
          refine lv_topi (fun left_6 eleft_6 => ?_)
          have hr := bd_to hr eleft_6
          refine lv_istore_n (lv' := [(3, .int left_6), (2, .int all_5), (5, .int first_4), (4, .int (nI i)), (0, .ref h0)]) hx hb dX5_around_43 rfl hl (by decide) rfl (fun ls hl => ?_)
          refine lv_iinc (v := nI (i + 1)) (lv' := [(4, .int (nI (i + 1))), (3, .int left_6), (2, .int all_5), (5, .int first_4), (0, .ref h0)]) hx hb dX5_around_44 hl (k := 3) rfl (nI_1 _) (by decide) rfl (fun ls hl => ?_)
          refine lv_goto (tgt := 7) hx hb dX5_around_47 (by decide) ?_
          exact ih_7 (i + 1) all_5 left_6 _ _ _ (by omega) hr hP hS (lv_sub hl [0, 2, 1, 4] rfl)
  exact lp_7 16 0 0 set _ _ _ (by omega) hr hP hS (lv_sub hl [0, 2, 1, 3] rfl)
def L_within_11 (f : Nat → Int32) (knot : Int32) (edges : Int32) (k : Int32 → Int32 → Int32) : Nat → Nat → Int32 → Int32 → Int32
  | 0, i, seen, brink => k seen brink
  | n + 1, i, seen, brink =>
    if brink = 0 then
      k seen brink
    else
      bd ((P_around f brink) &&& (seen ^^^ (-1 : Int32))) (fun brink_1 =>
        bd (seen ||| brink_1) (fun seen_2 =>
          L_within_11 f knot edges k n (i + 1) seen_2 brink_1))
def P_within (f : Nat → Int32) (knot : Int32) (edges : Int32) : Int32 :=
  bd (P_bit knot) (fun seen_1 =>
    L_within_11 f knot edges (fun seen brink => seen) edges.toNatClampNeg 0 seen_1 seen_1)
abbrev rm_X5_within : Room := { frames := 2, cells := 0, slots := 0, locals := 46 }
set_option maxHeartbeats 4000000 in
set_option maxRecDepth 100000 in
theorem k_X5_within (l : Launch) (dC : Nat → ClassId) (dI : Nat → Nat → Nat) (cI cN : ClassId) (h0 : Nat) (h1 : Nat) (K : Nat) (f : Nat → Int32) (knot : Int32) (edges : Int32) (hK : K ≤ 16) : Met l yX5_within wsX5_within rm_X5_within (va_Pc [.ref h0, .int knot, .int edges] (kW dC dI cI cN [(h0, .inr (3, [.ref h1, .int (nI K)])), (h1, .inl (cI, 16, .inl f))])) (kR (P_within f knot edges)) 0 0 (fun _ => False) := by
  refine Met.ofW (cc := cX5_within) (maxL := 6) (ret := (some .int)) (by decide) rfl ?_
  intro p e s m args below meth c s₁ B hml hv
  obtain ⟨rfl, hP, hK, hD, hN⟩ := hv
  have hx := B.exec
  have hb := B.bytes
  have hr0 := B.returns
  have hts := atoms_spec (ws := wsX5_within) B.pre
  have hown : s.vm.findClass RX5 = some m.cls := findClass_of_methodNamed B.named
  have hlocks := B.notSynchronized
  have hS : va_S (fun _ => False) s.heap s.heap [] := va_S.rf
  have hl := lv_entry ([.ref h0, .int knot, .int edges]) (n := 6) (Nat.le_of_ble_eq_true rfl)
  rw [lg_entry_eq]
  generalize (lg_sl ([.ref h0, .int knot, .int edges]) ++ List.replicate (6 - (lg_sl ([.ref h0, .int knot, .int edges])).length) Slot.unset).toArray = ls at hl ⊢
  have hl : lv_has ls 6 [(0, .ref h0), (1, .int knot), (2, .int edges)] := hl
  obtain ⟨ρ, hρ⟩ : ∃ ρ : Int32, ρ = P_within f knot edges := ⟨_, rfl⟩
  have hr : P_within f knot edges = ρ := hρ.symm
  rewrite [P_within] at hr
  refine lv_iload_n hx hb dX5_within_0 rfl (lv_at hl 1 rfl) ?_
  refine kCall (va_runSN (As := [.int knot]) (rest := []) ⟨hx, hb, hml, hown, hts⟩ (k_X6_bit l dC dI cI cN knot) ⟨va_cnB 1 hts gX5_within_X6_bit_n20 rfl rfl rfl (hN.1 70 _ rfl) (hts (.initialized RX6) (by decide +kernel)) (by decide +kernel) ⟨Nat.le_of_ble_eq_true rfl, Nat.le_of_ble_eq_true rfl⟩, hts (.static yX6_bit) (by decide +kernel), trivial⟩ (kW_S hP hK hD hN [] rfl rfl rfl) rfl rfl hl.1 rfl (lv_room (Nat.le_of_ble_eq_true rfl)) dX5_within_1 ⟨Nat.zero_le _, Nat.zero_le _⟩) hP hS (fun H locs hP hS => ?_)
  refine lv_topi (fun seen_1 eseen_1 => ?_)
  have hr := bd_to hr eseen_1
  refine lv_istore_n (lv' := [(3, .int seen_1), (0, .ref h0), (1, .int knot), (2, .int edges)]) hx hb dX5_within_4 rfl hl (by decide) rfl (fun ls hl => ?_)
  refine lv_iload_n hx hb dX5_within_5 rfl (lv_at hl 0 rfl) ?_
  refine lv_istore (lv' := [(4, .int seen_1), (3, .int seen_1), (0, .ref h0), (1, .int knot), (2, .int edges)]) hx hb dX5_within_6 hl (by decide) rfl (fun ls hl => ?_)
  refine lv_iconst (v := 0) hx hb dX5_within_8 (by decide) ?_
  refine lv_istore (lv' := [(5, .int 0), (4, .int seen_1), (3, .int seen_1), (0, .ref h0), (1, .int knot), (2, .int edges)]) hx hb dX5_within_9 hl (by decide) rfl (fun ls hl => ?_)
  have ex_11 : ∀ (seen : Int32) (brink : Int32) (H : Heap) (locs : List Loc) (ls : Array Slot), (seen) = ρ → va_P (dC, dI) kCl [(h0, .inr (3, [.ref h1, .int (nI K)])), (h1, .inl (cI, 16, .inl f))] H → va_S (fun _ => False) s.heap H locs → lv_has ls 6 [(3, .int seen), (4, .int brink), (0, .ref h0), (2, .int edges)] → W p l e (headSpec wsX5_within rm_X5_within).room s m (([.ref h0, .int knot, .int edges] : List Value).toArray) below meth c H locs 0 0 (MQ below (kR (P_within f knot edges)) (([.ref h0, .int knot, .int edges] : List Value).toArray) s 0 0 (fun _ => False)) (F0 m 45 ls []) := by
    intro seen brink H locs ls hr hP hS hl
    refine lv_iload_n hx hb dX5_within_45 rfl (lv_at hl 0 rfl) ?_
    have he := hr.trans hρ
    exact W.iret (v := seen) hx hb hr0 (fun t ht hW => kR_end he hS ht) hS.2.2 dX5_within_46
  have lp_11 : ∀ (n_11 i : Nat) (seen : Int32) (brink : Int32) (H : Heap) (locs : List Loc) (ls : Array Slot), i + n_11 = edges.toNatClampNeg → L_within_11 f knot edges (fun seen brink => seen) n_11 i seen brink = ρ → va_P (dC, dI) kCl [(h0, .inr (3, [.ref h1, .int (nI K)])), (h1, .inl (cI, 16, .inl f))] H → va_S (fun _ => False) s.heap H locs → lv_has ls 6 [(5, .int (nI i)), (3, .int seen), (4, .int brink), (0, .ref h0), (2, .int edges)] → W p l e (headSpec wsX5_within rm_X5_within).room s m (([.ref h0, .int knot, .int edges] : List Value).toArray) below meth c H locs 0 0 (MQ below (kR (P_within f knot edges)) (([.ref h0, .int knot, .int edges] : List Value).toArray) s 0 0 (fun _ => False)) (F0 m 11 ls []) := by
    intro n_11
    induction n_11 with
    | zero =>
      intro i seen brink H locs ls hi hr hP hS hl
      rewrite [L_within_11] at hr
      refine lv_iload hx hb dX5_within_11 (lv_at hl 0 rfl) ?_
      refine lv_iload_n hx hb dX5_within_13 rfl (lv_at hl 4 rfl) ?_
      refine lv_icmp_ge (tgt := 45) hx hb dX5_within_14 (by decide) (fun c_2 => ?_) (fun c_2 => ?_)
      · exact ex_11 seen brink _ _ _ hr hP hS (lv_sub hl [1, 2, 3, 4] rfl)
      · exact absurd (kTopC (i := i) (by omega)) c_2
    | succ n_11 ih_11 =>
      intro i seen brink H locs ls hi hr hP hS hl
      rewrite [L_within_11] at hr
      refine lv_iload hx hb dX5_within_11 (lv_at hl 0 rfl) ?_
      refine lv_iload_n hx hb dX5_within_13 rfl (lv_at hl 4 rfl) ?_
      refine lv_icmp_ge (tgt := 45) hx hb dX5_within_14 (by decide) (fun c_3 => ?_) (fun c_3 => ?_)
      · exact absurd c_3 (kLowC (i := i) (by omega))
      · refine lv_iload hx hb dX5_within_17 (lv_at hl 2 rfl) ?_
        refine lv_if_eq (tgt := 45) hx hb dX5_within_19 (by decide) (fun c_4 => ?_) (fun c_4 => ?_)
        · have hr := if_to hr c_4
          exact ex_11 seen brink _ _ _ hr hP hS (lv_sub hl [1, 2, 3, 4] rfl)
        · have hr := if_no hr c_4
          refine lv_aload_n hx hb dX5_within_22 rfl (lv_at hl 3 rfl) ?_
          refine lv_iload hx hb dX5_within_23 (lv_at hl 2 rfl) ?_
          refine kCall (va_runS (As := [.ref h0, .int brink]) (rest := []) ⟨hx, hb, hml, hown, hts⟩ (k_X5_around l dC dI cI cN h0 h1 K f brink (by first | assumption | omega | exact Int32.le_refl _ | decide)) (va_cwS 2 hts gX5_within_X5_around rfl rfl rfl (by decide +kernel) ⟨Nat.le_of_ble_eq_true rfl, Nat.le_of_ble_eq_true rfl⟩) (kW_S hP hK hD hN [0, 1] rfl rfl rfl) rfl rfl hl.1 rfl (lv_room (Nat.le_of_ble_eq_true rfl)) dX5_within_25 ⟨Nat.zero_le _, Nat.zero_le _⟩) hP hS (fun H locs hP hS => ?_)
          refine lv_iload_n hx hb dX5_within_28 rfl (lv_at hl 1 rfl) ?_
          refine lv_iconst (v := (-1)) hx hb dX5_within_29 (by decide) ?_
          refine lv_ixor hx hb dX5_within_30 ?_
          refine lv_iand hx hb dX5_within_31 ?_
          refine lv_topi (fun brink_5 ebrink_5 => ?_)
          have hr := bd_to hr ebrink_5
          refine lv_istore (lv' := [(4, .int brink_5), (5, .int (nI i)), (3, .int seen), (0, .ref h0), (2, .int edges)]) hx hb dX5_within_32 hl (by decide) rfl (fun ls hl => ?_)
          refine lv_iload_n hx hb dX5_within_34 rfl (lv_at hl 2 rfl) ?_
          refine lv_iload hx hb dX5_within_35 (lv_at hl 0 rfl) ?_
          refine lv_ior hx hb dX5_within_37 ?_
          refine lv_topi (fun seen_6 eseen_6 => ?_)
          have hr := bd_to hr eseen_6
          refine lv_istore_n (lv' := [(3, .int seen_6), (4, .int brink_5), (5, .int (nI i)), (0, .ref h0), (2, .int edges)]) hx hb dX5_within_38 rfl hl (by decide) rfl (fun ls hl => ?_)
          refine lv_iinc (v := nI (i + 1)) (lv' := [(5, .int (nI (i + 1))), (3, .int seen_6), (4, .int brink_5), (0, .ref h0), (2, .int edges)]) hx hb dX5_within_39 hl (k := 2) rfl (nI_1 _) (by decide) rfl (fun ls hl => ?_)
          refine lv_goto (tgt := 11) hx hb dX5_within_42 (by decide) ?_
          exact ih_11 (i + 1) seen_6 brink_5 _ _ _ (by omega) hr hP hS (lv_sub hl [0, 1, 2, 3, 4] rfl)
  exact lp_11 edges.toNatClampNeg 0 seen_1 seen_1 _ _ _ (by omega) hr hP hS (lv_sub hl [0, 2, 1, 3, 5] rfl)
def P_partWith (f : Nat → Int32) (knot : Int32) : Int32 :=
  P_within f knot 16
abbrev rm_X5_partWith : Room := { frames := 3, cells := 0, slots := 0, locals := 71 }
set_option maxHeartbeats 4000000 in
set_option maxRecDepth 100000 in
theorem k_X5_partWith (l : Launch) (dC : Nat → ClassId) (dI : Nat → Nat → Nat) (cI cN : ClassId) (h0 : Nat) (h1 : Nat) (K : Nat) (f : Nat → Int32) (knot : Int32) (hK : K ≤ 16) : Met l yX5_partWith wsX5_partWith rm_X5_partWith (va_Pc [.ref h0, .int knot] (kW dC dI cI cN [(h0, .inr (3, [.ref h1, .int (nI K)])), (h1, .inl (cI, 16, .inl f))])) (kR (P_partWith f knot)) 0 0 (fun _ => False) := by
  refine Met.ofW (cc := cX5_partWith) (maxL := 2) (ret := (some .int)) (by decide) rfl ?_
  intro p e s m args below meth c s₁ B hml hv
  obtain ⟨rfl, hP, hK, hD, hN⟩ := hv
  have hx := B.exec
  have hb := B.bytes
  have hr0 := B.returns
  have hts := atoms_spec (ws := wsX5_partWith) B.pre
  have hown : s.vm.findClass RX5 = some m.cls := findClass_of_methodNamed B.named
  have hlocks := B.notSynchronized
  have hS : va_S (fun _ => False) s.heap s.heap [] := va_S.rf
  have hl := lv_entry ([.ref h0, .int knot]) (n := 2) (Nat.le_of_ble_eq_true rfl)
  rw [lg_entry_eq]
  generalize (lg_sl ([.ref h0, .int knot]) ++ List.replicate (2 - (lg_sl ([.ref h0, .int knot])).length) Slot.unset).toArray = ls at hl ⊢
  have hl : lv_has ls 2 [(0, .ref h0), (1, .int knot)] := hl
  obtain ⟨ρ, hρ⟩ : ∃ ρ : Int32, ρ = P_partWith f knot := ⟨_, rfl⟩
  have hr : P_partWith f knot = ρ := hρ.symm
  rewrite [P_partWith] at hr
  refine lv_aload_n hx hb dX5_partWith_0 rfl (lv_at hl 0 rfl) ?_
  refine lv_iload_n hx hb dX5_partWith_1 rfl (lv_at hl 1 rfl) ?_
  refine lv_bipush (v := 16) hx hb dX5_partWith_2 (by decide) ?_
  refine kCall (va_runS (As := [.ref h0, .int knot, .int 16]) (rest := []) ⟨hx, hb, hml, hown, hts⟩ (k_X5_within l dC dI cI cN h0 h1 K f knot 16 (by first | assumption | omega | exact Int32.le_refl _ | decide)) (va_cwS 3 hts gX5_partWith_X5_within rfl rfl rfl (by decide +kernel) ⟨Nat.le_of_ble_eq_true rfl, Nat.le_of_ble_eq_true rfl⟩) (kW_S hP hK hD hN [0, 1] rfl rfl rfl) rfl rfl hl.1 rfl (lv_room (Nat.le_of_ble_eq_true rfl)) dX5_partWith_4 ⟨Nat.zero_le _, Nat.zero_le _⟩) hP hS (fun H locs hP hS => ?_)
  have he := hr.trans hρ
  exact W.iret (v := P_within f knot 16) hx hb hr0 (fun t ht hW => kR_end he hS ht) hS.2.2 dX5_partWith_7
def L_partsInAll_6 (K : Nat) (f : Nat → Int32) (k : Int32 → Int32 → Int32) : Nat → Nat → Int32 → Int32 → Int32
  | 0, i, parts, seen => k parts seen
  | n + 1, i, parts, seen =>
    if (P_holds seen (nI i)) = 0 then
      bd (seen ||| (P_partWith f (nI i))) (fun seen_1 =>
        L_partsInAll_6 K f k n (i + 1) (parts + 1) seen_1)
    else
      L_partsInAll_6 K f k n (i + 1) parts seen
def P_partsInAll (K : Nat) (f : Nat → Int32) : Int32 :=
  L_partsInAll_6 K f (fun parts seen => parts) K 0 0 0
abbrev rm_X5_partsInAll : Room := { frames := 4, cells := 0, slots := 0, locals := 92 }
set_option maxHeartbeats 4000000 in
set_option maxRecDepth 100000 in
theorem k_X5_partsInAll (l : Launch) (dC : Nat → ClassId) (dI : Nat → Nat → Nat) (cI cN : ClassId) (h0 : Nat) (h1 : Nat) (K : Nat) (f : Nat → Int32) (hK : K ≤ 16) : Met l yX5_partsInAll wsX5_partsInAll rm_X5_partsInAll (va_Pc [.ref h0] (kW dC dI cI cN [(h0, .inr (3, [.ref h1, .int (nI K)])), (h1, .inl (cI, 16, .inl f))])) (kR (P_partsInAll K f)) 0 0 (fun _ => False) := by
  refine Met.ofW (cc := cX5_partsInAll) (maxL := 4) (ret := (some .int)) (by decide) rfl ?_
  intro p e s m args below meth c s₁ B hml hv
  obtain ⟨rfl, hP, hK, hD, hN⟩ := hv
  have hx := B.exec
  have hb := B.bytes
  have hr0 := B.returns
  have hts := atoms_spec (ws := wsX5_partsInAll) B.pre
  have hown : s.vm.findClass RX5 = some m.cls := findClass_of_methodNamed B.named
  have hlocks := B.notSynchronized
  have hS : va_S (fun _ => False) s.heap s.heap [] := va_S.rf
  have hl := lv_entry ([.ref h0]) (n := 4) (Nat.le_of_ble_eq_true rfl)
  rw [lg_entry_eq]
  generalize (lg_sl ([.ref h0]) ++ List.replicate (4 - (lg_sl ([.ref h0])).length) Slot.unset).toArray = ls at hl ⊢
  have hl : lv_has ls 4 [(0, .ref h0)] := hl
  obtain ⟨ρ, hρ⟩ : ∃ ρ : Int32, ρ = P_partsInAll K f := ⟨_, rfl⟩
  have hr : P_partsInAll K f = ρ := hρ.symm
  rewrite [P_partsInAll] at hr
  refine lv_iconst (v := 0) hx hb dX5_partsInAll_0 (by decide) ?_
  refine lv_istore_n (lv' := [(1, .int 0), (0, .ref h0)]) hx hb dX5_partsInAll_1 rfl hl (by decide) rfl (fun ls hl => ?_)
  refine lv_iconst (v := 0) hx hb dX5_partsInAll_2 (by decide) ?_
  refine lv_istore_n (lv' := [(2, .int 0), (1, .int 0), (0, .ref h0)]) hx hb dX5_partsInAll_3 rfl hl (by decide) rfl (fun ls hl => ?_)
  refine lv_iconst (v := 0) hx hb dX5_partsInAll_4 (by decide) ?_
  refine lv_istore_n (lv' := [(3, .int 0), (2, .int 0), (1, .int 0), (0, .ref h0)]) hx hb dX5_partsInAll_5 rfl hl (by decide) rfl (fun ls hl => ?_)
  have ex_6 : ∀ (parts : Int32) (seen : Int32) (H : Heap) (locs : List Loc) (ls : Array Slot), (parts) = ρ → va_P (dC, dI) kCl [(h0, .inr (3, [.ref h1, .int (nI K)])), (h1, .inl (cI, 16, .inl f))] H → va_S (fun _ => False) s.heap H locs → lv_has ls 4 [(1, .int parts), (2, .int seen), (0, .ref h0)] → W p l e (headSpec wsX5_partsInAll rm_X5_partsInAll).room s m (([.ref h0] : List Value).toArray) below meth c H locs 0 0 (MQ below (kR (P_partsInAll K f)) (([.ref h0] : List Value).toArray) s 0 0 (fun _ => False)) (F0 m 39 ls []) := by
    intro parts seen H locs ls hr hP hS hl
    refine lv_iload_n hx hb dX5_partsInAll_39 rfl (lv_at hl 0 rfl) ?_
    have he := hr.trans hρ
    exact W.iret (v := parts) hx hb hr0 (fun t ht hW => kR_end he hS ht) hS.2.2 dX5_partsInAll_40
  have lp_6 : ∀ (n_6 i : Nat) (parts : Int32) (seen : Int32) (H : Heap) (locs : List Loc) (ls : Array Slot), i + n_6 = K → L_partsInAll_6 K f (fun parts seen => parts) n_6 i parts seen = ρ → va_P (dC, dI) kCl [(h0, .inr (3, [.ref h1, .int (nI K)])), (h1, .inl (cI, 16, .inl f))] H → va_S (fun _ => False) s.heap H locs → lv_has ls 4 [(3, .int (nI i)), (1, .int parts), (2, .int seen), (0, .ref h0)] → W p l e (headSpec wsX5_partsInAll rm_X5_partsInAll).room s m (([.ref h0] : List Value).toArray) below meth c H locs 0 0 (MQ below (kR (P_partsInAll K f)) (([.ref h0] : List Value).toArray) s 0 0 (fun _ => False)) (F0 m 6 ls []) := by
    intro n_6
    induction n_6 with
    | zero =>
      intro i parts seen H locs ls hi hr hP hS hl
      rewrite [L_partsInAll_6] at hr
      refine lv_iload_n hx hb dX5_partsInAll_6 rfl (lv_at hl 0 rfl) ?_
      refine lv_aload_n hx hb dX5_partsInAll_7 rfl (lv_at hl 3 rfl) ?_
      refine va_getN (D := (dC, dI)) (ci := 3) (v := .int (nI K)) (C := RX3) (T := TX3) (N := 2) hx hb hts (by decide +kernel) hown hK hP 0 rfl rfl 1 (by decide) (va_Nw.use rfl (hN.2 12 _ rfl)) (fun _ h9 => h9) rfl dX5_partsInAll_8 ?_
      refine lv_icmp_ge (tgt := 39) hx hb dX5_partsInAll_11 (by decide) (fun c_1 => ?_) (fun c_1 => ?_)
      · exact ex_6 parts seen _ _ _ hr hP hS (lv_sub hl [1, 2, 3] rfl)
      · exact absurd (kTop (i := i) (N := K) rfl (by omega)) c_1
    | succ n_6 ih_6 =>
      intro i parts seen H locs ls hi hr hP hS hl
      rewrite [L_partsInAll_6] at hr
      refine lv_iload_n hx hb dX5_partsInAll_6 rfl (lv_at hl 0 rfl) ?_
      refine lv_aload_n hx hb dX5_partsInAll_7 rfl (lv_at hl 3 rfl) ?_
      refine va_getN (D := (dC, dI)) (ci := 3) (v := .int (nI K)) (C := RX3) (T := TX3) (N := 2) hx hb hts (by decide +kernel) hown hK hP 0 rfl rfl 1 (by decide) (va_Nw.use rfl (hN.2 12 _ rfl)) (fun _ h9 => h9) rfl dX5_partsInAll_8 ?_
      refine lv_icmp_ge (tgt := 39) hx hb dX5_partsInAll_11 (by decide) (fun c_2 => ?_) (fun c_2 => ?_)
      · exact absurd c_2 (kLow (i := i) (N := K) rfl (by omega) (by omega))
      · refine lv_iload_n hx hb dX5_partsInAll_14 rfl (lv_at hl 2 rfl) ?_
        refine lv_iload_n hx hb dX5_partsInAll_15 rfl (lv_at hl 0 rfl) ?_
        refine kCall (va_runSN (As := [.int seen, .int (nI i)]) (rest := []) ⟨hx, hb, hml, hown, hts⟩ (k_X6_holds l dC dI cI cN seen (nI i)) ⟨va_cnB 2 hts gX5_partsInAll_X6_holds_n37 rfl rfl rfl (hN.1 71 _ rfl) (hts (.initialized RX6) (by decide +kernel)) (by decide +kernel) ⟨Nat.le_of_ble_eq_true rfl, Nat.le_of_ble_eq_true rfl⟩, hts (.static yX6_holds) (by decide +kernel), trivial⟩ (kW_S hP hK hD hN [] rfl rfl rfl) rfl rfl hl.1 rfl (lv_room (Nat.le_of_ble_eq_true rfl)) dX5_partsInAll_16 ⟨Nat.zero_le _, Nat.zero_le _⟩) hP hS (fun H locs hP hS => ?_)
        refine lv_if_ne (tgt := 33) hx hb dX5_partsInAll_19 (by decide) (fun c_3 => ?_) (fun c_3 => ?_)
        · have hr := if_no hr c_3
          refine lv_iinc (v := nI (i + 1)) (lv' := [(3, .int (nI (i + 1))), (1, .int parts), (2, .int seen), (0, .ref h0)]) hx hb dX5_partsInAll_33 hl (k := 0) rfl (nI_1 _) (by decide) rfl (fun ls hl => ?_)
          refine lv_goto (tgt := 6) hx hb dX5_partsInAll_36 (by decide) ?_
          exact ih_6 (i + 1) parts seen _ _ _ (by omega) hr hP hS (lv_sub hl [0, 1, 2, 3] rfl)
        · have hr := if_to hr c_3
          refine lv_iload_n hx hb dX5_partsInAll_22 rfl (lv_at hl 2 rfl) ?_
          refine lv_aload_n hx hb dX5_partsInAll_23 rfl (lv_at hl 3 rfl) ?_
          refine lv_iload_n hx hb dX5_partsInAll_24 rfl (lv_at hl 0 rfl) ?_
          refine kCall (va_runS (As := [.ref h0, .int (nI i)]) (rest := [.int seen]) ⟨hx, hb, hml, hown, hts⟩ (k_X5_partWith l dC dI cI cN h0 h1 K f (nI i) (by first | assumption | omega | exact Int32.le_refl _ | decide)) (va_cwS 2 hts gX5_partsInAll_X5_partWith rfl rfl rfl (by decide +kernel) ⟨Nat.le_of_ble_eq_true rfl, Nat.le_of_ble_eq_true rfl⟩) (kW_S hP hK hD hN [0, 1] rfl rfl rfl) rfl rfl hl.1 rfl (lv_room (Nat.le_of_ble_eq_true rfl)) dX5_partsInAll_25 ⟨Nat.zero_le _, Nat.zero_le _⟩) hP hS (fun H locs hP hS => ?_)
          refine lv_ior hx hb dX5_partsInAll_28 ?_
          refine lv_topi (fun seen_4 eseen_4 => ?_)
          have hr := bd_to hr eseen_4
          refine lv_istore_n (lv' := [(2, .int seen_4), (3, .int (nI i)), (1, .int parts), (0, .ref h0)]) hx hb dX5_partsInAll_29 rfl hl (by decide) rfl (fun ls hl => ?_)
          refine lv_iinc (v := parts + 1) (lv' := [(1, .int (parts + 1)), (2, .int seen_4), (3, .int (nI i)), (0, .ref h0)]) hx hb dX5_partsInAll_30 hl (k := 2) rfl rfl (by decide) rfl (fun ls hl => ?_)
          refine lv_iinc (v := nI (i + 1)) (lv' := [(3, .int (nI (i + 1))), (1, .int (parts + 1)), (2, .int seen_4), (0, .ref h0)]) hx hb dX5_partsInAll_33 hl (k := 2) rfl (nI_1 _) (by decide) rfl (fun ls hl => ?_)
          refine lv_goto (tgt := 6) hx hb dX5_partsInAll_36 (by decide) ?_
          exact ih_6 (i + 1) (parts + 1) seen_4 _ _ _ (by omega) hr hP hS (lv_sub hl [0, 1, 2, 3] rfl)
  exact lp_6 K 0 0 0 _ _ _ (by omega) hr hP hS (lv_sub hl [0, 2, 1, 3] rfl)
def L_partNumber_7 (f : Nat → Int32) (knot : Int32) (k : Int32 → Int32 → Int32) : Nat → Nat → Int32 → Int32 → Int32
  | 0, first, number, seen => k number seen
  | n + 1, first, number, seen =>
    if (P_holds seen (nI first)) = 0 then
      bd (seen ||| (P_partWith f (nI first))) (fun seen_1 =>
        if (P_holds seen_1 knot) = 0 then
          L_partNumber_7 f knot k n (first + 1) (number + 1) seen_1
        else
          number)
    else
      L_partNumber_7 f knot k n (first + 1) number seen
def P_partNumber (f : Nat → Int32) (knot : Int32) : Int32 :=
  L_partNumber_7 f knot (fun number seen => number) knot.toNatClampNeg 0 0 0
abbrev rm_X5_partNumber : Room := { frames := 4, cells := 0, slots := 0, locals := 92 }
set_option maxHeartbeats 4000000 in
set_option maxRecDepth 100000 in
theorem k_X5_partNumber (l : Launch) (dC : Nat → ClassId) (dI : Nat → Nat → Nat) (cI cN : ClassId) (h0 : Nat) (h1 : Nat) (K : Nat) (f : Nat → Int32) (knot : Int32) (hK : K ≤ 16) : Met l yX5_partNumber wsX5_partNumber rm_X5_partNumber (va_Pc [.ref h0, .int knot] (kW dC dI cI cN [(h0, .inr (3, [.ref h1, .int (nI K)])), (h1, .inl (cI, 16, .inl f))])) (kR (P_partNumber f knot)) 0 0 (fun _ => False) := by
  refine Met.ofW (cc := cX5_partNumber) (maxL := 5) (ret := (some .int)) (by decide) rfl ?_
  intro p e s m args below meth c s₁ B hml hv
  obtain ⟨rfl, hP, hK, hD, hN⟩ := hv
  have hx := B.exec
  have hb := B.bytes
  have hr0 := B.returns
  have hts := atoms_spec (ws := wsX5_partNumber) B.pre
  have hown : s.vm.findClass RX5 = some m.cls := findClass_of_methodNamed B.named
  have hlocks := B.notSynchronized
  have hS : va_S (fun _ => False) s.heap s.heap [] := va_S.rf
  have hl := lv_entry ([.ref h0, .int knot]) (n := 5) (Nat.le_of_ble_eq_true rfl)
  rw [lg_entry_eq]
  generalize (lg_sl ([.ref h0, .int knot]) ++ List.replicate (5 - (lg_sl ([.ref h0, .int knot])).length) Slot.unset).toArray = ls at hl ⊢
  have hl : lv_has ls 5 [(0, .ref h0), (1, .int knot)] := hl
  obtain ⟨ρ, hρ⟩ : ∃ ρ : Int32, ρ = P_partNumber f knot := ⟨_, rfl⟩
  have hr : P_partNumber f knot = ρ := hρ.symm
  rewrite [P_partNumber] at hr
  refine lv_iconst (v := 0) hx hb dX5_partNumber_0 (by decide) ?_
  refine lv_istore_n (lv' := [(2, .int 0), (0, .ref h0), (1, .int knot)]) hx hb dX5_partNumber_1 rfl hl (by decide) rfl (fun ls hl => ?_)
  refine lv_iconst (v := 0) hx hb dX5_partNumber_2 (by decide) ?_
  refine lv_istore_n (lv' := [(3, .int 0), (2, .int 0), (0, .ref h0), (1, .int knot)]) hx hb dX5_partNumber_3 rfl hl (by decide) rfl (fun ls hl => ?_)
  refine lv_iconst (v := 0) hx hb dX5_partNumber_4 (by decide) ?_
  refine lv_istore (lv' := [(4, .int 0), (3, .int 0), (2, .int 0), (0, .ref h0), (1, .int knot)]) hx hb dX5_partNumber_5 hl (by decide) rfl (fun ls hl => ?_)
  have ex_7 : ∀ (number : Int32) (seen : Int32) (H : Heap) (locs : List Loc) (ls : Array Slot), (number) = ρ → va_P (dC, dI) kCl [(h0, .inr (3, [.ref h1, .int (nI K)])), (h1, .inl (cI, 16, .inl f))] H → va_S (fun _ => False) s.heap H locs → lv_has ls 5 [(2, .int number), (3, .int seen), (0, .ref h0), (1, .int knot)] → W p l e (headSpec wsX5_partNumber rm_X5_partNumber).room s m (([.ref h0, .int knot] : List Value).toArray) below meth c H locs 0 0 (MQ below (kR (P_partNumber f knot)) (([.ref h0, .int knot] : List Value).toArray) s 0 0 (fun _ => False)) (F0 m 50 ls []) := by
    intro number seen H locs ls hr hP hS hl
    refine lv_iload_n hx hb dX5_partNumber_50 rfl (lv_at hl 0 rfl) ?_
    have he := hr.trans hρ
    exact W.iret (v := number) hx hb hr0 (fun t ht hW => kR_end he hS ht) hS.2.2 dX5_partNumber_51
  have lp_7 : ∀ (n_7 first : Nat) (number : Int32) (seen : Int32) (H : Heap) (locs : List Loc) (ls : Array Slot), first + n_7 = knot.toNatClampNeg → L_partNumber_7 f knot (fun number seen => number) n_7 first number seen = ρ → va_P (dC, dI) kCl [(h0, .inr (3, [.ref h1, .int (nI K)])), (h1, .inl (cI, 16, .inl f))] H → va_S (fun _ => False) s.heap H locs → lv_has ls 5 [(4, .int (nI first)), (2, .int number), (3, .int seen), (0, .ref h0), (1, .int knot)] → W p l e (headSpec wsX5_partNumber rm_X5_partNumber).room s m (([.ref h0, .int knot] : List Value).toArray) below meth c H locs 0 0 (MQ below (kR (P_partNumber f knot)) (([.ref h0, .int knot] : List Value).toArray) s 0 0 (fun _ => False)) (F0 m 7 ls []) := by
    intro n_7
    induction n_7 with
    | zero =>
      intro first number seen H locs ls hi hr hP hS hl
      rewrite [L_partNumber_7] at hr
      refine lv_iload hx hb dX5_partNumber_7 (lv_at hl 0 rfl) ?_
      refine lv_iload_n hx hb dX5_partNumber_9 rfl (lv_at hl 4 rfl) ?_
      refine lv_icmp_ge (tgt := 50) hx hb dX5_partNumber_10 (by decide) (fun c_1 => ?_) (fun c_1 => ?_)
      · exact ex_7 number seen _ _ _ hr hP hS (lv_sub hl [1, 2, 3, 4] rfl)
      · exact absurd (kTopC (i := first) (by omega)) c_1
    | succ n_7 ih_7 =>
      intro first number seen H locs ls hi hr hP hS hl
      rewrite [L_partNumber_7] at hr
      refine lv_iload hx hb dX5_partNumber_7 (lv_at hl 0 rfl) ?_
      refine lv_iload_n hx hb dX5_partNumber_9 rfl (lv_at hl 4 rfl) ?_
      refine lv_icmp_ge (tgt := 50) hx hb dX5_partNumber_10 (by decide) (fun c_2 => ?_) (fun c_2 => ?_)
      · exact absurd c_2 (kLowC (i := first) (by omega))
      · refine lv_iload_n hx hb dX5_partNumber_13 rfl (lv_at hl 2 rfl) ?_
        refine lv_iload hx hb dX5_partNumber_14 (lv_at hl 0 rfl) ?_
        refine kCall (va_runSN (As := [.int seen, .int (nI first)]) (rest := []) ⟨hx, hb, hml, hown, hts⟩ (k_X6_holds l dC dI cI cN seen (nI first)) ⟨va_cnB 2 hts gX5_partNumber_X6_holds_n37 rfl rfl rfl (hN.1 71 _ rfl) (hts (.initialized RX6) (by decide +kernel)) (by decide +kernel) ⟨Nat.le_of_ble_eq_true rfl, Nat.le_of_ble_eq_true rfl⟩, hts (.static yX6_holds) (by decide +kernel), trivial⟩ (kW_S hP hK hD hN [] rfl rfl rfl) rfl rfl hl.1 rfl (lv_room (Nat.le_of_ble_eq_true rfl)) dX5_partNumber_16 ⟨Nat.zero_le _, Nat.zero_le _⟩) hP hS (fun H locs hP hS => ?_)
        refine lv_if_ne (tgt := 44) hx hb dX5_partNumber_19 (by decide) (fun c_3 => ?_) (fun c_3 => ?_)
        · have hr := if_no hr c_3
          refine lv_iinc (v := nI (first + 1)) (lv' := [(4, .int (nI (first + 1))), (2, .int number), (3, .int seen), (0, .ref h0), (1, .int knot)]) hx hb dX5_partNumber_44 hl (k := 0) rfl (nI_1 _) (by decide) rfl (fun ls hl => ?_)
          refine lv_goto (tgt := 7) hx hb dX5_partNumber_47 (by decide) ?_
          exact ih_7 (first + 1) number seen _ _ _ (by omega) hr hP hS (lv_sub hl [0, 1, 2, 3, 4] rfl)
        · have hr := if_to hr c_3
          refine lv_iload_n hx hb dX5_partNumber_22 rfl (lv_at hl 2 rfl) ?_
          refine lv_aload_n hx hb dX5_partNumber_23 rfl (lv_at hl 3 rfl) ?_
          refine lv_iload hx hb dX5_partNumber_24 (lv_at hl 0 rfl) ?_
          refine kCall (va_runS (As := [.ref h0, .int (nI first)]) (rest := [.int seen]) ⟨hx, hb, hml, hown, hts⟩ (k_X5_partWith l dC dI cI cN h0 h1 K f (nI first) (by first | assumption | omega | exact Int32.le_refl _ | decide)) (va_cwS 2 hts gX5_partNumber_X5_partWith rfl rfl rfl (by decide +kernel) ⟨Nat.le_of_ble_eq_true rfl, Nat.le_of_ble_eq_true rfl⟩) (kW_S hP hK hD hN [0, 1] rfl rfl rfl) rfl rfl hl.1 rfl (lv_room (Nat.le_of_ble_eq_true rfl)) dX5_partNumber_26 ⟨Nat.zero_le _, Nat.zero_le _⟩) hP hS (fun H locs hP hS => ?_)
          refine lv_ior hx hb dX5_partNumber_29 ?_
          refine lv_topi (fun seen_4 eseen_4 => ?_)
          have hr := bd_to hr eseen_4
          refine lv_istore_n (lv' := [(3, .int seen_4), (4, .int (nI first)), (2, .int number), (0, .ref h0), (1, .int knot)]) hx hb dX5_partNumber_30 rfl hl (by decide) rfl (fun ls hl => ?_)
          refine lv_iload_n hx hb dX5_partNumber_31 rfl (lv_at hl 0 rfl) ?_
          refine lv_iload_n hx hb dX5_partNumber_32 rfl (lv_at hl 4 rfl) ?_
          refine kCall (va_runSN (As := [.int seen_4, .int knot]) (rest := []) ⟨hx, hb, hml, hown, hts⟩ (k_X6_holds l dC dI cI cN seen_4 knot) ⟨va_cnB 2 hts gX5_partNumber_X6_holds_n37 rfl rfl rfl (hN.1 71 _ rfl) (hts (.initialized RX6) (by decide +kernel)) (by decide +kernel) ⟨Nat.le_of_ble_eq_true rfl, Nat.le_of_ble_eq_true rfl⟩, hts (.static yX6_holds) (by decide +kernel), trivial⟩ (kW_S hP hK hD hN [] rfl rfl rfl) rfl rfl hl.1 rfl (lv_room (Nat.le_of_ble_eq_true rfl)) dX5_partNumber_33 ⟨Nat.zero_le _, Nat.zero_le _⟩) hP hS (fun H locs hP hS => ?_)
          refine lv_if_eq (tgt := 41) hx hb dX5_partNumber_36 (by decide) (fun c_5 => ?_) (fun c_5 => ?_)
          · have hr := if_to hr c_5
            refine lv_iinc (v := number + 1) (lv' := [(2, .int (number + 1)), (3, .int seen_4), (4, .int (nI first)), (0, .ref h0), (1, .int knot)]) hx hb dX5_partNumber_41 hl (k := 2) rfl rfl (by decide) rfl (fun ls hl => ?_)
            refine lv_iinc (v := nI (first + 1)) (lv' := [(4, .int (nI (first + 1))), (2, .int (number + 1)), (3, .int seen_4), (0, .ref h0), (1, .int knot)]) hx hb dX5_partNumber_44 hl (k := 2) rfl (nI_1 _) (by decide) rfl (fun ls hl => ?_)
            refine lv_goto (tgt := 7) hx hb dX5_partNumber_47 (by decide) ?_
            exact ih_7 (first + 1) (number + 1) seen_4 _ _ _ (by omega) hr hP hS (lv_sub hl [0, 1, 2, 3, 4] rfl)
          · have hr := if_no hr c_5
            refine lv_iload_n hx hb dX5_partNumber_39 rfl (lv_at hl 2 rfl) ?_
            have he := hr.trans hρ
            exact W.iret (v := number) hx hb hr0 (fun t ht hW => kR_end he hS ht) hS.2.2 dX5_partNumber_40
  exact lp_7 knot.toNatClampNeg 0 0 0 _ _ _ (by omega) hr hP hS (lv_sub hl [0, 2, 1, 3, 4] rfl)
def L_greatestDistance_10 (f : Nat → Int32) (knot : Int32) (k : Int32 → Int32 → Int32) : Nat → Nat → Int32 → Int32 → Int32
  | 0, edges, seen, brink => k seen brink
  | n + 1, edges, seen, brink =>
    bd ((P_around f brink) &&& (seen ^^^ (-1 : Int32))) (fun brink_1 =>
      if brink_1 = 0 then
        nI edges
      else
        bd (seen ||| brink_1) (fun seen_2 =>
          L_greatestDistance_10 f knot k n (edges + 1) seen_2 brink_1))
def P_greatestDistance (f : Nat → Int32) (knot : Int32) : Int32 :=
  bd (P_bit knot) (fun seen_1 =>
    L_greatestDistance_10 f knot (fun seen brink => 16) 16 0 seen_1 seen_1)
abbrev rm_X5_greatestDistance : Room := { frames := 2, cells := 0, slots := 0, locals := 46 }
set_option maxHeartbeats 4000000 in
set_option maxRecDepth 100000 in
theorem k_X5_greatestDistance (l : Launch) (dC : Nat → ClassId) (dI : Nat → Nat → Nat) (cI cN : ClassId) (h0 : Nat) (h1 : Nat) (K : Nat) (f : Nat → Int32) (knot : Int32) (hK : K ≤ 16) : Met l yX5_greatestDistance wsX5_greatestDistance rm_X5_greatestDistance (va_Pc [.ref h0, .int knot] (kW dC dI cI cN [(h0, .inr (3, [.ref h1, .int (nI K)])), (h1, .inl (cI, 16, .inl f))])) (kR (P_greatestDistance f knot)) 0 0 (fun _ => False) := by
  refine Met.ofW (cc := cX5_greatestDistance) (maxL := 5) (ret := (some .int)) (by decide) rfl ?_
  intro p e s m args below meth c s₁ B hml hv
  obtain ⟨rfl, hP, hK, hD, hN⟩ := hv
  have hx := B.exec
  have hb := B.bytes
  have hr0 := B.returns
  have hts := atoms_spec (ws := wsX5_greatestDistance) B.pre
  have hown : s.vm.findClass RX5 = some m.cls := findClass_of_methodNamed B.named
  have hlocks := B.notSynchronized
  have hS : va_S (fun _ => False) s.heap s.heap [] := va_S.rf
  have hl := lv_entry ([.ref h0, .int knot]) (n := 5) (Nat.le_of_ble_eq_true rfl)
  rw [lg_entry_eq]
  generalize (lg_sl ([.ref h0, .int knot]) ++ List.replicate (5 - (lg_sl ([.ref h0, .int knot])).length) Slot.unset).toArray = ls at hl ⊢
  have hl : lv_has ls 5 [(0, .ref h0), (1, .int knot)] := hl
  obtain ⟨ρ, hρ⟩ : ∃ ρ : Int32, ρ = P_greatestDistance f knot := ⟨_, rfl⟩
  have hr : P_greatestDistance f knot = ρ := hρ.symm
  rewrite [P_greatestDistance] at hr
  refine lv_iload_n hx hb dX5_greatestDistance_0 rfl (lv_at hl 1 rfl) ?_
  refine kCall (va_runSN (As := [.int knot]) (rest := []) ⟨hx, hb, hml, hown, hts⟩ (k_X6_bit l dC dI cI cN knot) ⟨va_cnB 1 hts gX5_greatestDistance_X6_bit_n20 rfl rfl rfl (hN.1 70 _ rfl) (hts (.initialized RX6) (by decide +kernel)) (by decide +kernel) ⟨Nat.le_of_ble_eq_true rfl, Nat.le_of_ble_eq_true rfl⟩, hts (.static yX6_bit) (by decide +kernel), trivial⟩ (kW_S hP hK hD hN [] rfl rfl rfl) rfl rfl hl.1 rfl (lv_room (Nat.le_of_ble_eq_true rfl)) dX5_greatestDistance_1 ⟨Nat.zero_le _, Nat.zero_le _⟩) hP hS (fun H locs hP hS => ?_)
  refine lv_topi (fun seen_1 eseen_1 => ?_)
  have hr := bd_to hr eseen_1
  refine lv_istore_n (lv' := [(2, .int seen_1), (0, .ref h0), (1, .int knot)]) hx hb dX5_greatestDistance_4 rfl hl (by decide) rfl (fun ls hl => ?_)
  refine lv_iload_n hx hb dX5_greatestDistance_5 rfl (lv_at hl 0 rfl) ?_
  refine lv_istore_n (lv' := [(3, .int seen_1), (2, .int seen_1), (0, .ref h0), (1, .int knot)]) hx hb dX5_greatestDistance_6 rfl hl (by decide) rfl (fun ls hl => ?_)
  refine lv_iconst (v := 0) hx hb dX5_greatestDistance_7 (by decide) ?_
  refine lv_istore (lv' := [(4, .int 0), (3, .int seen_1), (2, .int seen_1), (0, .ref h0), (1, .int knot)]) hx hb dX5_greatestDistance_8 hl (by decide) rfl (fun ls hl => ?_)
  have ex_10 : ∀ (seen : Int32) (brink : Int32) (H : Heap) (locs : List Loc) (ls : Array Slot), (16) = ρ → va_P (dC, dI) kCl [(h0, .inr (3, [.ref h1, .int (nI K)])), (h1, .inl (cI, 16, .inl f))] H → va_S (fun _ => False) s.heap H locs → lv_has ls 5 [(2, .int seen), (3, .int brink), (0, .ref h0)] → W p l e (headSpec wsX5_greatestDistance rm_X5_greatestDistance).room s m (([.ref h0, .int knot] : List Value).toArray) below meth c H locs 0 0 (MQ below (kR (P_greatestDistance f knot)) (([.ref h0, .int knot] : List Value).toArray) s 0 0 (fun _ => False)) (F0 m 44 ls []) := by
    intro seen brink H locs ls hr hP hS hl
    refine lv_bipush (v := 16) hx hb dX5_greatestDistance_44 (by decide) ?_
    have he := hr.trans hρ
    exact W.iret (v := 16) hx hb hr0 (fun t ht hW => kR_end he hS ht) hS.2.2 dX5_greatestDistance_46
  have lp_10 : ∀ (n_10 edges : Nat) (seen : Int32) (brink : Int32) (H : Heap) (locs : List Loc) (ls : Array Slot), edges + n_10 = 16 → L_greatestDistance_10 f knot (fun seen brink => 16) n_10 edges seen brink = ρ → va_P (dC, dI) kCl [(h0, .inr (3, [.ref h1, .int (nI K)])), (h1, .inl (cI, 16, .inl f))] H → va_S (fun _ => False) s.heap H locs → lv_has ls 5 [(4, .int (nI edges)), (2, .int seen), (3, .int brink), (0, .ref h0)] → W p l e (headSpec wsX5_greatestDistance rm_X5_greatestDistance).room s m (([.ref h0, .int knot] : List Value).toArray) below meth c H locs 0 0 (MQ below (kR (P_greatestDistance f knot)) (([.ref h0, .int knot] : List Value).toArray) s 0 0 (fun _ => False)) (F0 m 10 ls []) := by
    intro n_10
    induction n_10 with
    | zero =>
      intro edges seen brink H locs ls hi hr hP hS hl
      rewrite [L_greatestDistance_10] at hr
      refine lv_iload hx hb dX5_greatestDistance_10 (lv_at hl 0 rfl) ?_
      refine lv_bipush (v := 16) hx hb dX5_greatestDistance_12 (by decide) ?_
      refine lv_icmp_ge (tgt := 44) hx hb dX5_greatestDistance_14 (by decide) (fun c_2 => ?_) (fun c_2 => ?_)
      · exact ex_10 seen brink _ _ _ hr hP hS (lv_sub hl [1, 2, 3] rfl)
      · exact absurd (kTop (i := edges) (N := 16) rfl (by omega)) c_2
    | succ n_10 ih_10 =>
      intro edges seen brink H locs ls hi hr hP hS hl
      rewrite [L_greatestDistance_10] at hr
      refine lv_iload hx hb dX5_greatestDistance_10 (lv_at hl 0 rfl) ?_
      refine lv_bipush (v := 16) hx hb dX5_greatestDistance_12 (by decide) ?_
      refine lv_icmp_ge (tgt := 44) hx hb dX5_greatestDistance_14 (by decide) (fun c_3 => ?_) (fun c_3 => ?_)
      · exact absurd c_3 (kLow (i := edges) (N := 16) rfl (by omega) (by omega))
      · refine lv_aload_n hx hb dX5_greatestDistance_17 rfl (lv_at hl 3 rfl) ?_
        refine lv_iload_n hx hb dX5_greatestDistance_18 rfl (lv_at hl 2 rfl) ?_
        refine kCall (va_runS (As := [.ref h0, .int brink]) (rest := []) ⟨hx, hb, hml, hown, hts⟩ (k_X5_around l dC dI cI cN h0 h1 K f brink (by first | assumption | omega | exact Int32.le_refl _ | decide)) (va_cwS 2 hts gX5_greatestDistance_X5_around rfl rfl rfl (by decide +kernel) ⟨Nat.le_of_ble_eq_true rfl, Nat.le_of_ble_eq_true rfl⟩) (kW_S hP hK hD hN [0, 1] rfl rfl rfl) rfl rfl hl.1 rfl (lv_room (Nat.le_of_ble_eq_true rfl)) dX5_greatestDistance_19 ⟨Nat.zero_le _, Nat.zero_le _⟩) hP hS (fun H locs hP hS => ?_)
        refine lv_iload_n hx hb dX5_greatestDistance_22 rfl (lv_at hl 1 rfl) ?_
        refine lv_iconst (v := (-1)) hx hb dX5_greatestDistance_23 (by decide) ?_
        refine lv_ixor hx hb dX5_greatestDistance_24 ?_
        refine lv_iand hx hb dX5_greatestDistance_25 ?_
        refine lv_topi (fun brink_4 ebrink_4 => ?_)
        have hr := bd_to hr ebrink_4
        refine lv_istore_n (lv' := [(3, .int brink_4), (4, .int (nI edges)), (2, .int seen), (0, .ref h0)]) hx hb dX5_greatestDistance_26 rfl hl (by decide) rfl (fun ls hl => ?_)
        refine lv_iload_n hx hb dX5_greatestDistance_27 rfl (lv_at hl 0 rfl) ?_
        refine lv_if_ne (tgt := 34) hx hb dX5_greatestDistance_28 (by decide) (fun c_5 => ?_) (fun c_5 => ?_)
        · have hr := if_no hr c_5
          refine lv_iload_n hx hb dX5_greatestDistance_34 rfl (lv_at hl 2 rfl) ?_
          refine lv_iload_n hx hb dX5_greatestDistance_35 rfl (lv_at hl 0 rfl) ?_
          refine lv_ior hx hb dX5_greatestDistance_36 ?_
          refine lv_topi (fun seen_6 eseen_6 => ?_)
          have hr := bd_to hr eseen_6
          refine lv_istore_n (lv' := [(2, .int seen_6), (3, .int brink_4), (4, .int (nI edges)), (0, .ref h0)]) hx hb dX5_greatestDistance_37 rfl hl (by decide) rfl (fun ls hl => ?_)
          refine lv_iinc (v := nI (edges + 1)) (lv' := [(4, .int (nI (edges + 1))), (2, .int seen_6), (3, .int brink_4), (0, .ref h0)]) hx hb dX5_greatestDistance_38 hl (k := 2) rfl (nI_1 _) (by decide) rfl (fun ls hl => ?_)
          refine lv_goto (tgt := 10) hx hb dX5_greatestDistance_41 (by decide) ?_
          exact ih_10 (edges + 1) seen_6 brink_4 _ _ _ (by omega) hr hP hS (lv_sub hl [0, 1, 2, 3] rfl)
        · have hr := if_to hr c_5
          refine lv_iload hx hb dX5_greatestDistance_31 (lv_at hl 1 rfl) ?_
          have he := hr.trans hρ
          exact W.iret (v := nI edges) hx hb hr0 (fun t ht hW => kR_end he hS ht) hS.2.2 dX5_greatestDistance_33
  exact lp_10 16 0 seen_1 seen_1 _ _ _ (by omega) hr hP hS (lv_sub hl [0, 2, 1, 3] rfl)
def L_width_14 (K : Nat) (f : Nat → Int32) (k : Int32 → Int32) : Nat → Nat → Int32 → Int32
  | 0, i, width => k width
  | n + 1, i, width =>
    bd (if width < (P_greatestDistance f (nI i)) then (P_greatestDistance f (nI i)) else width) (fun width_1 =>
      L_width_14 K f k n (i + 1) width_1)
def P_width (K : Nat) (f : Nat → Int32) : Int32 :=
  if (P_partsInAll K f) = (1 : Int32) then
    L_width_14 K f (fun width => width) K 0 0
  else
    (-1)
abbrev rm_X5_width : Room := { frames := 5, cells := 0, slots := 0, locals := 115 }
set_option maxHeartbeats 4000000 in
set_option maxRecDepth 100000 in
theorem k_X5_width (l : Launch) (dC : Nat → ClassId) (dI : Nat → Nat → Nat) (cI cN : ClassId) (h0 : Nat) (h1 : Nat) (K : Nat) (f : Nat → Int32) (hK : K ≤ 16) : Met l yX5_width wsX5_width rm_X5_width (va_Pc [.ref h0] (kW dC dI cI cN [(h0, .inr (3, [.ref h1, .int (nI K)])), (h1, .inl (cI, 16, .inl f))])) (kR (P_width K f)) 0 0 (fun _ => False) := by
  refine Met.ofW (cc := cX5_width) (maxL := 3) (ret := (some .int)) (by decide) rfl ?_
  intro p e s m args below meth c s₁ B hml hv
  obtain ⟨rfl, hP, hK, hD, hN⟩ := hv
  have hx := B.exec
  have hb := B.bytes
  have hr0 := B.returns
  have hts := atoms_spec (ws := wsX5_width) B.pre
  have hown : s.vm.findClass RX5 = some m.cls := findClass_of_methodNamed B.named
  have hlocks := B.notSynchronized
  have hS : va_S (fun _ => False) s.heap s.heap [] := va_S.rf
  have hl := lv_entry ([.ref h0]) (n := 3) (Nat.le_of_ble_eq_true rfl)
  rw [lg_entry_eq]
  generalize (lg_sl ([.ref h0]) ++ List.replicate (3 - (lg_sl ([.ref h0])).length) Slot.unset).toArray = ls at hl ⊢
  have hl : lv_has ls 3 [(0, .ref h0)] := hl
  obtain ⟨ρ, hρ⟩ : ∃ ρ : Int32, ρ = P_width K f := ⟨_, rfl⟩
  have hr : P_width K f = ρ := hρ.symm
  rewrite [P_width] at hr
  refine lv_aload_n hx hb dX5_width_0 rfl (lv_at hl 0 rfl) ?_
  refine kCall (va_runS (As := [.ref h0]) (rest := []) ⟨hx, hb, hml, hown, hts⟩ (k_X5_partsInAll l dC dI cI cN h0 h1 K f (by first | assumption | omega | exact Int32.le_refl _ | decide)) (va_cwS 1 hts gX5_width_X5_partsInAll rfl rfl rfl (by decide +kernel) ⟨Nat.le_of_ble_eq_true rfl, Nat.le_of_ble_eq_true rfl⟩) (kW_S hP hK hD hN [0, 1] rfl rfl rfl) rfl rfl hl.1 rfl (lv_room (Nat.le_of_ble_eq_true rfl)) dX5_width_1 ⟨Nat.zero_le _, Nat.zero_le _⟩) hP hS (fun H locs hP hS => ?_)
  refine lv_iconst (v := 1) hx hb dX5_width_4 (by decide) ?_
  refine lv_icmp_eq (tgt := 10) hx hb dX5_width_5 (by decide) (fun c_1 => ?_) (fun c_1 => ?_)
  · have hr := if_to hr c_1
    refine lv_iconst (v := 0) hx hb dX5_width_10 (by decide) ?_
    refine lv_istore_n (lv' := [(1, .int 0), (0, .ref h0)]) hx hb dX5_width_11 rfl hl (by decide) rfl (fun ls hl => ?_)
    refine lv_iconst (v := 0) hx hb dX5_width_12 (by decide) ?_
    refine lv_istore_n (lv' := [(2, .int 0), (1, .int 0), (0, .ref h0)]) hx hb dX5_width_13 rfl hl (by decide) rfl (fun ls hl => ?_)
    have ex_14 : ∀ (width : Int32) (H : Heap) (locs : List Loc) (ls : Array Slot), (width) = ρ → va_P (dC, dI) kCl [(h0, .inr (3, [.ref h1, .int (nI K)])), (h1, .inl (cI, 16, .inl f))] H → va_S (fun _ => False) s.heap H locs → lv_has ls 3 [(1, .int width), (0, .ref h0)] → W p l e (headSpec wsX5_width rm_X5_width).room s m (([.ref h0] : List Value).toArray) below meth c H locs 0 0 (MQ below (kR (P_width K f)) (([.ref h0] : List Value).toArray) s 0 0 (fun _ => False)) (F0 m 38 ls []) := by
      intro width H locs ls hr hP hS hl
      refine lv_iload_n hx hb dX5_width_38 rfl (lv_at hl 0 rfl) ?_
      have he := hr.trans hρ
      exact W.iret (v := width) hx hb hr0 (fun t ht hW => kR_end he hS ht) hS.2.2 dX5_width_39
    have lp_14 : ∀ (n_14 i : Nat) (width : Int32) (H : Heap) (locs : List Loc) (ls : Array Slot), i + n_14 = K → L_width_14 K f (fun width => width) n_14 i width = ρ → va_P (dC, dI) kCl [(h0, .inr (3, [.ref h1, .int (nI K)])), (h1, .inl (cI, 16, .inl f))] H → va_S (fun _ => False) s.heap H locs → lv_has ls 3 [(2, .int (nI i)), (1, .int width), (0, .ref h0)] → W p l e (headSpec wsX5_width rm_X5_width).room s m (([.ref h0] : List Value).toArray) below meth c H locs 0 0 (MQ below (kR (P_width K f)) (([.ref h0] : List Value).toArray) s 0 0 (fun _ => False)) (F0 m 14 ls []) := by
      intro n_14
      induction n_14 with
      | zero =>
        intro i width H locs ls hi hr hP hS hl
        rewrite [L_width_14] at hr
        refine lv_iload_n hx hb dX5_width_14 rfl (lv_at hl 0 rfl) ?_
        refine lv_aload_n hx hb dX5_width_15 rfl (lv_at hl 2 rfl) ?_
        refine va_getN (D := (dC, dI)) (ci := 3) (v := .int (nI K)) (C := RX3) (T := TX3) (N := 2) hx hb hts (by decide +kernel) hown hK hP 0 rfl rfl 1 (by decide) (va_Nw.use rfl (hN.2 12 _ rfl)) (fun _ h9 => h9) rfl dX5_width_16 ?_
        refine lv_icmp_ge (tgt := 38) hx hb dX5_width_19 (by decide) (fun c_2 => ?_) (fun c_2 => ?_)
        · exact ex_14 width _ _ _ hr hP hS (lv_sub hl [1, 2] rfl)
        · exact absurd (kTop (i := i) (N := K) rfl (by omega)) c_2
      | succ n_14 ih_14 =>
        intro i width H locs ls hi hr hP hS hl
        rewrite [L_width_14] at hr
        refine lv_iload_n hx hb dX5_width_14 rfl (lv_at hl 0 rfl) ?_
        refine lv_aload_n hx hb dX5_width_15 rfl (lv_at hl 2 rfl) ?_
        refine va_getN (D := (dC, dI)) (ci := 3) (v := .int (nI K)) (C := RX3) (T := TX3) (N := 2) hx hb hts (by decide +kernel) hown hK hP 0 rfl rfl 1 (by decide) (va_Nw.use rfl (hN.2 12 _ rfl)) (fun _ h9 => h9) rfl dX5_width_16 ?_
        refine lv_icmp_ge (tgt := 38) hx hb dX5_width_19 (by decide) (fun c_3 => ?_) (fun c_3 => ?_)
        · exact absurd c_3 (kLow (i := i) (N := K) rfl (by omega) (by omega))
        · refine lv_iload_n hx hb dX5_width_22 rfl (lv_at hl 1 rfl) ?_
          refine lv_aload_n hx hb dX5_width_23 rfl (lv_at hl 2 rfl) ?_
          refine lv_iload_n hx hb dX5_width_24 rfl (lv_at hl 0 rfl) ?_
          refine kCall (va_runS (As := [.ref h0, .int (nI i)]) (rest := [.int width]) ⟨hx, hb, hml, hown, hts⟩ (k_X5_greatestDistance l dC dI cI cN h0 h1 K f (nI i) (by first | assumption | omega | exact Int32.le_refl _ | decide)) (va_cwS 2 hts gX5_width_X5_greatestDistance rfl rfl rfl (by decide +kernel) ⟨Nat.le_of_ble_eq_true rfl, Nat.le_of_ble_eq_true rfl⟩) (kW_S hP hK hD hN [0, 1] rfl rfl rfl) rfl rfl hl.1 rfl (lv_room (Nat.le_of_ble_eq_true rfl)) dX5_width_25 ⟨Nat.zero_le _, Nat.zero_le _⟩) hP hS (fun H locs hP hS => ?_)
          refine va_mmax hx hb (hml.trans hl.1.symm) hown (hts (.methodLink RX5 51 Lib.Math.max.name) (by decide +kernel)) (hts (.static Lib.Math.max.name) (by decide +kernel)) (hts (.initialized "java/lang/Math") (by decide +kernel)) (hts (.code Lib.Math.max.name Lib.Math.max.code 2 (some .int)) (by decide +kernel)) (Nat.le_of_ble_eq_true rfl) (Nat.le_of_ble_eq_true rfl) (Nat.zero_le _) (Nat.zero_le _) dX5_width_28 ?_
          refine lv_topi (fun width_4 ewidth_4 => ?_)
          have hr := bd_to hr ewidth_4
          refine lv_istore_n (lv' := [(1, .int width_4), (2, .int (nI i)), (0, .ref h0)]) hx hb dX5_width_31 rfl hl (by decide) rfl (fun ls hl => ?_)
          refine lv_iinc (v := nI (i + 1)) (lv' := [(2, .int (nI (i + 1))), (1, .int width_4), (0, .ref h0)]) hx hb dX5_width_32 hl (k := 1) rfl (nI_1 _) (by decide) rfl (fun ls hl => ?_)
          refine lv_goto (tgt := 14) hx hb dX5_width_35 (by decide) ?_
          exact ih_14 (i + 1) width_4 _ _ _ (by omega) hr hP hS (lv_sub hl [0, 1, 2] rfl)
    exact lp_14 K 0 0 _ _ _ (by omega) hr hP hS (lv_sub hl [0, 1, 2] rfl)
  · have hr := if_no hr c_1
    refine lv_iconst (v := (-1)) hx hb dX5_width_8 (by decide) ?_
    have he := hr.trans hρ
    exact W.iret (v := (-1)) hx hb hr0 (fun t ht hW => kR_end he hS ht) hS.2.2 dX5_width_9
def L_leastRingBy_22 (f : Nat → Int32) (one : Int32) (other : Int32) (k : Int32 → Int32 → Int32) : Nat → Nat → Int32 → Int32 → Int32
  | 0, length, seen, brink => k seen brink
  | n + 1, length, seen, brink =>
    if brink = 0 then
      k seen brink
    else
      bd (seen ||| brink) (fun seen_1 =>
        bd ((P_around f brink) &&& (seen_1 ^^^ (-1 : Int32))) (fun brink_2 =>
          if (P_holds brink_2 other) = 0 then
            L_leastRingBy_22 f one other k n (length + 1) seen_1 brink_2
          else
            nI length))
def P_leastRingBy (f : Nat → Int32) (one : Int32) (other : Int32) : Int32 :=
  bd (P_bit one) (fun seen_1 =>
    bd ((P_nearOf f one) &&& ((P_bit other) ^^^ (-1 : Int32))) (fun brink_2 =>
      L_leastRingBy_22 f one other (fun seen brink => (-1)) (17 - 3) 3 seen_1 brink_2))
abbrev rm_X5_leastRingBy : Room := { frames := 2, cells := 0, slots := 0, locals := 46 }
set_option maxHeartbeats 4000000 in
set_option maxRecDepth 100000 in
theorem k_X5_leastRingBy (l : Launch) (dC : Nat → ClassId) (dI : Nat → Nat → Nat) (cI cN : ClassId) (h0 : Nat) (h1 : Nat) (K : Nat) (f : Nat → Int32) (one : Int32) (other : Int32) (hK : K ≤ 16) : Met l yX5_leastRingBy wsX5_leastRingBy rm_X5_leastRingBy (va_Pc [.ref h0, .int one, .int other] (kW dC dI cI cN [(h0, .inr (3, [.ref h1, .int (nI K)])), (h1, .inl (cI, 16, .inl f))])) (kR (P_leastRingBy f one other)) 0 0 (fun _ => False) := by
  refine Met.ofW (cc := cX5_leastRingBy) (maxL := 6) (ret := (some .int)) (by decide) rfl ?_
  intro p e s m args below meth c s₁ B hml hv
  obtain ⟨rfl, hP, hK, hD, hN⟩ := hv
  have hx := B.exec
  have hb := B.bytes
  have hr0 := B.returns
  have hts := atoms_spec (ws := wsX5_leastRingBy) B.pre
  have hown : s.vm.findClass RX5 = some m.cls := findClass_of_methodNamed B.named
  have hlocks := B.notSynchronized
  have hS : va_S (fun _ => False) s.heap s.heap [] := va_S.rf
  have hl := lv_entry ([.ref h0, .int one, .int other]) (n := 6) (Nat.le_of_ble_eq_true rfl)
  rw [lg_entry_eq]
  generalize (lg_sl ([.ref h0, .int one, .int other]) ++ List.replicate (6 - (lg_sl ([.ref h0, .int one, .int other])).length) Slot.unset).toArray = ls at hl ⊢
  have hl : lv_has ls 6 [(0, .ref h0), (1, .int one), (2, .int other)] := hl
  obtain ⟨ρ, hρ⟩ : ∃ ρ : Int32, ρ = P_leastRingBy f one other := ⟨_, rfl⟩
  have hr : P_leastRingBy f one other = ρ := hρ.symm
  rewrite [P_leastRingBy] at hr
  refine lv_iload_n hx hb dX5_leastRingBy_0 rfl (lv_at hl 1 rfl) ?_
  refine kCall (va_runSN (As := [.int one]) (rest := []) ⟨hx, hb, hml, hown, hts⟩ (k_X6_bit l dC dI cI cN one) ⟨va_cnB 1 hts gX5_leastRingBy_X6_bit_n20 rfl rfl rfl (hN.1 70 _ rfl) (hts (.initialized RX6) (by decide +kernel)) (by decide +kernel) ⟨Nat.le_of_ble_eq_true rfl, Nat.le_of_ble_eq_true rfl⟩, hts (.static yX6_bit) (by decide +kernel), trivial⟩ (kW_S hP hK hD hN [] rfl rfl rfl) rfl rfl hl.1 rfl (lv_room (Nat.le_of_ble_eq_true rfl)) dX5_leastRingBy_1 ⟨Nat.zero_le _, Nat.zero_le _⟩) hP hS (fun H locs hP hS => ?_)
  refine lv_topi (fun seen_1 eseen_1 => ?_)
  have hr := bd_to hr eseen_1
  refine lv_istore_n (lv' := [(3, .int seen_1), (0, .ref h0), (1, .int one), (2, .int other)]) hx hb dX5_leastRingBy_4 rfl hl (by decide) rfl (fun ls hl => ?_)
  refine lv_aload_n hx hb dX5_leastRingBy_5 rfl (lv_at hl 1 rfl) ?_
  refine lv_iload_n hx hb dX5_leastRingBy_6 rfl (lv_at hl 2 rfl) ?_
  refine kCall (va_runVN (As := [.int one]) (rest := []) ⟨hx, hb, hml, hown, hts⟩ (k_X3_nearOf l dC dI cI cN h0 h1 K f one (by first | assumption | omega | exact Int32.le_refl _ | decide)) ⟨va_cnB 1 hts gX5_leastRingBy_X3_nearOf_n15 rfl rfl rfl (hN.1 69 _ rfl) (hts (.initialized RX3) (by decide +kernel)) (by decide +kernel) ⟨Nat.le_of_ble_eq_true rfl, Nat.le_of_ble_eq_true rfl⟩, hts (.instanceMethod yX3_nearOf) (by decide +kernel), hts (.selects RX3 yX3_nearOf yX3_nearOf) (by decide +kernel)⟩ (kW_V hP hK hD hN (ci := 3) (q0 := 0) rfl rfl [0, 1] rfl rfl rfl) rfl rfl hl.1 rfl (lv_room (Nat.le_of_ble_eq_true rfl)) dX5_leastRingBy_7 ⟨Nat.zero_le _, Nat.zero_le _⟩) hP hS (fun H locs hP hS => ?_)
  refine lv_iload_n hx hb dX5_leastRingBy_10 rfl (lv_at hl 3 rfl) ?_
  refine kCall (va_runSN (As := [.int other]) (rest := [.int (P_nearOf f one)]) ⟨hx, hb, hml, hown, hts⟩ (k_X6_bit l dC dI cI cN other) ⟨va_cnB 1 hts gX5_leastRingBy_X6_bit_n20 rfl rfl rfl (hN.1 70 _ rfl) (hts (.initialized RX6) (by decide +kernel)) (by decide +kernel) ⟨Nat.le_of_ble_eq_true rfl, Nat.le_of_ble_eq_true rfl⟩, hts (.static yX6_bit) (by decide +kernel), trivial⟩ (kW_S hP hK hD hN [] rfl rfl rfl) rfl rfl hl.1 rfl (lv_room (Nat.le_of_ble_eq_true rfl)) dX5_leastRingBy_11 ⟨Nat.zero_le _, Nat.zero_le _⟩) hP hS (fun H locs hP hS => ?_)
  refine lv_iconst (v := (-1)) hx hb dX5_leastRingBy_14 (by decide) ?_
  refine lv_ixor hx hb dX5_leastRingBy_15 ?_
  refine lv_iand hx hb dX5_leastRingBy_16 ?_
  refine lv_topi (fun brink_2 ebrink_2 => ?_)
  have hr := bd_to hr ebrink_2
  refine lv_istore (lv' := [(4, .int brink_2), (3, .int seen_1), (0, .ref h0), (1, .int one), (2, .int other)]) hx hb dX5_leastRingBy_17 hl (by decide) rfl (fun ls hl => ?_)
  refine lv_iconst (v := 3) hx hb dX5_leastRingBy_19 (by decide) ?_
  refine lv_istore (lv' := [(5, .int 3), (4, .int brink_2), (3, .int seen_1), (0, .ref h0), (1, .int one), (2, .int other)]) hx hb dX5_leastRingBy_20 hl (by decide) rfl (fun ls hl => ?_)
  have ex_22 : ∀ (seen : Int32) (brink : Int32) (H : Heap) (locs : List Loc) (ls : Array Slot), ((-1)) = ρ → va_P (dC, dI) kCl [(h0, .inr (3, [.ref h1, .int (nI K)])), (h1, .inl (cI, 16, .inl f))] H → va_S (fun _ => False) s.heap H locs → lv_has ls 6 [(3, .int seen), (4, .int brink), (0, .ref h0), (2, .int other)] → W p l e (headSpec wsX5_leastRingBy rm_X5_leastRingBy).room s m (([.ref h0, .int one, .int other] : List Value).toArray) below meth c H locs 0 0 (MQ below (kR (P_leastRingBy f one other)) (([.ref h0, .int one, .int other] : List Value).toArray) s 0 0 (fun _ => False)) (F0 m 69 ls []) := by
    intro seen brink H locs ls hr hP hS hl
    refine lv_iconst (v := (-1)) hx hb dX5_leastRingBy_69 (by decide) ?_
    have he := hr.trans hρ
    exact W.iret (v := (-1)) hx hb hr0 (fun t ht hW => kR_end he hS ht) hS.2.2 dX5_leastRingBy_70
  have lp_22 : ∀ (n_22 length : Nat) (seen : Int32) (brink : Int32) (H : Heap) (locs : List Loc) (ls : Array Slot), length + n_22 = 17 → L_leastRingBy_22 f one other (fun seen brink => (-1)) n_22 length seen brink = ρ → va_P (dC, dI) kCl [(h0, .inr (3, [.ref h1, .int (nI K)])), (h1, .inl (cI, 16, .inl f))] H → va_S (fun _ => False) s.heap H locs → lv_has ls 6 [(5, .int (nI length)), (3, .int seen), (4, .int brink), (0, .ref h0), (2, .int other)] → W p l e (headSpec wsX5_leastRingBy rm_X5_leastRingBy).room s m (([.ref h0, .int one, .int other] : List Value).toArray) below meth c H locs 0 0 (MQ below (kR (P_leastRingBy f one other)) (([.ref h0, .int one, .int other] : List Value).toArray) s 0 0 (fun _ => False)) (F0 m 22 ls []) := by
    intro n_22
    induction n_22 with
    | zero =>
      intro length seen brink H locs ls hi hr hP hS hl
      rewrite [L_leastRingBy_22] at hr
      refine lv_iload hx hb dX5_leastRingBy_22 (lv_at hl 0 rfl) ?_
      refine lv_bipush (v := 16) hx hb dX5_leastRingBy_24 (by decide) ?_
      refine lv_icmp_gt (tgt := 69) hx hb dX5_leastRingBy_26 (by decide) (fun c_3 => ?_) (fun c_3 => ?_)
      · exact ex_22 seen brink _ _ _ hr hP hS (lv_sub hl [1, 2, 3, 4] rfl)
      · exact absurd (kTopG (i := length) (N := 17) rfl (by omega) (by omega)) c_3
    | succ n_22 ih_22 =>
      intro length seen brink H locs ls hi hr hP hS hl
      rewrite [L_leastRingBy_22] at hr
      refine lv_iload hx hb dX5_leastRingBy_22 (lv_at hl 0 rfl) ?_
      refine lv_bipush (v := 16) hx hb dX5_leastRingBy_24 (by decide) ?_
      refine lv_icmp_gt (tgt := 69) hx hb dX5_leastRingBy_26 (by decide) (fun c_4 => ?_) (fun c_4 => ?_)
      · exact absurd c_4 (kLowG (i := length) (N := 17) rfl (by omega) (by omega))
      · refine lv_iload hx hb dX5_leastRingBy_29 (lv_at hl 2 rfl) ?_
        refine lv_if_eq (tgt := 69) hx hb dX5_leastRingBy_31 (by decide) (fun c_5 => ?_) (fun c_5 => ?_)
        · have hr := if_to hr c_5
          exact ex_22 seen brink _ _ _ hr hP hS (lv_sub hl [1, 2, 3, 4] rfl)
        · have hr := if_no hr c_5
          refine lv_iload_n hx hb dX5_leastRingBy_34 rfl (lv_at hl 1 rfl) ?_
          refine lv_iload hx hb dX5_leastRingBy_35 (lv_at hl 2 rfl) ?_
          refine lv_ior hx hb dX5_leastRingBy_37 ?_
          refine lv_topi (fun seen_6 eseen_6 => ?_)
          have hr := bd_to hr eseen_6
          refine lv_istore_n (lv' := [(3, .int seen_6), (5, .int (nI length)), (4, .int brink), (0, .ref h0), (2, .int other)]) hx hb dX5_leastRingBy_38 rfl hl (by decide) rfl (fun ls hl => ?_)
          refine lv_aload_n hx hb dX5_leastRingBy_39 rfl (lv_at hl 3 rfl) ?_
          refine lv_iload hx hb dX5_leastRingBy_40 (lv_at hl 2 rfl) ?_
          refine kCall (va_runS (As := [.ref h0, .int brink]) (rest := []) ⟨hx, hb, hml, hown, hts⟩ (k_X5_around l dC dI cI cN h0 h1 K f brink (by first | assumption | omega | exact Int32.le_refl _ | decide)) (va_cwS 2 hts gX5_leastRingBy_X5_around rfl rfl rfl (by decide +kernel) ⟨Nat.le_of_ble_eq_true rfl, Nat.le_of_ble_eq_true rfl⟩) (kW_S hP hK hD hN [0, 1] rfl rfl rfl) rfl rfl hl.1 rfl (lv_room (Nat.le_of_ble_eq_true rfl)) dX5_leastRingBy_42 ⟨Nat.zero_le _, Nat.zero_le _⟩) hP hS (fun H locs hP hS => ?_)
          refine lv_iload_n hx hb dX5_leastRingBy_45 rfl (lv_at hl 0 rfl) ?_
          refine lv_iconst (v := (-1)) hx hb dX5_leastRingBy_46 (by decide) ?_
          refine lv_ixor hx hb dX5_leastRingBy_47 ?_
          refine lv_iand hx hb dX5_leastRingBy_48 ?_
          refine lv_topi (fun brink_7 ebrink_7 => ?_)
          have hr := bd_to hr ebrink_7
          refine lv_istore (lv' := [(4, .int brink_7), (3, .int seen_6), (5, .int (nI length)), (0, .ref h0), (2, .int other)]) hx hb dX5_leastRingBy_49 hl (by decide) rfl (fun ls hl => ?_)
          refine lv_iload hx hb dX5_leastRingBy_51 (lv_at hl 0 rfl) ?_
          refine lv_iload_n hx hb dX5_leastRingBy_53 rfl (lv_at hl 4 rfl) ?_
          refine kCall (va_runSN (As := [.int brink_7, .int other]) (rest := []) ⟨hx, hb, hml, hown, hts⟩ (k_X6_holds l dC dI cI cN brink_7 other) ⟨va_cnB 2 hts gX5_leastRingBy_X6_holds_n37 rfl rfl rfl (hN.1 71 _ rfl) (hts (.initialized RX6) (by decide +kernel)) (by decide +kernel) ⟨Nat.le_of_ble_eq_true rfl, Nat.le_of_ble_eq_true rfl⟩, hts (.static yX6_holds) (by decide +kernel), trivial⟩ (kW_S hP hK hD hN [] rfl rfl rfl) rfl rfl hl.1 rfl (lv_room (Nat.le_of_ble_eq_true rfl)) dX5_leastRingBy_54 ⟨Nat.zero_le _, Nat.zero_le _⟩) hP hS (fun H locs hP hS => ?_)
          refine lv_if_eq (tgt := 63) hx hb dX5_leastRingBy_57 (by decide) (fun c_8 => ?_) (fun c_8 => ?_)
          · have hr := if_to hr c_8
            refine lv_iinc (v := nI (length + 1)) (lv' := [(5, .int (nI (length + 1))), (4, .int brink_7), (3, .int seen_6), (0, .ref h0), (2, .int other)]) hx hb dX5_leastRingBy_63 hl (k := 2) rfl (nI_1 _) (by decide) rfl (fun ls hl => ?_)
            refine lv_goto (tgt := 22) hx hb dX5_leastRingBy_66 (by decide) ?_
            exact ih_22 (length + 1) seen_6 brink_7 _ _ _ (by omega) hr hP hS (lv_sub hl [0, 2, 1, 3, 4] rfl)
          · have hr := if_no hr c_8
            refine lv_iload hx hb dX5_leastRingBy_60 (lv_at hl 2 rfl) ?_
            have he := hr.trans hρ
            exact W.iret (v := nI length) hx hb hr0 (fun t ht hW => kR_end he hS ht) hS.2.2 dX5_leastRingBy_62
  exact lp_22 (17 - 3) 3 seen_1 brink_2 _ _ _ (by omega) hr hP hS (lv_sub hl [0, 2, 1, 3, 5] rfl)
def L_leastRingAt_4 (K : Nat) (f : Nat → Int32) (knot : Int32) (k : Int32 → Int32) : Nat → Nat → Int32 → Int32
  | 0, other, least => k least
  | n + 1, other, least =>
    if (P_isNear f knot (nI other)) = 0 then
      L_leastRingAt_4 K f knot k n (other + 1) least
    else
      bd (P_lesser least (P_leastRingBy f knot (nI other))) (fun least_1 =>
        L_leastRingAt_4 K f knot k n (other + 1) least_1)
def P_leastRingAt (K : Nat) (f : Nat → Int32) (knot : Int32) : Int32 :=
  L_leastRingAt_4 K f knot (fun least => least) K 0 (-1)
abbrev rm_X5_leastRingAt : Room := { frames := 3, cells := 0, slots := 0, locals := 71 }
set_option maxHeartbeats 4000000 in
set_option maxRecDepth 100000 in
theorem k_X5_leastRingAt (l : Launch) (dC : Nat → ClassId) (dI : Nat → Nat → Nat) (cI cN : ClassId) (h0 : Nat) (h1 : Nat) (K : Nat) (f : Nat → Int32) (knot : Int32) (hK : K ≤ 16) : Met l yX5_leastRingAt wsX5_leastRingAt rm_X5_leastRingAt (va_Pc [.ref h0, .int knot] (kW dC dI cI cN [(h0, .inr (3, [.ref h1, .int (nI K)])), (h1, .inl (cI, 16, .inl f))])) (kR (P_leastRingAt K f knot)) 0 0 (fun _ => False) := by
  refine Met.ofW (cc := cX5_leastRingAt) (maxL := 4) (ret := (some .int)) (by decide) rfl ?_
  intro p e s m args below meth c s₁ B hml hv
  obtain ⟨rfl, hP, hK, hD, hN⟩ := hv
  have hx := B.exec
  have hb := B.bytes
  have hr0 := B.returns
  have hts := atoms_spec (ws := wsX5_leastRingAt) B.pre
  have hown : s.vm.findClass RX5 = some m.cls := findClass_of_methodNamed B.named
  have hlocks := B.notSynchronized
  have hS : va_S (fun _ => False) s.heap s.heap [] := va_S.rf
  have hl := lv_entry ([.ref h0, .int knot]) (n := 4) (Nat.le_of_ble_eq_true rfl)
  rw [lg_entry_eq]
  generalize (lg_sl ([.ref h0, .int knot]) ++ List.replicate (4 - (lg_sl ([.ref h0, .int knot])).length) Slot.unset).toArray = ls at hl ⊢
  have hl : lv_has ls 4 [(0, .ref h0), (1, .int knot)] := hl
  obtain ⟨ρ, hρ⟩ : ∃ ρ : Int32, ρ = P_leastRingAt K f knot := ⟨_, rfl⟩
  have hr : P_leastRingAt K f knot = ρ := hρ.symm
  rewrite [P_leastRingAt] at hr
  refine lv_iconst (v := (-1)) hx hb dX5_leastRingAt_0 (by decide) ?_
  refine lv_istore_n (lv' := [(2, .int (-1)), (0, .ref h0), (1, .int knot)]) hx hb dX5_leastRingAt_1 rfl hl (by decide) rfl (fun ls hl => ?_)
  refine lv_iconst (v := 0) hx hb dX5_leastRingAt_2 (by decide) ?_
  refine lv_istore_n (lv' := [(3, .int 0), (2, .int (-1)), (0, .ref h0), (1, .int knot)]) hx hb dX5_leastRingAt_3 rfl hl (by decide) rfl (fun ls hl => ?_)
  have ex_4 : ∀ (least : Int32) (H : Heap) (locs : List Loc) (ls : Array Slot), (least) = ρ → va_P (dC, dI) kCl [(h0, .inr (3, [.ref h1, .int (nI K)])), (h1, .inl (cI, 16, .inl f))] H → va_S (fun _ => False) s.heap H locs → lv_has ls 4 [(2, .int least), (0, .ref h0), (1, .int knot)] → W p l e (headSpec wsX5_leastRingAt rm_X5_leastRingAt).room s m (([.ref h0, .int knot] : List Value).toArray) below meth c H locs 0 0 (MQ below (kR (P_leastRingAt K f knot)) (([.ref h0, .int knot] : List Value).toArray) s 0 0 (fun _ => False)) (F0 m 38 ls []) := by
    intro least H locs ls hr hP hS hl
    refine lv_iload_n hx hb dX5_leastRingAt_38 rfl (lv_at hl 0 rfl) ?_
    have he := hr.trans hρ
    exact W.iret (v := least) hx hb hr0 (fun t ht hW => kR_end he hS ht) hS.2.2 dX5_leastRingAt_39
  have lp_4 : ∀ (n_4 other : Nat) (least : Int32) (H : Heap) (locs : List Loc) (ls : Array Slot), other + n_4 = K → L_leastRingAt_4 K f knot (fun least => least) n_4 other least = ρ → va_P (dC, dI) kCl [(h0, .inr (3, [.ref h1, .int (nI K)])), (h1, .inl (cI, 16, .inl f))] H → va_S (fun _ => False) s.heap H locs → lv_has ls 4 [(3, .int (nI other)), (2, .int least), (0, .ref h0), (1, .int knot)] → W p l e (headSpec wsX5_leastRingAt rm_X5_leastRingAt).room s m (([.ref h0, .int knot] : List Value).toArray) below meth c H locs 0 0 (MQ below (kR (P_leastRingAt K f knot)) (([.ref h0, .int knot] : List Value).toArray) s 0 0 (fun _ => False)) (F0 m 4 ls []) := by
    intro n_4
    induction n_4 with
    | zero =>
      intro other least H locs ls hi hr hP hS hl
      rewrite [L_leastRingAt_4] at hr
      refine lv_iload_n hx hb dX5_leastRingAt_4 rfl (lv_at hl 0 rfl) ?_
      refine lv_aload_n hx hb dX5_leastRingAt_5 rfl (lv_at hl 2 rfl) ?_
      refine va_getN (D := (dC, dI)) (ci := 3) (v := .int (nI K)) (C := RX3) (T := TX3) (N := 2) hx hb hts (by decide +kernel) hown hK hP 0 rfl rfl 1 (by decide) (va_Nw.use rfl (hN.2 12 _ rfl)) (fun _ h9 => h9) rfl dX5_leastRingAt_6 ?_
      refine lv_icmp_ge (tgt := 38) hx hb dX5_leastRingAt_9 (by decide) (fun c_1 => ?_) (fun c_1 => ?_)
      · exact ex_4 least _ _ _ hr hP hS (lv_sub hl [1, 2, 3] rfl)
      · exact absurd (kTop (i := other) (N := K) rfl (by omega)) c_1
    | succ n_4 ih_4 =>
      intro other least H locs ls hi hr hP hS hl
      rewrite [L_leastRingAt_4] at hr
      refine lv_iload_n hx hb dX5_leastRingAt_4 rfl (lv_at hl 0 rfl) ?_
      refine lv_aload_n hx hb dX5_leastRingAt_5 rfl (lv_at hl 2 rfl) ?_
      refine va_getN (D := (dC, dI)) (ci := 3) (v := .int (nI K)) (C := RX3) (T := TX3) (N := 2) hx hb hts (by decide +kernel) hown hK hP 0 rfl rfl 1 (by decide) (va_Nw.use rfl (hN.2 12 _ rfl)) (fun _ h9 => h9) rfl dX5_leastRingAt_6 ?_
      refine lv_icmp_ge (tgt := 38) hx hb dX5_leastRingAt_9 (by decide) (fun c_2 => ?_) (fun c_2 => ?_)
      · exact absurd c_2 (kLow (i := other) (N := K) rfl (by omega) (by omega))
      · refine lv_aload_n hx hb dX5_leastRingAt_12 rfl (lv_at hl 2 rfl) ?_
        refine lv_iload_n hx hb dX5_leastRingAt_13 rfl (lv_at hl 3 rfl) ?_
        refine lv_iload_n hx hb dX5_leastRingAt_14 rfl (lv_at hl 0 rfl) ?_
        refine kCall (va_runVN (As := [.int knot, .int (nI other)]) (rest := []) ⟨hx, hb, hml, hown, hts⟩ (k_X3_isNear l dC dI cI cN h0 h1 K f knot (nI other) (by first | assumption | omega | exact Int32.le_refl _ | decide)) ⟨va_cnB 2 hts gX5_leastRingAt_X3_isNear_n57 rfl rfl rfl (hN.1 72 _ rfl) (hts (.initialized RX3) (by decide +kernel)) (by decide +kernel) ⟨Nat.le_of_ble_eq_true rfl, Nat.le_of_ble_eq_true rfl⟩, hts (.instanceMethod yX3_isNear) (by decide +kernel), hts (.selects RX3 yX3_isNear yX3_isNear) (by decide +kernel)⟩ (kW_V hP hK hD hN (ci := 3) (q0 := 0) rfl rfl [0, 1] rfl rfl rfl) rfl rfl hl.1 rfl (lv_room (Nat.le_of_ble_eq_true rfl)) dX5_leastRingAt_15 ⟨Nat.zero_le _, Nat.zero_le _⟩) hP hS (fun H locs hP hS => ?_)
        refine lv_if_eq (tgt := 32) hx hb dX5_leastRingAt_18 (by decide) (fun c_3 => ?_) (fun c_3 => ?_)
        · have hr := if_to hr c_3
          refine lv_iinc (v := nI (other + 1)) (lv' := [(3, .int (nI (other + 1))), (2, .int least), (0, .ref h0), (1, .int knot)]) hx hb dX5_leastRingAt_32 hl (k := 0) rfl (nI_1 _) (by decide) rfl (fun ls hl => ?_)
          refine lv_goto (tgt := 4) hx hb dX5_leastRingAt_35 (by decide) ?_
          exact ih_4 (other + 1) least _ _ _ (by omega) hr hP hS (lv_sub hl [0, 1, 2, 3] rfl)
        · have hr := if_no hr c_3
          refine lv_iload_n hx hb dX5_leastRingAt_21 rfl (lv_at hl 1 rfl) ?_
          refine lv_aload_n hx hb dX5_leastRingAt_22 rfl (lv_at hl 2 rfl) ?_
          refine lv_iload_n hx hb dX5_leastRingAt_23 rfl (lv_at hl 3 rfl) ?_
          refine lv_iload_n hx hb dX5_leastRingAt_24 rfl (lv_at hl 0 rfl) ?_
          refine kCall (va_runS (As := [.ref h0, .int knot, .int (nI other)]) (rest := [.int least]) ⟨hx, hb, hml, hown, hts⟩ (k_X5_leastRingBy l dC dI cI cN h0 h1 K f knot (nI other) (by first | assumption | omega | exact Int32.le_refl _ | decide)) (va_cwS 3 hts gX5_leastRingAt_X5_leastRingBy rfl rfl rfl (by decide +kernel) ⟨Nat.le_of_ble_eq_true rfl, Nat.le_of_ble_eq_true rfl⟩) (kW_S hP hK hD hN [0, 1] rfl rfl rfl) rfl rfl hl.1 rfl (lv_room (Nat.le_of_ble_eq_true rfl)) dX5_leastRingAt_25 ⟨Nat.zero_le _, Nat.zero_le _⟩) hP hS (fun H locs hP hS => ?_)
          refine kCall (va_runSN (As := [.int least, .int (P_leastRingBy f knot (nI other))]) (rest := []) ⟨hx, hb, hml, hown, hts⟩ (k_X6_lesser l dC dI cI cN least (P_leastRingBy f knot (nI other))) ⟨va_cnB 2 hts gX5_leastRingAt_X6_lesser_n63 rfl rfl rfl (hN.1 73 _ rfl) (hts (.initialized RX6) (by decide +kernel)) (by decide +kernel) ⟨Nat.le_of_ble_eq_true rfl, Nat.le_of_ble_eq_true rfl⟩, hts (.static yX6_lesser) (by decide +kernel), trivial⟩ (kW_S hP hK hD hN [] rfl rfl rfl) rfl rfl hl.1 rfl (lv_room (Nat.le_of_ble_eq_true rfl)) dX5_leastRingAt_28 ⟨Nat.zero_le _, Nat.zero_le _⟩) hP hS (fun H locs hP hS => ?_)
          refine lv_topi (fun least_4 eleast_4 => ?_)
          have hr := bd_to hr eleast_4
          refine lv_istore_n (lv' := [(2, .int least_4), (3, .int (nI other)), (0, .ref h0), (1, .int knot)]) hx hb dX5_leastRingAt_31 rfl hl (by decide) rfl (fun ls hl => ?_)
          refine lv_iinc (v := nI (other + 1)) (lv' := [(3, .int (nI (other + 1))), (2, .int least_4), (0, .ref h0), (1, .int knot)]) hx hb dX5_leastRingAt_32 hl (k := 1) rfl (nI_1 _) (by decide) rfl (fun ls hl => ?_)
          refine lv_goto (tgt := 4) hx hb dX5_leastRingAt_35 (by decide) ?_
          exact ih_4 (other + 1) least_4 _ _ _ (by omega) hr hP hS (lv_sub hl [0, 1, 2, 3] rfl)
  exact lp_4 K 0 (-1) _ _ _ (by omega) hr hP hS (lv_sub hl [0, 1, 2, 3] rfl)
def L_leastRing_4 (K : Nat) (f : Nat → Int32) (k : Int32 → Int32) : Nat → Nat → Int32 → Int32
  | 0, i, least => k least
  | n + 1, i, least =>
    bd (P_lesser least (P_leastRingAt K f (nI i))) (fun least_1 =>
      L_leastRing_4 K f k n (i + 1) least_1)
def P_leastRing (K : Nat) (f : Nat → Int32) : Int32 :=
  L_leastRing_4 K f (fun least => least) K 0 (-1)
abbrev rm_X5_leastRing : Room := { frames := 4, cells := 0, slots := 0, locals := 94 }
set_option maxHeartbeats 4000000 in
set_option maxRecDepth 100000 in
theorem k_X5_leastRing (l : Launch) (dC : Nat → ClassId) (dI : Nat → Nat → Nat) (cI cN : ClassId) (h0 : Nat) (h1 : Nat) (K : Nat) (f : Nat → Int32) (hK : K ≤ 16) : Met l yX5_leastRing wsX5_leastRing rm_X5_leastRing (va_Pc [.ref h0] (kW dC dI cI cN [(h0, .inr (3, [.ref h1, .int (nI K)])), (h1, .inl (cI, 16, .inl f))])) (kR (P_leastRing K f)) 0 0 (fun _ => False) := by
  refine Met.ofW (cc := cX5_leastRing) (maxL := 3) (ret := (some .int)) (by decide) rfl ?_
  intro p e s m args below meth c s₁ B hml hv
  obtain ⟨rfl, hP, hK, hD, hN⟩ := hv
  have hx := B.exec
  have hb := B.bytes
  have hr0 := B.returns
  have hts := atoms_spec (ws := wsX5_leastRing) B.pre
  have hown : s.vm.findClass RX5 = some m.cls := findClass_of_methodNamed B.named
  have hlocks := B.notSynchronized
  have hS : va_S (fun _ => False) s.heap s.heap [] := va_S.rf
  have hl := lv_entry ([.ref h0]) (n := 3) (Nat.le_of_ble_eq_true rfl)
  rw [lg_entry_eq]
  generalize (lg_sl ([.ref h0]) ++ List.replicate (3 - (lg_sl ([.ref h0])).length) Slot.unset).toArray = ls at hl ⊢
  have hl : lv_has ls 3 [(0, .ref h0)] := hl
  obtain ⟨ρ, hρ⟩ : ∃ ρ : Int32, ρ = P_leastRing K f := ⟨_, rfl⟩
  have hr : P_leastRing K f = ρ := hρ.symm
  rewrite [P_leastRing] at hr
  refine lv_iconst (v := (-1)) hx hb dX5_leastRing_0 (by decide) ?_
  refine lv_istore_n (lv' := [(1, .int (-1)), (0, .ref h0)]) hx hb dX5_leastRing_1 rfl hl (by decide) rfl (fun ls hl => ?_)
  refine lv_iconst (v := 0) hx hb dX5_leastRing_2 (by decide) ?_
  refine lv_istore_n (lv' := [(2, .int 0), (1, .int (-1)), (0, .ref h0)]) hx hb dX5_leastRing_3 rfl hl (by decide) rfl (fun ls hl => ?_)
  have ex_4 : ∀ (least : Int32) (H : Heap) (locs : List Loc) (ls : Array Slot), (least) = ρ → va_P (dC, dI) kCl [(h0, .inr (3, [.ref h1, .int (nI K)])), (h1, .inl (cI, 16, .inl f))] H → va_S (fun _ => False) s.heap H locs → lv_has ls 3 [(1, .int least), (0, .ref h0)] → W p l e (headSpec wsX5_leastRing rm_X5_leastRing).room s m (([.ref h0] : List Value).toArray) below meth c H locs 0 0 (MQ below (kR (P_leastRing K f)) (([.ref h0] : List Value).toArray) s 0 0 (fun _ => False)) (F0 m 28 ls []) := by
    intro least H locs ls hr hP hS hl
    refine lv_iload_n hx hb dX5_leastRing_28 rfl (lv_at hl 0 rfl) ?_
    have he := hr.trans hρ
    exact W.iret (v := least) hx hb hr0 (fun t ht hW => kR_end he hS ht) hS.2.2 dX5_leastRing_29
  have lp_4 : ∀ (n_4 i : Nat) (least : Int32) (H : Heap) (locs : List Loc) (ls : Array Slot), i + n_4 = K → L_leastRing_4 K f (fun least => least) n_4 i least = ρ → va_P (dC, dI) kCl [(h0, .inr (3, [.ref h1, .int (nI K)])), (h1, .inl (cI, 16, .inl f))] H → va_S (fun _ => False) s.heap H locs → lv_has ls 3 [(2, .int (nI i)), (1, .int least), (0, .ref h0)] → W p l e (headSpec wsX5_leastRing rm_X5_leastRing).room s m (([.ref h0] : List Value).toArray) below meth c H locs 0 0 (MQ below (kR (P_leastRing K f)) (([.ref h0] : List Value).toArray) s 0 0 (fun _ => False)) (F0 m 4 ls []) := by
    intro n_4
    induction n_4 with
    | zero =>
      intro i least H locs ls hi hr hP hS hl
      rewrite [L_leastRing_4] at hr
      refine lv_iload_n hx hb dX5_leastRing_4 rfl (lv_at hl 0 rfl) ?_
      refine lv_aload_n hx hb dX5_leastRing_5 rfl (lv_at hl 2 rfl) ?_
      refine va_getN (D := (dC, dI)) (ci := 3) (v := .int (nI K)) (C := RX3) (T := TX3) (N := 2) hx hb hts (by decide +kernel) hown hK hP 0 rfl rfl 1 (by decide) (va_Nw.use rfl (hN.2 12 _ rfl)) (fun _ h9 => h9) rfl dX5_leastRing_6 ?_
      refine lv_icmp_ge (tgt := 28) hx hb dX5_leastRing_9 (by decide) (fun c_1 => ?_) (fun c_1 => ?_)
      · exact ex_4 least _ _ _ hr hP hS (lv_sub hl [1, 2] rfl)
      · exact absurd (kTop (i := i) (N := K) rfl (by omega)) c_1
    | succ n_4 ih_4 =>
      intro i least H locs ls hi hr hP hS hl
      rewrite [L_leastRing_4] at hr
      refine lv_iload_n hx hb dX5_leastRing_4 rfl (lv_at hl 0 rfl) ?_
      refine lv_aload_n hx hb dX5_leastRing_5 rfl (lv_at hl 2 rfl) ?_
      refine va_getN (D := (dC, dI)) (ci := 3) (v := .int (nI K)) (C := RX3) (T := TX3) (N := 2) hx hb hts (by decide +kernel) hown hK hP 0 rfl rfl 1 (by decide) (va_Nw.use rfl (hN.2 12 _ rfl)) (fun _ h9 => h9) rfl dX5_leastRing_6 ?_
      refine lv_icmp_ge (tgt := 28) hx hb dX5_leastRing_9 (by decide) (fun c_2 => ?_) (fun c_2 => ?_)
      · exact absurd c_2 (kLow (i := i) (N := K) rfl (by omega) (by omega))
      · refine lv_iload_n hx hb dX5_leastRing_12 rfl (lv_at hl 1 rfl) ?_
        refine lv_aload_n hx hb dX5_leastRing_13 rfl (lv_at hl 2 rfl) ?_
        refine lv_iload_n hx hb dX5_leastRing_14 rfl (lv_at hl 0 rfl) ?_
        refine kCall (va_runS (As := [.ref h0, .int (nI i)]) (rest := [.int least]) ⟨hx, hb, hml, hown, hts⟩ (k_X5_leastRingAt l dC dI cI cN h0 h1 K f (nI i) (by first | assumption | omega | exact Int32.le_refl _ | decide)) (va_cwS 2 hts gX5_leastRing_X5_leastRingAt rfl rfl rfl (by decide +kernel) ⟨Nat.le_of_ble_eq_true rfl, Nat.le_of_ble_eq_true rfl⟩) (kW_S hP hK hD hN [0, 1] rfl rfl rfl) rfl rfl hl.1 rfl (lv_room (Nat.le_of_ble_eq_true rfl)) dX5_leastRing_15 ⟨Nat.zero_le _, Nat.zero_le _⟩) hP hS (fun H locs hP hS => ?_)
        refine kCall (va_runSN (As := [.int least, .int (P_leastRingAt K f (nI i))]) (rest := []) ⟨hx, hb, hml, hown, hts⟩ (k_X6_lesser l dC dI cI cN least (P_leastRingAt K f (nI i))) ⟨va_cnB 2 hts gX5_leastRing_X6_lesser_n63 rfl rfl rfl (hN.1 73 _ rfl) (hts (.initialized RX6) (by decide +kernel)) (by decide +kernel) ⟨Nat.le_of_ble_eq_true rfl, Nat.le_of_ble_eq_true rfl⟩, hts (.static yX6_lesser) (by decide +kernel), trivial⟩ (kW_S hP hK hD hN [] rfl rfl rfl) rfl rfl hl.1 rfl (lv_room (Nat.le_of_ble_eq_true rfl)) dX5_leastRing_18 ⟨Nat.zero_le _, Nat.zero_le _⟩) hP hS (fun H locs hP hS => ?_)
        refine lv_topi (fun least_3 eleast_3 => ?_)
        have hr := bd_to hr eleast_3
        refine lv_istore_n (lv' := [(1, .int least_3), (2, .int (nI i)), (0, .ref h0)]) hx hb dX5_leastRing_21 rfl hl (by decide) rfl (fun ls hl => ?_)
        refine lv_iinc (v := nI (i + 1)) (lv' := [(2, .int (nI (i + 1))), (1, .int least_3), (0, .ref h0)]) hx hb dX5_leastRing_22 hl (k := 1) rfl (nI_1 _) (by decide) rfl (fun ls hl => ?_)
        refine lv_goto (tgt := 4) hx hb dX5_leastRing_25 (by decide) ?_
        exact ih_4 (i + 1) least_3 _ _ _ (by omega) hr hP hS (lv_sub hl [0, 1, 2] rfl)
  exact lp_4 K 0 (-1) _ _ _ (by omega) hr hP hS (lv_sub hl [0, 1, 2] rfl)
