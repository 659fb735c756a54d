/-! colours (printed by wip/gen) -/
def L_hardest_32 (f : Nat → Int32) (hu : Nat → Int32) (knot : Nat) (k : Int32 → Int32) : Nat → Nat → Int32 → Int32
  | 0, hue, sees => k sees
  | n + 1, hue, sees =>
    if ((hu hue) &&& (P_nearOf f (nI knot))) = 0 then
      bd (sees + (0 : Int32)) (fun sees_1 =>
        L_hardest_32 f hu knot k n (hue + 1) sees_1)
    else
      bd (sees + (1 : Int32)) (fun sees_2 =>
        L_hardest_32 f hu knot k n (hue + 1) sees_2)
def L_hardest_8 (K : Nat) (f : Nat → Int32) (hu : Nat → Int32) (bare : Int32) (k : Int32 → Int32 → Int32) : Nat → Nat → Int32 → Int32 → Int32
  | 0, knot, best, most => k best most
  | n + 1, knot, best, most =>
    if (P_holds bare (nI knot)) = 0 then
      L_hardest_8 K f hu bare k n (knot + 1) best most
    else
      L_hardest_32 f hu knot (fun sees => if sees ≤ most then L_hardest_8 K f hu bare k n (knot + 1) best most else L_hardest_8 K f hu bare k n (knot + 1) (nI knot) sees) 6 0 0
def P_hardest (K : Nat) (f : Nat → Int32) (hu : Nat → Int32) (bare : Int32) : Int32 :=
  L_hardest_8 K f hu bare (fun best most => best) K 0 (-1) (-1)
abbrev rm_X4_hardest : Room := { frames := 1, cells := 0, slots := 0, locals := 21 }
set_option maxHeartbeats 4000000 in
set_option maxRecDepth 100000 in
theorem k_X4_hardest (l : Launch) (dC : Nat → ClassId) (dI : Nat → Nat → Nat) (cI cN : ClassId) (h0 : Nat) (h1 : Nat) (K : Nat) (f : Nat → Int32) (c1 : Nat) (hu : Nat → Int32) (bare : Int32) (hK : K ≤ 16) : Met l yX4_hardest wsX4_hardest rm_X4_hardest (va_Pc [.ref h0, .ref c1, .int bare] (kW dC dI cI cN [(h0, .inr (3, [.ref h1, .int (nI K)])), (h1, .inl (cI, 16, .inl f)), (c1, .inl (cI, 6, .inl hu))])) (kR (P_hardest K f hu bare)) 0 0 (fun _ => False) := by
  refine Met.ofW (cc := cX4_hardest) (maxL := 8) (ret := (some .int)) (by decide) rfl ?_
  intro p e s m args below meth c s₁ B hml hv
  obtain ⟨rfl, hP, hK, hD, hN⟩ := hv
  have hx := B.exec
  have hb := B.bytes
  have hr0 := B.returns
  have hts := atoms_spec (ws := wsX4_hardest) B.pre
  have hown : s.vm.findClass RX4 = some m.cls := findClass_of_methodNamed B.named
  have hlocks := B.notSynchronized
  have hS : va_S (fun _ => False) s.heap s.heap [] := va_S.rf
  have hl := lv_entry ([.ref h0, .ref c1, .int bare]) (n := 8) (Nat.le_of_ble_eq_true rfl)
  rw [lg_entry_eq]
  generalize (lg_sl ([.ref h0, .ref c1, .int bare]) ++ List.replicate (8 - (lg_sl ([.ref h0, .ref c1, .int bare])).length) Slot.unset).toArray = ls at hl ⊢
  have hl : lv_has ls 8 [(0, .ref h0), (1, .ref c1), (2, .int bare)] := hl
  obtain ⟨ρ, hρ⟩ : ∃ ρ : Int32, ρ = P_hardest K f hu bare := ⟨_, rfl⟩
  have hr : P_hardest K f hu bare = ρ := hρ.symm
  rewrite [P_hardest] at hr
  refine lv_iconst (v := (-1)) hx hb dX4_hardest_0 (by decide) ?_
  refine lv_istore_n (lv' := [(3, .int (-1)), (0, .ref h0), (1, .ref c1), (2, .int bare)]) hx hb dX4_hardest_1 rfl hl (by decide) rfl (fun ls hl => ?_)
  refine lv_iconst (v := (-1)) hx hb dX4_hardest_2 (by decide) ?_
  refine lv_istore (lv' := [(4, .int (-1)), (3, .int (-1)), (0, .ref h0), (1, .ref c1), (2, .int bare)]) hx hb dX4_hardest_3 hl (by decide) rfl (fun ls hl => ?_)
  refine lv_iconst (v := 0) hx hb dX4_hardest_5 (by decide) ?_
  refine lv_istore (lv' := [(5, .int 0), (4, .int (-1)), (3, .int (-1)), (0, .ref h0), (1, .ref c1), (2, .int bare)]) hx hb dX4_hardest_6 hl (by decide) rfl (fun ls hl => ?_)
  have ex_8 : ∀ (best : Int32) (most : Int32) (H : Heap) (locs : List Loc) (ls : Array Slot), (best) = ρ → va_P (dC, dI) kCl [(h0, .inr (3, [.ref h1, .int (nI K)])), (h1, .inl (cI, 16, .inl f)), (c1, .inl (cI, 6, .inl hu))] H → va_S (fun _ => False) s.heap H locs → lv_has ls 8 [(3, .int best), (4, .int most), (0, .ref h0), (1, .ref c1), (2, .int bare)] → W p l e (headSpec wsX4_hardest rm_X4_hardest).room s m (([.ref h0, .ref c1, .int bare] : List Value).toArray) below meth c H locs 0 0 (MQ below (kR (P_hardest K f hu bare)) (([.ref h0, .ref c1, .int bare] : List Value).toArray) s 0 0 (fun _ => False)) (F0 m 89 ls []) := by
    intro best most H locs ls hr hP hS hl
    refine lv_iload_n hx hb dX4_hardest_89 rfl (lv_at hl 0 rfl) ?_
    have he := hr.trans hρ
    exact W.iret (v := best) hx hb hr0 (fun t ht hW => kR_end he hS ht) hS.2.2 dX4_hardest_90
  have lp_8 : ∀ (n_8 knot : Nat) (best : Int32) (most : Int32) (H : Heap) (locs : List Loc) (ls : Array Slot), knot + n_8 = K → L_hardest_8 K f hu bare (fun best most => best) n_8 knot best most = ρ → va_P (dC, dI) kCl [(h0, .inr (3, [.ref h1, .int (nI K)])), (h1, .inl (cI, 16, .inl f)), (c1, .inl (cI, 6, .inl hu))] H → va_S (fun _ => False) s.heap H locs → lv_has ls 8 [(5, .int (nI knot)), (3, .int best), (4, .int most), (0, .ref h0), (1, .ref c1), (2, .int bare)] → W p l e (headSpec wsX4_hardest rm_X4_hardest).room s m (([.ref h0, .ref c1, .int bare] : List Value).toArray) below meth c H locs 0 0 (MQ below (kR (P_hardest K f hu bare)) (([.ref h0, .ref c1, .int bare] : List Value).toArray) s 0 0 (fun _ => False)) (F0 m 8 ls []) := by
    intro n_8
    induction n_8 with
    | zero =>
      intro knot best most H locs ls hi hr hP hS hl
      rewrite [L_hardest_8] at hr
      refine lv_iload hx hb dX4_hardest_8 (lv_at hl 0 rfl) ?_
      refine lv_aload_n hx hb dX4_hardest_10 rfl (lv_at hl 3 rfl) ?_
      refine va_getN (D := (dC, dI)) (ci := 3) (v := .int (nI K)) (C := RX3) (T := TX3) (N := 2) hx hb hts (by decide +kernel) hown hK hP 0 rfl rfl 1 (by decide) (va_Nw.use rfl (hN.2 11 _ rfl)) (fun _ h9 => h9) rfl dX4_hardest_11 ?_
      refine lv_icmp_ge (tgt := 89) hx hb dX4_hardest_14 (by decide) (fun c_1 => ?_) (fun c_1 => ?_)
      · exact ex_8 best most _ _ _ hr hP hS (lv_sub hl [1, 2, 3, 4, 5] rfl)
      · exact absurd (kTop (i := knot) (N := K) rfl (by omega)) c_1
    | succ n_8 ih_8 =>
      intro knot best most H locs ls hi hr hP hS hl
      rewrite [L_hardest_8] at hr
      refine lv_iload hx hb dX4_hardest_8 (lv_at hl 0 rfl) ?_
      refine lv_aload_n hx hb dX4_hardest_10 rfl (lv_at hl 3 rfl) ?_
      refine va_getN (D := (dC, dI)) (ci := 3) (v := .int (nI K)) (C := RX3) (T := TX3) (N := 2) hx hb hts (by decide +kernel) hown hK hP 0 rfl rfl 1 (by decide) (va_Nw.use rfl (hN.2 11 _ rfl)) (fun _ h9 => h9) rfl dX4_hardest_11 ?_
      refine lv_icmp_ge (tgt := 89) hx hb dX4_hardest_14 (by decide) (fun c_2 => ?_) (fun c_2 => ?_)
      · exact absurd c_2 (kLow (i := knot) (N := K) rfl (by omega) (by omega))
      · refine lv_iload_n hx hb dX4_hardest_17 rfl (lv_at hl 5 rfl) ?_
        refine lv_iload hx hb dX4_hardest_18 (lv_at hl 0 rfl) ?_
        refine kCall (va_runSN (As := [.int bare, .int (nI knot)]) (rest := []) ⟨hx, hb, hml, hown, hts⟩ (k_X6_holds l dC dI cI cN bare (nI knot)) ⟨va_cnB 2 hts gX4_hardest_X6_holds_n21 rfl rfl rfl (hN.1 65 _ rfl) (hts (.initialized RX6) (by decide +kernel)) (by decide +kernel) ⟨Nat.le_of_ble_eq_true rfl, Nat.le_of_ble_eq_true rfl⟩, hts (.static yX6_holds) (by decide +kernel), trivial⟩ (kW_S hP hK hD hN [] rfl rfl rfl) rfl rfl hl.1 rfl (lv_room (Nat.le_of_ble_eq_true rfl)) dX4_hardest_20 ⟨Nat.zero_le _, Nat.zero_le _⟩) hP hS (fun H locs hP hS => ?_)
        refine lv_if_eq (tgt := 83) hx hb dX4_hardest_23 (by decide) (fun c_3 => ?_) (fun c_3 => ?_)
        · have hr := if_to hr c_3
          refine lv_iinc (v := nI (knot + 1)) (lv' := [(5, .int (nI (knot + 1))), (3, .int best), (4, .int most), (0, .ref h0), (1, .ref c1), (2, .int bare)]) hx hb dX4_hardest_83 hl (k := 0) rfl (nI_1 _) (by decide) rfl (fun ls hl => ?_)
          refine lv_goto (tgt := 8) hx hb dX4_hardest_86 (by decide) ?_
          exact ih_8 (knot + 1) best most _ _ _ (by omega) hr hP hS (lv_sub hl [0, 1, 2, 3, 4, 5] rfl)
        · have hr := if_no hr c_3
          refine lv_iconst (v := 0) hx hb dX4_hardest_26 (by decide) ?_
          refine lv_istore (lv' := [(6, .int 0), (5, .int (nI knot)), (3, .int best), (4, .int most), (0, .ref h0), (1, .ref c1), (2, .int bare)]) hx hb dX4_hardest_27 hl (by decide) rfl (fun ls hl => ?_)
          refine lv_iconst (v := 0) hx hb dX4_hardest_29 (by decide) ?_
          refine lv_istore (lv' := [(7, .int 0), (6, .int 0), (5, .int (nI knot)), (3, .int best), (4, .int most), (0, .ref h0), (1, .ref c1), (2, .int bare)]) hx hb dX4_hardest_30 hl (by decide) rfl (fun ls hl => ?_)
          have ex_32 : ∀ (sees : Int32) (H : Heap) (locs : List Loc) (ls : Array Slot), (if sees ≤ most then L_hardest_8 K f hu bare (fun best most => best) n_8 (knot + 1) best most else L_hardest_8 K f hu bare (fun best most => best) n_8 (knot + 1) (nI knot) sees) = ρ → va_P (dC, dI) kCl [(h0, .inr (3, [.ref h1, .int (nI K)])), (h1, .inl (cI, 16, .inl f)), (c1, .inl (cI, 6, .inl hu))] H → va_S (fun _ => False) s.heap H locs → lv_has ls 8 [(6, .int sees), (0, .ref h0), (1, .ref c1), (2, .int bare), (3, .int best), (4, .int most), (5, .int (nI knot))] → W p l e (headSpec wsX4_hardest rm_X4_hardest).room s m (([.ref h0, .ref c1, .int bare] : List Value).toArray) below meth c H locs 0 0 (MQ below (kR (P_hardest K f hu bare)) (([.ref h0, .ref c1, .int bare] : List Value).toArray) s 0 0 (fun _ => False)) (F0 m 69 ls []) := by
            intro sees H locs ls hr hP hS hl
            refine lv_iload hx hb dX4_hardest_69 (lv_at hl 0 rfl) ?_
            refine lv_iload hx hb dX4_hardest_71 (lv_at hl 5 rfl) ?_
            refine lv_icmp_le (tgt := 83) hx hb dX4_hardest_73 (by decide) (fun c_4 => ?_) (fun c_4 => ?_)
            · have hr := if_to hr c_4
              refine lv_iinc (v := nI (knot + 1)) (lv' := [(5, .int (nI (knot + 1))), (6, .int sees), (0, .ref h0), (1, .ref c1), (2, .int bare), (3, .int best), (4, .int most)]) hx hb dX4_hardest_83 hl (k := 6) rfl (nI_1 _) (by decide) rfl (fun ls hl => ?_)
              refine lv_goto (tgt := 8) hx hb dX4_hardest_86 (by decide) ?_
              exact ih_8 (knot + 1) best most _ _ _ (by omega) hr hP hS (lv_sub hl [0, 5, 6, 2, 3, 4] rfl)
            · have hr := if_no hr c_4
              refine lv_iload hx hb dX4_hardest_76 (lv_at hl 0 rfl) ?_
              refine lv_istore (lv' := [(4, .int sees), (6, .int sees), (0, .ref h0), (1, .ref c1), (2, .int bare), (3, .int best), (5, .int (nI knot))]) hx hb dX4_hardest_78 hl (by decide) rfl (fun ls hl => ?_)
              refine lv_iload hx hb dX4_hardest_80 (lv_at hl 6 rfl) ?_
              refine lv_istore_n (lv' := [(3, .int (nI knot)), (4, .int sees), (6, .int sees), (0, .ref h0), (1, .ref c1), (2, .int bare), (5, .int (nI knot))]) hx hb dX4_hardest_82 rfl hl (by decide) rfl (fun ls hl => ?_)
              refine lv_iinc (v := nI (knot + 1)) (lv' := [(5, .int (nI (knot + 1))), (3, .int (nI knot)), (4, .int sees), (6, .int sees), (0, .ref h0), (1, .ref c1), (2, .int bare)]) hx hb dX4_hardest_83 hl (k := 6) rfl (nI_1 _) (by decide) rfl (fun ls hl => ?_)
              refine lv_goto (tgt := 8) hx hb dX4_hardest_86 (by decide) ?_
              exact ih_8 (knot + 1) (nI knot) sees _ _ _ (by omega) hr hP hS (lv_sub hl [0, 1, 2, 4, 5, 6] rfl)
          have lp_32 : ∀ (n_32 hue : Nat) (sees : Int32) (H : Heap) (locs : List Loc) (ls : Array Slot), hue + n_32 = 6 → L_hardest_32 f hu knot (fun sees => if sees ≤ most then L_hardest_8 K f hu bare (fun best most => best) n_8 (knot + 1) best most else L_hardest_8 K f hu bare (fun best most => best) n_8 (knot + 1) (nI knot) sees) n_32 hue sees = ρ → va_P (dC, dI) kCl [(h0, .inr (3, [.ref h1, .int (nI K)])), (h1, .inl (cI, 16, .inl f)), (c1, .inl (cI, 6, .inl hu))] H → va_S (fun _ => False) s.heap H locs → lv_has ls 8 [(7, .int (nI hue)), (6, .int sees), (0, .ref h0), (1, .ref c1), (2, .int bare), (3, .int best), (4, .int most), (5, .int (nI knot))] → W p l e (headSpec wsX4_hardest rm_X4_hardest).room s m (([.ref h0, .ref c1, .int bare] : List Value).toArray) below meth c H locs 0 0 (MQ below (kR (P_hardest K f hu bare)) (([.ref h0, .ref c1, .int bare] : List Value).toArray) s 0 0 (fun _ => False)) (F0 m 32 ls []) := by
            intro n_32
            induction n_32 with
            | zero =>
              intro hue sees H locs ls hi hr hP hS hl
              rewrite [L_hardest_32] at hr
              refine lv_iload hx hb dX4_hardest_32 (lv_at hl 0 rfl) ?_
              refine lv_aload_n hx hb dX4_hardest_34 rfl (lv_at hl 3 rfl) ?_
              refine va_alen (v := 6) hx hb hK hP 2 0 rfl rfl rfl dX4_hardest_35 ?_
              refine lv_icmp_ge (tgt := 69) hx hb dX4_hardest_36 (by decide) (fun c_5 => ?_) (fun c_5 => ?_)
              · exact ex_32 sees _ _ _ hr hP hS (lv_sub hl [1, 2, 3, 4, 5, 6, 7] rfl)
              · exact absurd (kTop (i := hue) (N := 6) rfl (by omega)) c_5
            | succ n_32 ih_32 =>
              intro hue sees H locs ls hi hr hP hS hl
              rewrite [L_hardest_32] at hr
              refine lv_iload hx hb dX4_hardest_32 (lv_at hl 0 rfl) ?_
              refine lv_aload_n hx hb dX4_hardest_34 rfl (lv_at hl 3 rfl) ?_
              refine va_alen (v := 6) hx hb hK hP 2 0 rfl rfl rfl dX4_hardest_35 ?_
              refine lv_icmp_ge (tgt := 69) hx hb dX4_hardest_36 (by decide) (fun c_6 => ?_) (fun c_6 => ?_)
              · exact absurd c_6 (kLow (i := hue) (N := 6) rfl (by omega) (by omega))
              · refine lv_iload hx hb dX4_hardest_39 (lv_at hl 1 rfl) ?_
                refine lv_aload_n hx hb dX4_hardest_41 rfl (lv_at hl 3 rfl) ?_
                refine lv_iload hx hb dX4_hardest_42 (lv_at hl 0 rfl) ?_
                refine va_iald hx hb hK hP 2 0 rfl rfl (vp_in_nI (by omega) (by omega)) dX4_hardest_44 ?_
                refine kRen (congrArg hu (nI_clamp (by omega))) ?_
                refine lv_aload_n hx hb dX4_hardest_45 rfl (lv_at hl 2 rfl) ?_
                refine lv_iload hx hb dX4_hardest_46 (lv_at hl 7 rfl) ?_
                refine kCall (va_runVN (As := [.int (nI knot)]) (rest := [.int (hu hue), .int sees]) ⟨hx, hb, hml, hown, hts⟩ (k_X3_nearOf l dC dI cI cN h0 h1 K f (nI knot) (by first | assumption | omega | exact Int32.le_refl _ | decide)) ⟨va_cnB 1 hts gX4_hardest_X3_nearOf_n49 rfl rfl rfl (hN.1 67 _ rfl) (hts (.initialized RX3) (by decide +kernel)) (by decide +kernel) ⟨Nat.le_of_ble_eq_true rfl, Nat.le_of_ble_eq_true rfl⟩, hts (.instanceMethod yX3_nearOf) (by decide +kernel), hts (.selects RX3 yX3_nearOf yX3_nearOf) (by decide +kernel)⟩ (kW_V hP hK hD hN (ci := 3) (q0 := 0) rfl rfl [0, 1] rfl rfl rfl) rfl rfl hl.1 rfl (lv_room (Nat.le_of_ble_eq_true rfl)) dX4_hardest_48 ⟨Nat.zero_le _, Nat.zero_le _⟩) hP hS (fun H locs hP hS => ?_)
                refine lv_iand hx hb dX4_hardest_51 ?_
                refine lv_if_eq (tgt := 59) hx hb dX4_hardest_52 (by decide) (fun c_7 => ?_) (fun c_7 => ?_)
                · have hr := if_to hr c_7
                  refine lv_iconst (v := 0) hx hb dX4_hardest_59 (by decide) ?_
                  refine lv_iadd hx hb dX4_hardest_60 ?_
                  refine lv_topi (fun sees_8 esees_8 => ?_)
                  have hr := bd_to hr esees_8
                  refine lv_istore (lv' := [(6, .int sees_8), (7, .int (nI hue)), (0, .ref h0), (1, .ref c1), (2, .int bare), (3, .int best), (4, .int most), (5, .int (nI knot))]) hx hb dX4_hardest_61 hl (by decide) rfl (fun ls hl => ?_)
                  refine lv_iinc (v := nI (hue + 1)) (lv' := [(7, .int (nI (hue + 1))), (6, .int sees_8), (0, .ref h0), (1, .ref c1), (2, .int bare), (3, .int best), (4, .int most), (5, .int (nI knot))]) hx hb dX4_hardest_63 hl (k := 1) rfl (nI_1 _) (by decide) rfl (fun ls hl => ?_)
                  refine lv_goto (tgt := 32) hx hb dX4_hardest_66 (by decide) ?_
                  exact ih_32 (hue + 1) sees_8 _ _ _ (by omega) hr hP hS (lv_sub hl [0, 1, 2, 3, 4, 5, 6, 7] rfl)
                · have hr := if_no hr c_7
                  refine lv_iconst (v := 1) hx hb dX4_hardest_55 (by decide) ?_
                  refine lv_goto (tgt := 60) hx hb dX4_hardest_56 (by decide) ?_
                  refine lv_iadd hx hb dX4_hardest_60 ?_
                  refine lv_topi (fun sees_9 esees_9 => ?_)
                  have hr := bd_to hr esees_9
                  refine lv_istore (lv' := [(6, .int sees_9), (7, .int (nI hue)), (0, .ref h0), (1, .ref c1), (2, .int bare), (3, .int best), (4, .int most), (5, .int (nI knot))]) hx hb dX4_hardest_61 hl (by decide) rfl (fun ls hl => ?_)
                  refine lv_iinc (v := nI (hue + 1)) (lv' := [(7, .int (nI (hue + 1))), (6, .int sees_9), (0, .ref h0), (1, .ref c1), (2, .int bare), (3, .int best), (4, .int most), (5, .int (nI knot))]) hx hb dX4_hardest_63 hl (k := 1) rfl (nI_1 _) (by decide) rfl (fun ls hl => ?_)
                  refine lv_goto (tgt := 32) hx hb dX4_hardest_66 (by decide) ?_
                  exact ih_32 (hue + 1) sees_9 _ _ _ (by omega) hr hP hS (lv_sub hl [0, 1, 2, 3, 4, 5, 6, 7] rfl)
          exact lp_32 6 0 0 _ _ _ (by omega) hr hP hS (lv_sub hl [0, 1, 5, 6, 7, 3, 4, 2] rfl)
  exact lp_8 K 0 (-1) (-1) _ _ _ (by omega) hr hP hS (lv_sub hl [0, 2, 1, 3, 4, 5] rfl)
def L_canPaint_26 (f : Nat → Int32) (many : Int32) (bare : Int32) (rc : Int32 → (Nat → Int32) → Int32 × (Nat → Int32)) (k : Int32 → (Nat → Int32) → Int32 × (Nat → Int32)) : Nat → Nat → Int32 → (Nat → Int32) → Int32 × (Nat → Int32)
  | 0, hue, knot, hs => k knot hs
  | n + 1, hue, knot, hs =>
    if (6 : Int32) ≤ (nI hue) then
      k knot hs
    else
      if ((hs hue) &&& (P_nearOf f knot)) = 0 then
        if (hs hue) = 0 then
          bd (rc (bare &&& ((P_bit knot) ^^^ (-1 : Int32))) (upd hs hue ((hs hue) ||| (P_bit knot)))) (fun r_1 =>
            if r_1.1 = 0 then
              (0, upd r_1.2 hue ((r_1.2 hue) &&& ((P_bit knot) ^^^ (-1 : Int32))))
            else
              (1, r_1.2))
        else
          bd (rc (bare &&& ((P_bit knot) ^^^ (-1 : Int32))) (upd hs hue ((hs hue) ||| (P_bit knot)))) (fun r_2 =>
            if r_2.1 = 0 then
              L_canPaint_26 f many bare (rc) k n (hue + 1) knot (upd r_2.2 hue ((r_2.2 hue) &&& ((P_bit knot) ^^^ (-1 : Int32))))
            else
              (1, r_2.2))
      else
        L_canPaint_26 f many bare (rc) k n (hue + 1) knot hs
def P_canPaint (K : Nat) (f : Nat → Int32) (many : Int32) : Nat → Int32 → (Nat → Int32) → Int32 × (Nat → Int32)
  | 0, bare, hu =>
    if bare = 0 then
      (1, hu)
    else
      (0, hu)
  | n + 1, bare, hu =>
    if bare = 0 then
      (1, hu)
    else
      bd (P_hardest K f hu bare) (fun knot_5 =>
        L_canPaint_26 f many bare ((P_canPaint K f many n)) (fun knot hs => (0, hs)) many.toNatClampNeg 0 knot_5 hu)
abbrev rm_X4_canPaint (n : Nat) : Room := { frames := 2 + n, cells := 0, slots := 0, locals := 48 + 27 * n }
set_option maxHeartbeats 8000000 in
set_option maxRecDepth 100000 in
theorem k_X4_canPaint (l : Launch) (dC : Nat → ClassId) (dI : Nat → Nat → Nat) (cI cN : ClassId) (h0 h1 : Nat) (K : Nat) (f : Nat → Int32) (hK : K ≤ 16) (c1 : Nat) (many : Int32) : ∀ (n : Nat) (bare : Int32) (hu : Nat → Int32) (dp : Nat) (sz : Nat), dp + n = 16 → Met l yX4_canPaint wsX4_canPaint (rm_X4_canPaint n) (va_Pc [.ref h0, .ref c1, .int bare, .int many, .int (nI dp)] (kU dC dI cI cN [(h0, .inr (3, [.ref h1, .int (nI K)])), (h1, .inl (cI, 16, .inl f)), (c1, .inl (cI, 6, .inl hu))] sz)) (kVi dC dI (P_canPaint K f many n bare hu).1 [(h0, .inr (3, [.ref h1, .int (nI K)])), (h1, .inl (cI, 16, .inl f)), (c1, .inl (cI, 6, .inl ((P_canPaint K f many n bare hu).2)))] (va_A [(h0, .inr (3, [.ref h1, .int (nI K)])), (h1, .inl (cI, 16, .inl f)), (c1, .inl (cI, 6, .inl hu))] sz)) 0 0 (va_A [(h0, .inr (3, [.ref h1, .int (nI K)])), (h1, .inl (cI, 16, .inl f)), (c1, .inl (cI, 6, .inl hu))] sz) := by
  intro n
  induction n with
  | zero =>
    intro bare hu dp sz hdp
    refine Met.ofW (cc := cX4_canPaint) (maxL := 8) (ret := (some .boolean)) (by decide) rfl ?_
    intro p e s m args below meth c s₁ B hml hv
    obtain ⟨rfl, hsz, hP, hK, hD0, hN⟩ := hv
    have hx := B.exec
    have hb := B.bytes
    have hr0 := B.returns
    have hts := atoms_spec (ws := wsX4_canPaint) B.pre
    have hown : s.vm.findClass RX4 = some m.cls := findClass_of_methodNamed B.named
    have hlocks := B.notSynchronized
    subst hsz
    have hD := hD0.self (sz := s.heap.size)
    generalize hAe : va_A [(h0, .inr (3, [.ref h1, .int (nI K)])), (h1, .inl (cI, 16, .inl f)), (c1, .inl (cI, 6, .inl hu))] s.heap.size = A at hD ⊢
    have hA : ∀ q : Nat, s.heap.size ≤ q → A q := fun q h => by rw [← hAe]; exact Or.inr h
    have hS : va_S A s.heap s.heap [] := va_S.rf
    have hl := lv_entry ([.ref h0, .ref c1, .int bare, .int many, .int (nI dp)]) (n := 8) (Nat.le_of_ble_eq_true rfl)
    rw [lg_entry_eq]
    generalize (lg_sl ([.ref h0, .ref c1, .int bare, .int many, .int (nI dp)]) ++ List.replicate (8 - (lg_sl ([.ref h0, .ref c1, .int bare, .int many, .int (nI dp)])).length) Slot.unset).toArray = ls at hl ⊢
    have hl : lv_has ls 8 [(0, .ref h0), (1, .ref c1), (2, .int bare), (3, .int many), (4, .int (nI dp))] := hl
    obtain ⟨ρ, hρ⟩ : ∃ ρ : Int32 × (Nat → Int32), ρ = P_canPaint K f many 0 bare hu := ⟨_, rfl⟩
    have hr : P_canPaint K f many 0 bare hu = ρ := hρ.symm
    rewrite [P_canPaint] at hr
    refine lv_iload_n hx hb dX4_canPaint_0 rfl (lv_at hl 2 rfl) ?_
    refine lv_if_ne (tgt := 6) hx hb dX4_canPaint_1 (by decide) (fun c_1 => ?_) (fun c_1 => ?_)
    · have hr := if_no hr c_1
      refine lv_iload hx hb dX4_canPaint_6 (lv_at hl 4 rfl) ?_
      refine lv_bipush (v := 16) hx hb dX4_canPaint_8 (by decide) ?_
      refine lv_icmp_lt (tgt := 15) hx hb dX4_canPaint_10 (by decide) (fun c_2 => ?_) (fun c_2 => ?_)
      · exact absurd c_2 (kDepth0 (by omega))
      · refine lv_iconst (v := 0) hx hb dX4_canPaint_13 (by decide) ?_
        have he := hr.trans hρ
        exact W.zret (v := 0) hx hb hr0 rfl (fun t ht hW => kVi_end (by rw [← he]) (by rw [← he]; exact hP) hS ht) hS.2.2 dX4_canPaint_14
    · have hr := if_to hr c_1
      refine lv_iconst (v := 1) hx hb dX4_canPaint_4 (by decide) ?_
      have he := hr.trans hρ
      exact W.zret (v := 1) hx hb hr0 rfl (fun t ht hW => kVi_end (by rw [← he]) (by rw [← he]; exact hP) hS ht) hS.2.2 dX4_canPaint_5
  | succ n ih_rec =>
    intro bare hu dp sz hdp
    refine Met.ofW (cc := cX4_canPaint) (maxL := 8) (ret := (some .boolean)) (by decide) rfl ?_
    intro p e s m args below meth c s₁ B hml hv
    obtain ⟨rfl, hsz, hP, hK, hD0, hN⟩ := hv
    have hx := B.exec
    have hb := B.bytes
    have hr0 := B.returns
    have hts := atoms_spec (ws := wsX4_canPaint) B.pre
    have hown : s.vm.findClass RX4 = some m.cls := findClass_of_methodNamed B.named
    have hlocks := B.notSynchronized
    subst hsz
    have hD := hD0.self (sz := s.heap.size)
    generalize hAe : va_A [(h0, .inr (3, [.ref h1, .int (nI K)])), (h1, .inl (cI, 16, .inl f)), (c1, .inl (cI, 6, .inl hu))] s.heap.size = A at hD ⊢
    have hA : ∀ q : Nat, s.heap.size ≤ q → A q := fun q h => by rw [← hAe]; exact Or.inr h
    have hS : va_S A s.heap s.heap [] := va_S.rf
    have hl := lv_entry ([.ref h0, .ref c1, .int bare, .int many, .int (nI dp)]) (n := 8) (Nat.le_of_ble_eq_true rfl)
    rw [lg_entry_eq]
    generalize (lg_sl ([.ref h0, .ref c1, .int bare, .int many, .int (nI dp)]) ++ List.replicate (8 - (lg_sl ([.ref h0, .ref c1, .int bare, .int many, .int (nI dp)])).length) Slot.unset).toArray = ls at hl ⊢
    have hl : lv_has ls 8 [(0, .ref h0), (1, .ref c1), (2, .int bare), (3, .int many), (4, .int (nI dp))] := hl
    obtain ⟨ρ, hρ⟩ : ∃ ρ : Int32 × (Nat → Int32), ρ = P_canPaint K f many (n + 1) bare hu := ⟨_, rfl⟩
    have hr : P_canPaint K f many (n + 1) bare hu = ρ := hρ.symm
    rewrite [P_canPaint] at hr
    refine lv_iload_n hx hb dX4_canPaint_0 rfl (lv_at hl 2 rfl) ?_
    refine lv_if_ne (tgt := 6) hx hb dX4_canPaint_1 (by decide) (fun c_3 => ?_) (fun c_3 => ?_)
    · have hr := if_no hr c_3
      refine lv_iload hx hb dX4_canPaint_6 (lv_at hl 4 rfl) ?_
      refine lv_bipush (v := 16) hx hb dX4_canPaint_8 (by decide) ?_
      refine lv_icmp_lt (tgt := 15) hx hb dX4_canPaint_10 (by decide) (fun c_4 => ?_) (fun c_4 => ?_)
      · refine lv_aload_n hx hb dX4_canPaint_15 rfl (lv_at hl 0 rfl) ?_
        refine lv_aload_n hx hb dX4_canPaint_16 rfl (lv_at hl 1 rfl) ?_
        refine lv_iload_n hx hb dX4_canPaint_17 rfl (lv_at hl 2 rfl) ?_
        refine kCall (va_runS (As := [.ref h0, .ref c1, .int bare]) (rest := []) ⟨hx, hb, hml, hown, hts⟩ (k_X4_hardest l dC dI cI cN h0 h1 K f c1 hu bare (by first | assumption | omega | exact Int32.le_refl _ | decide)) (va_cwS 3 hts gX4_canPaint_X4_hardest rfl rfl rfl (by decide +kernel) ⟨by show 1 + 1 ≤ 2 + (n + 1); omega, by show 8 + (8 + 11) + 21 ≤ 48 + 27 * (n + 1); omega⟩) (kW_S hP hK hD hN [0, 1, 2] rfl rfl rfl) rfl rfl hl.1 rfl (lv_room (Nat.le_of_ble_eq_true rfl)) dX4_canPaint_18 ⟨Nat.zero_le _, Nat.zero_le _⟩) hP hS (fun H locs hP hS => ?_)
        refine lv_topi (fun knot_5 eknot_5 => ?_)
        have hr := bd_to hr eknot_5
        refine lv_istore (lv' := [(5, .int knot_5), (0, .ref h0), (1, .ref c1), (2, .int bare), (3, .int many), (4, .int (nI dp))]) hx hb dX4_canPaint_21 hl (by decide) rfl (fun ls hl => ?_)
        refine lv_iconst (v := 0) hx hb dX4_canPaint_23 (by decide) ?_
        refine lv_istore (lv' := [(6, .int 0), (5, .int knot_5), (0, .ref h0), (1, .ref c1), (2, .int bare), (3, .int many), (4, .int (nI dp))]) hx hb dX4_canPaint_24 hl (by decide) rfl (fun ls hl => ?_)
        have ex_26 : ∀ (knot : Int32) (hs : Nat → Int32) (H : Heap) (locs : List Loc) (ls : Array Slot), ((0, hs)) = ρ → va_P (dC, dI) kCl [(h0, .inr (3, [.ref h1, .int (nI K)])), (h1, .inl (cI, 16, .inl f)), (c1, .inl (cI, 6, .inl hs))] H → va_D A [(h0, .inr (3, [.ref h1, .int (nI K)])), (h1, .inl (cI, 16, .inl f)), (c1, .inl (cI, 6, .inl hs))] → va_S A s.heap H locs → lv_has ls 8 [(5, .int knot), (0, .ref h0), (1, .ref c1), (2, .int bare), (3, .int many), (4, .int (nI dp))] → W p l e (headSpec wsX4_canPaint (rm_X4_canPaint (n + 1))).room s m (([.ref h0, .ref c1, .int bare, .int many, .int (nI dp)] : List Value).toArray) below meth c H locs 0 0 (MQ below (kVi dC dI (P_canPaint K f many (n + 1) bare hu).1 [(h0, .inr (3, [.ref h1, .int (nI K)])), (h1, .inl (cI, 16, .inl f)), (c1, .inl (cI, 6, .inl ((P_canPaint K f many (n + 1) bare hu).2)))] A) (([.ref h0, .ref c1, .int bare, .int many, .int (nI dp)] : List Value).toArray) s 0 0 A) (F0 m 133 ls []) := by
          intro knot hs H locs ls hr hP hD hS hl
          refine lv_iconst (v := 0) hx hb dX4_canPaint_133 (by decide) ?_
          have he := hr.trans hρ
          exact W.zret (v := 0) hx hb hr0 rfl (fun t ht hW => kVi_end (by rw [← he]) (by rw [← he]; exact hP) hS ht) hS.2.2 dX4_canPaint_134
        have lp_26 : ∀ (n_26 hue : Nat) (knot : Int32) (hs : Nat → Int32) (H : Heap) (locs : List Loc) (ls : Array Slot), hue + n_26 = many.toNatClampNeg → L_canPaint_26 f many bare ((P_canPaint K f many n)) (fun knot hs => (0, hs)) n_26 hue knot hs = ρ → va_P (dC, dI) kCl [(h0, .inr (3, [.ref h1, .int (nI K)])), (h1, .inl (cI, 16, .inl f)), (c1, .inl (cI, 6, .inl hs))] H → va_D A [(h0, .inr (3, [.ref h1, .int (nI K)])), (h1, .inl (cI, 16, .inl f)), (c1, .inl (cI, 6, .inl hs))] → va_S A s.heap H locs → lv_has ls 8 [(6, .int (nI hue)), (5, .int knot), (0, .ref h0), (1, .ref c1), (2, .int bare), (3, .int many), (4, .int (nI dp))] → W p l e (headSpec wsX4_canPaint (rm_X4_canPaint (n + 1))).room s m (([.ref h0, .ref c1, .int bare, .int many, .int (nI dp)] : List Value).toArray) below meth c H locs 0 0 (MQ below (kVi dC dI (P_canPaint K f many (n + 1) bare hu).1 [(h0, .inr (3, [.ref h1, .int (nI K)])), (h1, .inl (cI, 16, .inl f)), (c1, .inl (cI, 6, .inl ((P_canPaint K f many (n + 1) bare hu).2)))] A) (([.ref h0, .ref c1, .int bare, .int many, .int (nI dp)] : List Value).toArray) s 0 0 A) (F0 m 26 ls []) := by
          intro n_26
          induction n_26 with
          | zero =>
            intro hue knot hs H locs ls hi hr hP hD hS hl
            rewrite [L_canPaint_26] at hr
            have hi31 := kClampLt many
            refine lv_iload hx hb dX4_canPaint_26 (lv_at hl 0 rfl) ?_
            refine lv_iload_n hx hb dX4_canPaint_28 rfl (lv_at hl 5 rfl) ?_
            refine lv_icmp_ge (tgt := 133) hx hb dX4_canPaint_29 (by decide) (fun c_6 => ?_) (fun c_6 => ?_)
            · exact ex_26 knot hs _ _ _ hr hP hD hS (lv_sub hl [1, 2, 3, 4, 5, 6] rfl)
            · exact absurd (kTopC (i := hue) (by omega)) c_6
          | succ n_26 ih_26 =>
            intro hue knot hs H locs ls hi hr hP hD hS hl
            rewrite [L_canPaint_26] at hr
            have hi31 := kClampLt many
            refine lv_iload hx hb dX4_canPaint_26 (lv_at hl 0 rfl) ?_
            refine lv_iload_n hx hb dX4_canPaint_28 rfl (lv_at hl 5 rfl) ?_
            refine lv_icmp_ge (tgt := 133) hx hb dX4_canPaint_29 (by decide) (fun c_7 => ?_) (fun c_7 => ?_)
            · exact absurd c_7 (kLowC (i := hue) (by omega))
            · refine lv_iload hx hb dX4_canPaint_32 (lv_at hl 0 rfl) ?_
              refine lv_aload_n hx hb dX4_canPaint_34 rfl (lv_at hl 3 rfl) ?_
              refine va_alen (v := 6) hx hb hK hP 2 0 rfl rfl rfl dX4_canPaint_35 ?_
              refine lv_icmp_ge (tgt := 133) hx hb dX4_canPaint_36 (by decide) (fun c_8 => ?_) (fun c_8 => ?_)
              · have hr := if_to hr c_8
                exact ex_26 knot hs _ _ _ hr hP hD hS (lv_sub hl [1, 2, 3, 4, 5, 6] rfl)
              · have hr := if_no hr c_8
                refine lv_aload_n hx hb dX4_canPaint_39 rfl (lv_at hl 3 rfl) ?_
                refine lv_iload hx hb dX4_canPaint_40 (lv_at hl 0 rfl) ?_
                refine va_iald hx hb hK hP 2 0 rfl rfl (vp_in_nI (kInN (n := 6) (N := 6) rfl (by assumption) (by omega) (by omega)) (by omega)) dX4_canPaint_42 ?_
                refine kRen (congrArg hs (nI_clamp (by omega))) ?_
                refine lv_aload_n hx hb dX4_canPaint_43 rfl (lv_at hl 2 rfl) ?_
                refine lv_iload hx hb dX4_canPaint_44 (lv_at hl 1 rfl) ?_
                refine kCall (va_runVN (As := [.int knot]) (rest := [.int (hs hue)]) ⟨hx, hb, hml, hown, hts⟩ (k_X3_nearOf l dC dI cI cN h0 h1 K f knot (by first | assumption | omega | exact Int32.le_refl _ | decide)) ⟨va_cnB 1 hts gX4_canPaint_X3_nearOf_n49 rfl rfl rfl (hN.1 67 _ rfl) (hts (.initialized RX3) (by decide +kernel)) (by decide +kernel) ⟨by show 0 + 1 ≤ 2 + (n + 1); omega, by show 8 + (2 + 11) + 0 ≤ 48 + 27 * (n + 1); omega⟩, hts (.instanceMethod yX3_nearOf) (by decide +kernel), hts (.selects RX3 yX3_nearOf yX3_nearOf) (by decide +kernel)⟩ (kW_V hP hK hD hN (ci := 3) (q0 := 0) rfl rfl [0, 1] rfl rfl rfl) rfl rfl hl.1 rfl (lv_room (Nat.le_of_ble_eq_true rfl)) dX4_canPaint_46 ⟨Nat.zero_le _, Nat.zero_le _⟩) hP hS (fun H locs hP hS => ?_)
                refine lv_iand hx hb dX4_canPaint_49 ?_
                refine lv_if_eq (tgt := 56) hx hb dX4_canPaint_50 (by decide) (fun c_9 => ?_) (fun c_9 => ?_)
                · have hr := if_to hr c_9
                  refine lv_aload_n hx hb dX4_canPaint_56 rfl (lv_at hl 3 rfl) ?_
                  refine lv_iload hx hb dX4_canPaint_57 (lv_at hl 0 rfl) ?_
                  refine va_iald hx hb hK hP 2 0 rfl rfl (vp_in_nI (kInN (n := 6) (N := 6) rfl (by assumption) (by omega) (by omega)) (by omega)) dX4_canPaint_59 ?_
                  refine kRen (congrArg hs (nI_clamp (by omega))) ?_
                  refine lv_if_ne (tgt := 67) hx hb dX4_canPaint_60 (by decide) (fun c_10 => ?_) (fun c_10 => ?_)
                  · have hr := if_no hr c_10
                    refine lv_iconst (v := 0) hx hb dX4_canPaint_67 (by decide) ?_
                    refine lv_istore (lv' := [(7, .int 0), (6, .int (nI hue)), (5, .int knot), (0, .ref h0), (1, .ref c1), (2, .int bare), (3, .int many), (4, .int (nI dp))]) hx hb dX4_canPaint_68 hl (by decide) rfl (fun ls hl => ?_)
                    refine lv_aload_n hx hb dX4_canPaint_70 rfl (lv_at hl 4 rfl) ?_
                    refine lv_iload hx hb dX4_canPaint_71 (lv_at hl 1 rfl) ?_
                    refine lv_dup2_11 hx hb dX4_canPaint_73 rfl rfl ?_
                    refine va_iald hx hb hK hP 2 0 rfl rfl (vp_in_nI (kInN (n := 6) (N := 6) rfl (by assumption) (by omega) (by omega)) (by omega)) dX4_canPaint_74 ?_
                    refine kRen (congrArg hs (nI_clamp (by omega))) ?_
                    refine lv_iload hx hb dX4_canPaint_75 (lv_at hl 2 rfl) ?_
                    refine kCall (va_runSN (As := [.int knot]) (rest := [.int (hs hue), .int (nI hue), .ref c1]) ⟨hx, hb, hml, hown, hts⟩ (k_X6_bit l dC dI cI cN knot) ⟨va_cnB 1 hts gX4_canPaint_X6_bit_n53 rfl rfl rfl (hN.1 68 _ rfl) (hts (.initialized RX6) (by decide +kernel)) (by decide +kernel) ⟨by show 0 + 1 ≤ 2 + (n + 1); omega, by show 8 + (1 + 11) + 0 ≤ 48 + 27 * (n + 1); omega⟩, hts (.static yX6_bit) (by decide +kernel), trivial⟩ (kW_S hP hK hD hN [] rfl rfl rfl) rfl rfl hl.1 rfl (lv_room (Nat.le_of_ble_eq_true rfl)) dX4_canPaint_77 ⟨Nat.zero_le _, Nat.zero_le _⟩) hP hS (fun H locs hP hS => ?_)
                    refine lv_ior hx hb dX4_canPaint_80 ?_
                    refine va_iast hx hb hK hP hD hS 2 0 rfl rfl (vp_in_nI (kInN (n := 6) (N := 6) rfl (by assumption) (by omega) (by omega)) (by omega)) dX4_canPaint_81 (fun H locs hP hD hS => ?_)
                    rw [show (nI hue).toNatClampNeg = hue from nI_clamp (by omega)] at hP hD
                    have hP : va_P (dC, dI) kCl [(h0, .inr (3, [.ref h1, .int (nI K)])), (h1, .inl (cI, 16, .inl f)), (c1, .inl (cI, 6, .inl (upd hs hue ((hs hue) ||| (P_bit knot)))))] H := hP
                    have hD : va_D A [(h0, .inr (3, [.ref h1, .int (nI K)])), (h1, .inl (cI, 16, .inl f)), (c1, .inl (cI, 6, .inl (upd hs hue ((hs hue) ||| (P_bit knot)))))] := hD
                    refine lv_aload_n hx hb dX4_canPaint_82 rfl (lv_at hl 3 rfl) ?_
                    refine lv_aload_n hx hb dX4_canPaint_83 rfl (lv_at hl 4 rfl) ?_
                    refine lv_iload_n hx hb dX4_canPaint_84 rfl (lv_at hl 5 rfl) ?_
                    refine lv_iload hx hb dX4_canPaint_85 (lv_at hl 2 rfl) ?_
                    refine kCall (va_runSN (As := [.int knot]) (rest := [.int bare, .ref c1, .ref h0]) ⟨hx, hb, hml, hown, hts⟩ (k_X6_bit l dC dI cI cN knot) ⟨va_cnB 1 hts gX4_canPaint_X6_bit_n53 rfl rfl rfl (hN.1 68 _ rfl) (hts (.initialized RX6) (by decide +kernel)) (by decide +kernel) ⟨by show 0 + 1 ≤ 2 + (n + 1); omega, by show 8 + (1 + 11) + 0 ≤ 48 + 27 * (n + 1); omega⟩, hts (.static yX6_bit) (by decide +kernel), trivial⟩ (kW_S hP hK hD hN [] rfl rfl rfl) rfl rfl hl.1 rfl (lv_room (Nat.le_of_ble_eq_true rfl)) dX4_canPaint_87 ⟨Nat.zero_le _, Nat.zero_le _⟩) hP hS (fun H locs hP hS => ?_)
                    refine lv_iconst (v := (-1)) hx hb dX4_canPaint_90 (by decide) ?_
                    refine lv_ixor hx hb dX4_canPaint_91 ?_
                    refine lv_iand hx hb dX4_canPaint_92 ?_
                    refine lv_iload_n hx hb dX4_canPaint_93 rfl (lv_at hl 6 rfl) ?_
                    refine lv_iload hx hb dX4_canPaint_94 (lv_at hl 7 rfl) ?_
                    refine lv_iconst (v := 1) hx hb dX4_canPaint_96 (by decide) ?_
                    refine lv_iadd hx hb dX4_canPaint_97 ?_
                    refine kRen (y := nI (dp + 1)) (nI_1 _) ?_
                    refine kCallVi (wr := []) (va_runS (As := [.ref h0, .ref c1, .int (bare &&& ((P_bit knot) ^^^ (-1 : Int32))), .int many, .int (nI (dp + 1))]) (rest := []) ⟨hx, hb, hml, hown, hts⟩ (ih_rec (bare &&& ((P_bit knot) ^^^ (-1 : Int32))) (upd hs hue ((hs hue) ||| (P_bit knot))) (dp + 1) _ (by omega)) (va_cwS 5 hts gX4_canPaint_X4_canPaint rfl rfl rfl (by decide +kernel) ⟨by show 2 + n + 1 ≤ 2 + (n + 1); omega, by show 8 + (8 + 11) + (48 + 27 * n) ≤ 48 + 27 * (n + 1); omega⟩) (kU_S hP hK hD hN [0, 1, 2] rfl rfl rfl) rfl rfl hl.1 rfl (lv_room (Nat.le_of_ble_eq_true rfl)) dX4_canPaint_98 ⟨Nat.zero_le _, Nat.zero_le _⟩) hP hD hS hA [0, 1, 2] [] rfl rfl rfl rfl (by decide) rfl (fun H locs hP hD hS => ?_)
                    obtain ⟨r_11, er_11⟩ : ∃ y : Int32 × (Nat → Int32), y = ((P_canPaint K f many n) (bare &&& ((P_bit knot) ^^^ (-1 : Int32))) (upd hs hue ((hs hue) ||| (P_bit knot)))) := ⟨_, rfl⟩
                    rw [← er_11]
                    try rw [← er_11] at hP hD
                    have hr := bd_to hr er_11
                    have hP : va_P (dC, dI) kCl [(h0, .inr (3, [.ref h1, .int (nI K)])), (h1, .inl (cI, 16, .inl f)), (c1, .inl (cI, 6, .inl r_11.2))] H := hP.sub [0, 1, 2] rfl
                    have hD : va_D A [(h0, .inr (3, [.ref h1, .int (nI K)])), (h1, .inl (cI, 16, .inl f)), (c1, .inl (cI, 6, .inl r_11.2))] := hD.sub [0, 1, 2] (by decide) rfl
                    refine lv_if_eq (tgt := 106) hx hb dX4_canPaint_101 (by decide) (fun c_12 => ?_) (fun c_12 => ?_)
                    · have hr := if_to hr c_12
                      refine lv_aload_n hx hb dX4_canPaint_106 rfl (lv_at hl 4 rfl) ?_
                      refine lv_iload hx hb dX4_canPaint_107 (lv_at hl 1 rfl) ?_
                      refine lv_dup2_11 hx hb dX4_canPaint_109 rfl rfl ?_
                      refine va_iald hx hb hK hP 2 0 rfl rfl (vp_in_nI (kInN (n := 6) (N := 6) rfl (by assumption) (by omega) (by omega)) (by omega)) dX4_canPaint_110 ?_
                      refine kRen (congrArg r_11.2 (nI_clamp (by omega))) ?_
                      refine lv_iload hx hb dX4_canPaint_111 (lv_at hl 2 rfl) ?_
                      refine kCall (va_runSN (As := [.int knot]) (rest := [.int (r_11.2 hue), .int (nI hue), .ref c1]) ⟨hx, hb, hml, hown, hts⟩ (k_X6_bit l dC dI cI cN knot) ⟨va_cnB 1 hts gX4_canPaint_X6_bit_n53 rfl rfl rfl (hN.1 68 _ rfl) (hts (.initialized RX6) (by decide +kernel)) (by decide +kernel) ⟨by show 0 + 1 ≤ 2 + (n + 1); omega, by show 8 + (1 + 11) + 0 ≤ 48 + 27 * (n + 1); omega⟩, hts (.static yX6_bit) (by decide +kernel), trivial⟩ (kW_S hP hK hD hN [] rfl rfl rfl) rfl rfl hl.1 rfl (lv_room (Nat.le_of_ble_eq_true rfl)) dX4_canPaint_113 ⟨Nat.zero_le _, Nat.zero_le _⟩) hP hS (fun H locs hP hS => ?_)
                      refine lv_iconst (v := (-1)) hx hb dX4_canPaint_116 (by decide) ?_
                      refine lv_ixor hx hb dX4_canPaint_117 ?_
                      refine lv_iand hx hb dX4_canPaint_118 ?_
                      refine va_iast hx hb hK hP hD hS 2 0 rfl rfl (vp_in_nI (kInN (n := 6) (N := 6) rfl (by assumption) (by omega) (by omega)) (by omega)) dX4_canPaint_119 (fun H locs hP hD hS => ?_)
                      rw [show (nI hue).toNatClampNeg = hue from nI_clamp (by omega)] at hP hD
                      have hP : va_P (dC, dI) kCl [(h0, .inr (3, [.ref h1, .int (nI K)])), (h1, .inl (cI, 16, .inl f)), (c1, .inl (cI, 6, .inl (upd r_11.2 hue ((r_11.2 hue) &&& ((P_bit knot) ^^^ (-1 : Int32))))))] H := hP
                      have hD : va_D A [(h0, .inr (3, [.ref h1, .int (nI K)])), (h1, .inl (cI, 16, .inl f)), (c1, .inl (cI, 6, .inl (upd r_11.2 hue ((r_11.2 hue) &&& ((P_bit knot) ^^^ (-1 : Int32))))))] := hD
                      refine lv_iload hx hb dX4_canPaint_120 (lv_at hl 0 rfl) ?_
                      refine lv_if_eq (tgt := 127) hx hb dX4_canPaint_122 (by decide) (fun c_13 => ?_) (fun c_13 => ?_)
                      · refine lv_iinc (v := nI (hue + 1)) (lv' := [(6, .int (nI (hue + 1))), (7, .int 0), (5, .int knot), (0, .ref h0), (1, .ref c1), (2, .int bare), (3, .int many), (4, .int (nI dp))]) hx hb dX4_canPaint_127 hl (k := 1) rfl (nI_1 _) (by decide) rfl (fun ls hl => ?_)
                        refine lv_goto (tgt := 26) hx hb dX4_canPaint_130 (by decide) ?_
                        exact ih_26 (hue + 1) knot (upd r_11.2 hue ((r_11.2 hue) &&& ((P_bit knot) ^^^ (-1 : Int32)))) _ _ _ (by omega) hr hP hD hS (lv_sub hl [0, 2, 3, 4, 5, 6, 7] rfl)
                      · exact absurd c_13 (by decide)
                    · have hr := if_no hr c_12
                      refine lv_iconst (v := 1) hx hb dX4_canPaint_104 (by decide) ?_
                      have he := hr.trans hρ
                      exact W.zret (v := 1) hx hb hr0 rfl (fun t ht hW => kVi_end (by rw [← he]) (by rw [← he]; exact hP) hS ht) hS.2.2 dX4_canPaint_105
                  · have hr := if_to hr c_10
                    refine lv_iconst (v := 1) hx hb dX4_canPaint_63 (by decide) ?_
                    refine lv_goto (tgt := 68) hx hb dX4_canPaint_64 (by decide) ?_
                    refine lv_istore (lv' := [(7, .int 1), (6, .int (nI hue)), (5, .int knot), (0, .ref h0), (1, .ref c1), (2, .int bare), (3, .int many), (4, .int (nI dp))]) hx hb dX4_canPaint_68 hl (by decide) rfl (fun ls hl => ?_)
                    refine lv_aload_n hx hb dX4_canPaint_70 rfl (lv_at hl 4 rfl) ?_
                    refine lv_iload hx hb dX4_canPaint_71 (lv_at hl 1 rfl) ?_
                    refine lv_dup2_11 hx hb dX4_canPaint_73 rfl rfl ?_
                    refine va_iald hx hb hK hP 2 0 rfl rfl (vp_in_nI (kInN (n := 6) (N := 6) rfl (by assumption) (by omega) (by omega)) (by omega)) dX4_canPaint_74 ?_
                    refine kRen (congrArg hs (nI_clamp (by omega))) ?_
                    refine lv_iload hx hb dX4_canPaint_75 (lv_at hl 2 rfl) ?_
                    refine kCall (va_runSN (As := [.int knot]) (rest := [.int (hs hue), .int (nI hue), .ref c1]) ⟨hx, hb, hml, hown, hts⟩ (k_X6_bit l dC dI cI cN knot) ⟨va_cnB 1 hts gX4_canPaint_X6_bit_n53 rfl rfl rfl (hN.1 68 _ rfl) (hts (.initialized RX6) (by decide +kernel)) (by decide +kernel) ⟨by show 0 + 1 ≤ 2 + (n + 1); omega, by show 8 + (1 + 11) + 0 ≤ 48 + 27 * (n + 1); omega⟩, hts (.static yX6_bit) (by decide +kernel), trivial⟩ (kW_S hP hK hD hN [] rfl rfl rfl) rfl rfl hl.1 rfl (lv_room (Nat.le_of_ble_eq_true rfl)) dX4_canPaint_77 ⟨Nat.zero_le _, Nat.zero_le _⟩) hP hS (fun H locs hP hS => ?_)
                    refine lv_ior hx hb dX4_canPaint_80 ?_
                    refine va_iast hx hb hK hP hD hS 2 0 rfl rfl (vp_in_nI (kInN (n := 6) (N := 6) rfl (by assumption) (by omega) (by omega)) (by omega)) dX4_canPaint_81 (fun H locs hP hD hS => ?_)
                    rw [show (nI hue).toNatClampNeg = hue from nI_clamp (by omega)] at hP hD
                    have hP : va_P (dC, dI) kCl [(h0, .inr (3, [.ref h1, .int (nI K)])), (h1, .inl (cI, 16, .inl f)), (c1, .inl (cI, 6, .inl (upd hs hue ((hs hue) ||| (P_bit knot)))))] H := hP
                    have hD : va_D A [(h0, .inr (3, [.ref h1, .int (nI K)])), (h1, .inl (cI, 16, .inl f)), (c1, .inl (cI, 6, .inl (upd hs hue ((hs hue) ||| (P_bit knot)))))] := hD
                    refine lv_aload_n hx hb dX4_canPaint_82 rfl (lv_at hl 3 rfl) ?_
                    refine lv_aload_n hx hb dX4_canPaint_83 rfl (lv_at hl 4 rfl) ?_
                    refine lv_iload_n hx hb dX4_canPaint_84 rfl (lv_at hl 5 rfl) ?_
                    refine lv_iload hx hb dX4_canPaint_85 (lv_at hl 2 rfl) ?_
                    refine kCall (va_runSN (As := [.int knot]) (rest := [.int bare, .ref c1, .ref h0]) ⟨hx, hb, hml, hown, hts⟩ (k_X6_bit l dC dI cI cN knot) ⟨va_cnB 1 hts gX4_canPaint_X6_bit_n53 rfl rfl rfl (hN.1 68 _ rfl) (hts (.initialized RX6) (by decide +kernel)) (by decide +kernel) ⟨by show 0 + 1 ≤ 2 + (n + 1); omega, by show 8 + (1 + 11) + 0 ≤ 48 + 27 * (n + 1); omega⟩, hts (.static yX6_bit) (by decide +kernel), trivial⟩ (kW_S hP hK hD hN [] rfl rfl rfl) rfl rfl hl.1 rfl (lv_room (Nat.le_of_ble_eq_true rfl)) dX4_canPaint_87 ⟨Nat.zero_le _, Nat.zero_le _⟩) hP hS (fun H locs hP hS => ?_)
                    refine lv_iconst (v := (-1)) hx hb dX4_canPaint_90 (by decide) ?_
                    refine lv_ixor hx hb dX4_canPaint_91 ?_
                    refine lv_iand hx hb dX4_canPaint_92 ?_
                    refine lv_iload_n hx hb dX4_canPaint_93 rfl (lv_at hl 6 rfl) ?_
                    refine lv_iload hx hb dX4_canPaint_94 (lv_at hl 7 rfl) ?_
                    refine lv_iconst (v := 1) hx hb dX4_canPaint_96 (by decide) ?_
                    refine lv_iadd hx hb dX4_canPaint_97 ?_
                    refine kRen (y := nI (dp + 1)) (nI_1 _) ?_
                    refine kCallVi (wr := []) (va_runS (As := [.ref h0, .ref c1, .int (bare &&& ((P_bit knot) ^^^ (-1 : Int32))), .int many, .int (nI (dp + 1))]) (rest := []) ⟨hx, hb, hml, hown, hts⟩ (ih_rec (bare &&& ((P_bit knot) ^^^ (-1 : Int32))) (upd hs hue ((hs hue) ||| (P_bit knot))) (dp + 1) _ (by omega)) (va_cwS 5 hts gX4_canPaint_X4_canPaint rfl rfl rfl (by decide +kernel) ⟨by show 2 + n + 1 ≤ 2 + (n + 1); omega, by show 8 + (8 + 11) + (48 + 27 * n) ≤ 48 + 27 * (n + 1); omega⟩) (kU_S hP hK hD hN [0, 1, 2] rfl rfl rfl) rfl rfl hl.1 rfl (lv_room (Nat.le_of_ble_eq_true rfl)) dX4_canPaint_98 ⟨Nat.zero_le _, Nat.zero_le _⟩) hP hD hS hA [0, 1, 2] [] rfl rfl rfl rfl (by decide) rfl (fun H locs hP hD hS => ?_)
                    obtain ⟨r_14, er_14⟩ : ∃ y : Int32 × (Nat → Int32), y = ((P_canPaint K f many n) (bare &&& ((P_bit knot) ^^^ (-1 : Int32))) (upd hs hue ((hs hue) ||| (P_bit knot)))) := ⟨_, rfl⟩
                    rw [← er_14]
                    try rw [← er_14] at hP hD
                    have hr := bd_to hr er_14
                    have hP : va_P (dC, dI) kCl [(h0, .inr (3, [.ref h1, .int (nI K)])), (h1, .inl (cI, 16, .inl f)), (c1, .inl (cI, 6, .inl r_14.2))] H := hP.sub [0, 1, 2] rfl
                    have hD : va_D A [(h0, .inr (3, [.ref h1, .int (nI K)])), (h1, .inl (cI, 16, .inl f)), (c1, .inl (cI, 6, .inl r_14.2))] := hD.sub [0, 1, 2] (by decide) rfl
                    refine lv_if_eq (tgt := 106) hx hb dX4_canPaint_101 (by decide) (fun c_15 => ?_) (fun c_15 => ?_)
                    · have hr := if_to hr c_15
                      refine lv_aload_n hx hb dX4_canPaint_106 rfl (lv_at hl 4 rfl) ?_
                      refine lv_iload hx hb dX4_canPaint_107 (lv_at hl 1 rfl) ?_
                      refine lv_dup2_11 hx hb dX4_canPaint_109 rfl rfl ?_
                      refine va_iald hx hb hK hP 2 0 rfl rfl (vp_in_nI (kInN (n := 6) (N := 6) rfl (by assumption) (by omega) (by omega)) (by omega)) dX4_canPaint_110 ?_
                      refine kRen (congrArg r_14.2 (nI_clamp (by omega))) ?_
                      refine lv_iload hx hb dX4_canPaint_111 (lv_at hl 2 rfl) ?_
                      refine kCall (va_runSN (As := [.int knot]) (rest := [.int (r_14.2 hue), .int (nI hue), .ref c1]) ⟨hx, hb, hml, hown, hts⟩ (k_X6_bit l dC dI cI cN knot) ⟨va_cnB 1 hts gX4_canPaint_X6_bit_n53 rfl rfl rfl (hN.1 68 _ rfl) (hts (.initialized RX6) (by decide +kernel)) (by decide +kernel) ⟨by show 0 + 1 ≤ 2 + (n + 1); omega, by show 8 + (1 + 11) + 0 ≤ 48 + 27 * (n + 1); omega⟩, hts (.static yX6_bit) (by decide +kernel), trivial⟩ (kW_S hP hK hD hN [] rfl rfl rfl) rfl rfl hl.1 rfl (lv_room (Nat.le_of_ble_eq_true rfl)) dX4_canPaint_113 ⟨Nat.zero_le _, Nat.zero_le _⟩) hP hS (fun H locs hP hS => ?_)
                      refine lv_iconst (v := (-1)) hx hb dX4_canPaint_116 (by decide) ?_
                      refine lv_ixor hx hb dX4_canPaint_117 ?_
                      refine lv_iand hx hb dX4_canPaint_118 ?_
                      refine va_iast hx hb hK hP hD hS 2 0 rfl rfl (vp_in_nI (kInN (n := 6) (N := 6) rfl (by assumption) (by omega) (by omega)) (by omega)) dX4_canPaint_119 (fun H locs hP hD hS => ?_)
                      rw [show (nI hue).toNatClampNeg = hue from nI_clamp (by omega)] at hP hD
                      have hP : va_P (dC, dI) kCl [(h0, .inr (3, [.ref h1, .int (nI K)])), (h1, .inl (cI, 16, .inl f)), (c1, .inl (cI, 6, .inl (upd r_14.2 hue ((r_14.2 hue) &&& ((P_bit knot) ^^^ (-1 : Int32))))))] H := hP
                      have hD : va_D A [(h0, .inr (3, [.ref h1, .int (nI K)])), (h1, .inl (cI, 16, .inl f)), (c1, .inl (cI, 6, .inl (upd r_14.2 hue ((r_14.2 hue) &&& ((P_bit knot) ^^^ (-1 : Int32))))))] := hD
                      refine lv_iload hx hb dX4_canPaint_120 (lv_at hl 0 rfl) ?_
                      refine lv_if_eq (tgt := 127) hx hb dX4_canPaint_122 (by decide) (fun c_16 => ?_) (fun c_16 => ?_)
                      · exact absurd c_16 (by decide)
                      · refine lv_iconst (v := 0) hx hb dX4_canPaint_125 (by decide) ?_
                        have he := hr.trans hρ
                        exact W.zret (v := 0) hx hb hr0 rfl (fun t ht hW => kVi_end (by rw [← he]) (by rw [← he]; exact hP) hS ht) hS.2.2 dX4_canPaint_126
                    · have hr := if_no hr c_15
                      refine lv_iconst (v := 1) hx hb dX4_canPaint_104 (by decide) ?_
                      have he := hr.trans hρ
                      exact W.zret (v := 1) hx hb hr0 rfl (fun t ht hW => kVi_end (by rw [← he]) (by rw [← he]; exact hP) hS ht) hS.2.2 dX4_canPaint_105
                · have hr := if_no hr c_9
                  refine lv_goto (tgt := 127) hx hb dX4_canPaint_53 (by decide) ?_
                  refine lv_iinc (v := nI (hue + 1)) (lv' := [(6, .int (nI (hue + 1))), (5, .int knot), (0, .ref h0), (1, .ref c1), (2, .int bare), (3, .int many), (4, .int (nI dp))]) hx hb dX4_canPaint_127 hl (k := 0) rfl (nI_1 _) (by decide) rfl (fun ls hl => ?_)
                  refine lv_goto (tgt := 26) hx hb dX4_canPaint_130 (by decide) ?_
                  exact ih_26 (hue + 1) knot hs _ _ _ (by omega) hr hP hD hS (lv_sub hl [0, 1, 2, 3, 4, 5, 6] rfl)
        exact lp_26 many.toNatClampNeg 0 knot_5 hu _ _ _ (by omega) hr hP hD hS (lv_sub hl [0, 1, 2, 3, 4, 5, 6] rfl)
      · exact absurd (kDepthS (by omega)) c_4
    · have hr := if_to hr c_3
      refine lv_iconst (v := 1) hx hb dX4_canPaint_4 (by decide) ?_
      have he := hr.trans hρ
      exact W.zret (v := 1) hx hb hr0 rfl (fun t ht hW => kVi_end (by rw [← he]) (by rw [← he]; exact hP) hS ht) hS.2.2 dX4_canPaint_5
def L_fewestOf_16  (k : (Nat → Int32) → Int32 × (Nat → Int32)) : Nat → Nat → (Nat → Int32) → Int32 × (Nat → Int32)
  | 0, hue, hz => k hz
  | n + 1, hue, hz =>
    L_fewestOf_16 k n (hue + 1) (upd hz hue (0 : Int32))
def L_fewestOf_3 (K : Nat) (f : Nat → Int32) (part : Int32) (k : (Nat → Int32) → Int32 × (Nat → Int32)) : Nat → Int32 → (Nat → Int32) → Int32 × (Nat → Int32)
  | 0, many, hs => k hs
  | n + 1, many, hs =>
    L_fewestOf_16 (fun hz => bd (P_canPaint K f many 16 part hz) (fun r_1 => if r_1.1 = 0 then L_fewestOf_3 K f part k n (many + 1) r_1.2 else (many, r_1.2))) 6 0 hs
def P_fewestOf (K : Nat) (f : Nat → Int32) (hu : Nat → Int32) (part : Int32) (low : Int32) : Int32 × (Nat → Int32) :=
  L_fewestOf_3 K f part (fun hs => (6, hs)) ((((6 : Int32)).toInt - (low).toInt).toNat) low hu
abbrev rm_X4_fewestOf : Room := { frames := 19, cells := 0, slots := 0, locals := 507 }
set_option maxHeartbeats 4000000 in
set_option maxRecDepth 100000 in
theorem k_X4_fewestOf (l : Launch) (dC : Nat → ClassId) (dI : Nat → Nat → Nat) (cI cN : ClassId) (c0 : Nat) (c1 : Nat) (hu : Nat → Int32) (h0 : Nat) (h1 : Nat) (K : Nat) (f : Nat → Int32) (part : Int32) (low : Int32) (hK : K ≤ 16) (sz : Nat) : Met l yX4_fewestOf wsX4_fewestOf rm_X4_fewestOf (va_Pc [.ref c0, .ref h0, .int part, .int low] (kU dC dI cI cN [(c0, .inr (4, [.ref c1])), (c1, .inl (cI, 6, .inl hu)), (h0, .inr (3, [.ref h1, .int (nI K)])), (h1, .inl (cI, 16, .inl f))] sz)) (kVi dC dI (P_fewestOf K f hu part low).1 [(c0, .inr (4, [.ref c1])), (c1, .inl (cI, 6, .inl ((P_fewestOf K f hu part low).2))), (h0, .inr (3, [.ref h1, .int (nI K)])), (h1, .inl (cI, 16, .inl f))] (va_A [(c0, .inr (4, [.ref c1])), (c1, .inl (cI, 6, .inl hu)), (h0, .inr (3, [.ref h1, .int (nI K)])), (h1, .inl (cI, 16, .inl f))] sz)) 0 0 (va_A [(c0, .inr (4, [.ref c1])), (c1, .inl (cI, 6, .inl hu)), (h0, .inr (3, [.ref h1, .int (nI K)])), (h1, .inl (cI, 16, .inl f))] sz) := by
  refine Met.ofW (cc := cX4_fewestOf) (maxL := 6) (ret := (some .int)) (by decide) rfl ?_
  intro p e s m args below meth c s₁ B hml hv
  obtain ⟨rfl, hsz, hP, hK, hD0, hN⟩ := hv
  have hx := B.exec
  have hb := B.bytes
  have hr0 := B.returns
  have hts := atoms_spec (ws := wsX4_fewestOf) B.pre
  have hown : s.vm.findClass RX4 = some m.cls := findClass_of_methodNamed B.named
  have hlocks := B.notSynchronized
  subst hsz
  have hD := hD0.self (sz := s.heap.size)
  generalize hAe : va_A [(c0, .inr (4, [.ref c1])), (c1, .inl (cI, 6, .inl hu)), (h0, .inr (3, [.ref h1, .int (nI K)])), (h1, .inl (cI, 16, .inl f))] s.heap.size = A at hD ⊢
  have hA : ∀ q : Nat, s.heap.size ≤ q → A q := fun q h => by rw [← hAe]; exact Or.inr h
  have hS : va_S A s.heap s.heap [] := va_S.rf
  have hl := lv_entry ([.ref c0, .ref h0, .int part, .int low]) (n := 6) (Nat.le_of_ble_eq_true rfl)
  rw [lg_entry_eq]
  generalize (lg_sl ([.ref c0, .ref h0, .int part, .int low]) ++ List.replicate (6 - (lg_sl ([.ref c0, .ref h0, .int part, .int low])).length) Slot.unset).toArray = ls at hl ⊢
  have hl : lv_has ls 6 [(0, .ref c0), (1, .ref h0), (2, .int part), (3, .int low)] := hl
  obtain ⟨ρ, hρ⟩ : ∃ ρ : Int32 × (Nat → Int32), ρ = P_fewestOf K f hu part low := ⟨_, rfl⟩
  have hr : P_fewestOf K f hu part low = ρ := hρ.symm
  rewrite [P_fewestOf] at hr
  refine lv_iload_n hx hb dX4_fewestOf_0 rfl (lv_at hl 3 rfl) ?_
  refine lv_istore (lv' := [(4, .int low), (0, .ref c0), (1, .ref h0), (2, .int part), (3, .int low)]) hx hb dX4_fewestOf_1 hl (by decide) rfl (fun ls hl => ?_)
  have ex_3 : ∀ (hs : Nat → Int32) (H : Heap) (locs : List Loc) (ls : Array Slot), ((6, hs)) = ρ → va_P (dC, dI) kCl [(c0, .inr (4, [.ref c1])), (c1, .inl (cI, 6, .inl hs)), (h0, .inr (3, [.ref h1, .int (nI K)])), (h1, .inl (cI, 16, .inl f))] H → va_D A [(c0, .inr (4, [.ref c1])), (c1, .inl (cI, 6, .inl hs)), (h0, .inr (3, [.ref h1, .int (nI K)])), (h1, .inl (cI, 16, .inl f))] → va_S A s.heap H locs → lv_has ls 6 [(0, .ref c0), (1, .ref h0), (2, .int part), (3, .int low)] → W p l e (headSpec wsX4_fewestOf rm_X4_fewestOf).room s m (([.ref c0, .ref h0, .int part, .int low] : List Value).toArray) below meth c H locs 0 0 (MQ below (kVi dC dI (P_fewestOf K f hu part low).1 [(c0, .inr (4, [.ref c1])), (c1, .inl (cI, 6, .inl ((P_fewestOf K f hu part low).2))), (h0, .inr (3, [.ref h1, .int (nI K)])), (h1, .inl (cI, 16, .inl f))] A) (([.ref c0, .ref h0, .int part, .int low] : List Value).toArray) s 0 0 A) (F0 m 64 ls []) := by
    intro hs H locs ls hr hP hD hS hl
    refine lv_aload_n hx hb dX4_fewestOf_64 rfl (lv_at hl 0 rfl) ?_
    refine va_get (D := (dC, dI)) (ci := 4) (v := .ref c1) (C := RX4) (T := TX4) (N := 1) hx hb hts (by decide +kernel) hown hK hP 0 rfl rfl 0 (by decide) (hts (.fieldLink RX4 9 "Shortring$Paint" "hues" "[I") (by decide +kernel)) (fun _ h9 => h9) rfl dX4_fewestOf_65 ?_
    refine va_alen (v := 6) hx hb hK hP 1 0 rfl rfl rfl dX4_fewestOf_68 ?_
    have he := hr.trans hρ
    exact W.iret (v := 6) hx hb hr0 (fun t ht hW => kVi_end (by rw [← he]) (by rw [← he]; exact hP) hS ht) hS.2.2 dX4_fewestOf_69
  have lp_3 : ∀ (n_3 : Nat) (many : Int32) (hs : Nat → Int32) (H : Heap) (locs : List Loc) (ls : Array Slot), (((6 : Int32)).toInt - many.toInt).toNat = n_3 → L_fewestOf_3 K f part (fun hs => (6, hs)) n_3 many hs = ρ → va_P (dC, dI) kCl [(c0, .inr (4, [.ref c1])), (c1, .inl (cI, 6, .inl hs)), (h0, .inr (3, [.ref h1, .int (nI K)])), (h1, .inl (cI, 16, .inl f))] H → va_D A [(c0, .inr (4, [.ref c1])), (c1, .inl (cI, 6, .inl hs)), (h0, .inr (3, [.ref h1, .int (nI K)])), (h1, .inl (cI, 16, .inl f))] → va_S A s.heap H locs → lv_has ls 6 [(4, .int many), (0, .ref c0), (1, .ref h0), (2, .int part), (3, .int low)] → W p l e (headSpec wsX4_fewestOf rm_X4_fewestOf).room s m (([.ref c0, .ref h0, .int part, .int low] : List Value).toArray) below meth c H locs 0 0 (MQ below (kVi dC dI (P_fewestOf K f hu part low).1 [(c0, .inr (4, [.ref c1])), (c1, .inl (cI, 6, .inl ((P_fewestOf K f hu part low).2))), (h0, .inr (3, [.ref h1, .int (nI K)])), (h1, .inl (cI, 16, .inl f))] A) (([.ref c0, .ref h0, .int part, .int low] : List Value).toArray) s 0 0 A) (F0 m 3 ls []) := by
    intro n_3
    induction n_3 with
    | zero =>
      intro many hs H locs ls hi hr hP hD hS hl
      rewrite [L_fewestOf_3] at hr
      refine lv_iload hx hb dX4_fewestOf_3 (lv_at hl 0 rfl) ?_
      refine lv_aload_n hx hb dX4_fewestOf_5 rfl (lv_at hl 1 rfl) ?_
      refine va_get (D := (dC, dI)) (ci := 4) (v := .ref c1) (C := RX4) (T := TX4) (N := 1) hx hb hts (by decide +kernel) hown hK hP 0 rfl rfl 0 (by decide) (hts (.fieldLink RX4 9 "Shortring$Paint" "hues" "[I") (by decide +kernel)) (fun _ h9 => h9) rfl dX4_fewestOf_6 ?_
      refine va_alen (v := 6) hx hb hK hP 1 0 rfl rfl rfl dX4_fewestOf_9 ?_
      refine lv_icmp_ge (tgt := 64) hx hb dX4_fewestOf_10 (by decide) (fun c_1 => ?_) (fun c_1 => ?_)
      · exact ex_3 hs _ _ _ hr hP hD hS (lv_sub hl [1, 2, 3, 4] rfl)
      · exact absurd (kUp0 hi) c_1
    | succ n_3 ih_3 =>
      intro many hs H locs ls hi hr hP hD hS hl
      rewrite [L_fewestOf_3] at hr
      refine lv_iload hx hb dX4_fewestOf_3 (lv_at hl 0 rfl) ?_
      refine lv_aload_n hx hb dX4_fewestOf_5 rfl (lv_at hl 1 rfl) ?_
      refine va_get (D := (dC, dI)) (ci := 4) (v := .ref c1) (C := RX4) (T := TX4) (N := 1) hx hb hts (by decide +kernel) hown hK hP 0 rfl rfl 0 (by decide) (hts (.fieldLink RX4 9 "Shortring$Paint" "hues" "[I") (by decide +kernel)) (fun _ h9 => h9) rfl dX4_fewestOf_6 ?_
      refine va_alen (v := 6) hx hb hK hP 1 0 rfl rfl rfl dX4_fewestOf_9 ?_
      refine lv_icmp_ge (tgt := 64) hx hb dX4_fewestOf_10 (by decide) (fun c_2 => ?_) (fun c_2 => ?_)
      · exact absurd c_2 (kUpS hi)
      · refine lv_iconst (v := 0) hx hb dX4_fewestOf_13 (by decide) ?_
        refine lv_istore (lv' := [(5, .int 0), (4, .int many), (0, .ref c0), (1, .ref h0), (2, .int part), (3, .int low)]) hx hb dX4_fewestOf_14 hl (by decide) rfl (fun ls hl => ?_)
        have ex_16 : ∀ (hz : Nat → Int32) (H : Heap) (locs : List Loc) (ls : Array Slot), (bd (P_canPaint K f many 16 part hz) (fun r_3 => if r_3.1 = 0 then L_fewestOf_3 K f part (fun hs => (6, hs)) n_3 (many + 1) r_3.2 else (many, r_3.2))) = ρ → va_P (dC, dI) kCl [(c0, .inr (4, [.ref c1])), (c1, .inl (cI, 6, .inl hz)), (h0, .inr (3, [.ref h1, .int (nI K)])), (h1, .inl (cI, 16, .inl f))] H → va_D A [(c0, .inr (4, [.ref c1])), (c1, .inl (cI, 6, .inl hz)), (h0, .inr (3, [.ref h1, .int (nI K)])), (h1, .inl (cI, 16, .inl f))] → va_S A s.heap H locs → lv_has ls 6 [(0, .ref c0), (1, .ref h0), (2, .int part), (3, .int low), (4, .int many)] → W p l e (headSpec wsX4_fewestOf rm_X4_fewestOf).room s m (([.ref c0, .ref h0, .int part, .int low] : List Value).toArray) below meth c H locs 0 0 (MQ below (kVi dC dI (P_fewestOf K f hu part low).1 [(c0, .inr (4, [.ref c1])), (c1, .inl (cI, 6, .inl ((P_fewestOf K f hu part low).2))), (h0, .inr (3, [.ref h1, .int (nI K)])), (h1, .inl (cI, 16, .inl f))] A) (([.ref c0, .ref h0, .int part, .int low] : List Value).toArray) s 0 0 A) (F0 m 40 ls []) := by
          intro hz H locs ls hr hP hD hS hl
          refine lv_aload_n hx hb dX4_fewestOf_40 rfl (lv_at hl 1 rfl) ?_
          refine lv_aload_n hx hb dX4_fewestOf_41 rfl (lv_at hl 0 rfl) ?_
          refine va_get (D := (dC, dI)) (ci := 4) (v := .ref c1) (C := RX4) (T := TX4) (N := 1) hx hb hts (by decide +kernel) hown hK hP 0 rfl rfl 0 (by decide) (hts (.fieldLink RX4 9 "Shortring$Paint" "hues" "[I") (by decide +kernel)) (fun _ h9 => h9) rfl dX4_fewestOf_42 ?_
          refine lv_iload_n hx hb dX4_fewestOf_45 rfl (lv_at hl 2 rfl) ?_
          refine lv_iload hx hb dX4_fewestOf_46 (lv_at hl 4 rfl) ?_
          refine lv_iconst (v := 0) hx hb dX4_fewestOf_48 (by decide) ?_
          refine kCallVi (wr := [(c0, .inr (4, [.ref c1]))]) (va_runS (As := [.ref h0, .ref c1, .int part, .int many, .int 0]) (rest := []) ⟨hx, hb, hml, hown, hts⟩ (k_X4_canPaint l dC dI cI cN h0 h1 K f (by first | assumption | omega) c1 many 16 part hz 0 _ (by omega)) (va_cwS 5 hts gX4_fewestOf_X4_canPaint rfl rfl rfl (by decide +kernel) ⟨Nat.le_of_ble_eq_true rfl, Nat.le_of_ble_eq_true rfl⟩) (kU_S hP hK hD hN [2, 3, 1] rfl rfl rfl) rfl rfl hl.1 rfl (lv_room (Nat.le_of_ble_eq_true rfl)) dX4_fewestOf_49 ⟨Nat.zero_le _, Nat.zero_le _⟩) hP hD hS hA [2, 3, 1] [0] rfl rfl rfl rfl (by decide) rfl (fun H locs hP hD hS => ?_)
          obtain ⟨r_3, er_3⟩ : ∃ y : Int32 × (Nat → Int32), y = (P_canPaint K f many 16 part hz) := ⟨_, rfl⟩
          rw [← er_3]
          try rw [← er_3] at hP hD
          have hr := bd_to hr er_3
          have hP : va_P (dC, dI) kCl [(c0, .inr (4, [.ref c1])), (c1, .inl (cI, 6, .inl r_3.2)), (h0, .inr (3, [.ref h1, .int (nI K)])), (h1, .inl (cI, 16, .inl f))] H := hP.sub [0, 3, 1, 2] rfl
          have hD : va_D A [(c0, .inr (4, [.ref c1])), (c1, .inl (cI, 6, .inl r_3.2)), (h0, .inr (3, [.ref h1, .int (nI K)])), (h1, .inl (cI, 16, .inl f))] := hD.sub [0, 3, 1, 2] (by decide) rfl
          refine lv_if_eq (tgt := 58) hx hb dX4_fewestOf_52 (by decide) (fun c_4 => ?_) (fun c_4 => ?_)
          · have hr := if_to hr c_4
            refine lv_iinc (v := many + 1) (lv' := [(4, .int (many + 1)), (0, .ref c0), (1, .ref h0), (2, .int part), (3, .int low)]) hx hb dX4_fewestOf_58 hl (k := 4) rfl rfl (by decide) rfl (fun ls hl => ?_)
            refine lv_goto (tgt := 3) hx hb dX4_fewestOf_61 (by decide) ?_
            exact ih_3 (many + 1) r_3.2 _ _ _ (kUpN hi) hr hP hD hS (lv_sub hl [0, 1, 2, 3, 4] rfl)
          · have hr := if_no hr c_4
            refine lv_iload hx hb dX4_fewestOf_55 (lv_at hl 4 rfl) ?_
            have he := hr.trans hρ
            exact W.iret (v := many) hx hb hr0 (fun t ht hW => kVi_end (by rw [← he]) (by rw [← he]; exact hP) hS ht) hS.2.2 dX4_fewestOf_57
        have lp_16 : ∀ (n_16 hue : Nat) (hz : Nat → Int32) (H : Heap) (locs : List Loc) (ls : Array Slot), hue + n_16 = 6 → L_fewestOf_16 (fun hz => bd (P_canPaint K f many 16 part hz) (fun r_3 => if r_3.1 = 0 then L_fewestOf_3 K f part (fun hs => (6, hs)) n_3 (many + 1) r_3.2 else (many, r_3.2))) n_16 hue hz = ρ → va_P (dC, dI) kCl [(c0, .inr (4, [.ref c1])), (c1, .inl (cI, 6, .inl hz)), (h0, .inr (3, [.ref h1, .int (nI K)])), (h1, .inl (cI, 16, .inl f))] H → va_D A [(c0, .inr (4, [.ref c1])), (c1, .inl (cI, 6, .inl hz)), (h0, .inr (3, [.ref h1, .int (nI K)])), (h1, .inl (cI, 16, .inl f))] → va_S A s.heap H locs → lv_has ls 6 [(5, .int (nI hue)), (0, .ref c0), (1, .ref h0), (2, .int part), (3, .int low), (4, .int many)] → W p l e (headSpec wsX4_fewestOf rm_X4_fewestOf).room s m (([.ref c0, .ref h0, .int part, .int low] : List Value).toArray) below meth c H locs 0 0 (MQ below (kVi dC dI (P_fewestOf K f hu part low).1 [(c0, .inr (4, [.ref c1])), (c1, .inl (cI, 6, .inl ((P_fewestOf K f hu part low).2))), (h0, .inr (3, [.ref h1, .int (nI K)])), (h1, .inl (cI, 16, .inl f))] A) (([.ref c0, .ref h0, .int part, .int low] : List Value).toArray) s 0 0 A) (F0 m 16 ls []) := by
          intro n_16
          induction n_16 with
          | zero =>
            intro hue hz H locs ls hi hr hP hD hS hl
            rewrite [L_fewestOf_16] at hr
            refine lv_iload hx hb dX4_fewestOf_16 (lv_at hl 0 rfl) ?_
            refine lv_aload_n hx hb dX4_fewestOf_18 rfl (lv_at hl 1 rfl) ?_
            refine va_get (D := (dC, dI)) (ci := 4) (v := .ref c1) (C := RX4) (T := TX4) (N := 1) hx hb hts (by decide +kernel) hown hK hP 0 rfl rfl 0 (by decide) (hts (.fieldLink RX4 9 "Shortring$Paint" "hues" "[I") (by decide +kernel)) (fun _ h9 => h9) rfl dX4_fewestOf_19 ?_
            refine va_alen (v := 6) hx hb hK hP 1 0 rfl rfl rfl dX4_fewestOf_22 ?_
            refine lv_icmp_ge (tgt := 40) hx hb dX4_fewestOf_23 (by decide) (fun c_5 => ?_) (fun c_5 => ?_)
            · exact ex_16 hz _ _ _ hr hP hD hS (lv_sub hl [1, 2, 3, 4, 5] rfl)
            · exact absurd (kTop (i := hue) (N := 6) rfl (by omega)) c_5
          | succ n_16 ih_16 =>
            intro hue hz H locs ls hi hr hP hD hS hl
            rewrite [L_fewestOf_16] at hr
            refine lv_iload hx hb dX4_fewestOf_16 (lv_at hl 0 rfl) ?_
            refine lv_aload_n hx hb dX4_fewestOf_18 rfl (lv_at hl 1 rfl) ?_
            refine va_get (D := (dC, dI)) (ci := 4) (v := .ref c1) (C := RX4) (T := TX4) (N := 1) hx hb hts (by decide +kernel) hown hK hP 0 rfl rfl 0 (by decide) (hts (.fieldLink RX4 9 "Shortring$Paint" "hues" "[I") (by decide +kernel)) (fun _ h9 => h9) rfl dX4_fewestOf_19 ?_
            refine va_alen (v := 6) hx hb hK hP 1 0 rfl rfl rfl dX4_fewestOf_22 ?_
            refine lv_icmp_ge (tgt := 40) hx hb dX4_fewestOf_23 (by decide) (fun c_6 => ?_) (fun c_6 => ?_)
            · exact absurd c_6 (kLow (i := hue) (N := 6) rfl (by omega) (by omega))
            · refine lv_aload_n hx hb dX4_fewestOf_26 rfl (lv_at hl 1 rfl) ?_
              refine va_get (D := (dC, dI)) (ci := 4) (v := .ref c1) (C := RX4) (T := TX4) (N := 1) hx hb hts (by decide +kernel) hown hK hP 0 rfl rfl 0 (by decide) (hts (.fieldLink RX4 9 "Shortring$Paint" "hues" "[I") (by decide +kernel)) (fun _ h9 => h9) rfl dX4_fewestOf_27 ?_
              refine lv_iload hx hb dX4_fewestOf_30 (lv_at hl 0 rfl) ?_
              refine lv_iconst (v := 0) hx hb dX4_fewestOf_32 (by decide) ?_
              refine va_iast hx hb hK hP hD hS 1 0 rfl rfl (vp_in_nI (by omega) (by omega)) dX4_fewestOf_33 (fun H locs hP hD hS => ?_)
              rw [show (nI hue).toNatClampNeg = hue from nI_clamp (by omega)] at hP hD
              have hP : va_P (dC, dI) kCl [(c0, .inr (4, [.ref c1])), (c1, .inl (cI, 6, .inl (upd hz hue (0 : Int32)))), (h0, .inr (3, [.ref h1, .int (nI K)])), (h1, .inl (cI, 16, .inl f))] H := hP
              have hD : va_D A [(c0, .inr (4, [.ref c1])), (c1, .inl (cI, 6, .inl (upd hz hue (0 : Int32)))), (h0, .inr (3, [.ref h1, .int (nI K)])), (h1, .inl (cI, 16, .inl f))] := hD
              refine lv_iinc (v := nI (hue + 1)) (lv' := [(5, .int (nI (hue + 1))), (0, .ref c0), (1, .ref h0), (2, .int part), (3, .int low), (4, .int many)]) hx hb dX4_fewestOf_34 hl (k := 0) rfl (nI_1 _) (by decide) rfl (fun ls hl => ?_)
              refine lv_goto (tgt := 16) hx hb dX4_fewestOf_37 (by decide) ?_
              exact ih_16 (hue + 1) (upd hz hue (0 : Int32)) _ _ _ (by omega) hr hP hD hS (lv_sub hl [0, 1, 2, 3, 4, 5] rfl)
        exact lp_16 6 0 hs _ _ _ (by omega) hr hP hD hS (lv_sub hl [0, 2, 3, 4, 5, 1] rfl)
  exact lp_3 ((((6 : Int32)).toInt - (low).toInt).toNat) low hu _ _ _ rfl hr hP hD hS (lv_sub hl [0, 1, 2, 3, 4] rfl)
def L_fewest_7 (K : Nat) (f : Nat → Int32) (k : Int32 → Int32 → (Nat → Int32) → Int32 × (Nat → Int32)) : Nat → Nat → Int32 → Int32 → (Nat → Int32) → Int32 × (Nat → Int32)
  | 0, knot, many, seen, hs => k many seen hs
  | n + 1, knot, many, seen, hs =>
    if (P_holds seen (nI knot)) = 0 then
      bd (P_partWith f (nI knot)) (fun part_1 =>
        bd (P_fewestOf K f hs part_1 (if many < (1 : Int32) then (1 : Int32) else many)) (fun r_2 =>
          bd (r_2.1) (fun x2_3 =>
            bd (seen ||| part_1) (fun seen_4 =>
              L_fewest_7 K f k n (knot + 1) x2_3 seen_4 r_2.2))))
    else
      L_fewest_7 K f k n (knot + 1) many seen hs
def P_fewest (K : Nat) (f : Nat → Int32) (hu : Nat → Int32) : Int32 × (Nat → Int32) :=
  L_fewest_7 K f (fun many seen hs => (many, hs)) K 0 0 0 hu
abbrev rm_X4_fewest : Room := { frames := 20, cells := 0, slots := 0, locals := 532 }
set_option maxHeartbeats 4000000 in
set_option maxRecDepth 100000 in
theorem k_X4_fewest (l : Launch) (dC : Nat → ClassId) (dI : Nat → Nat → Nat) (cI cN : ClassId) (c0 : Nat) (c1 : Nat) (hu : Nat → Int32) (h0 : Nat) (h1 : Nat) (K : Nat) (f : Nat → Int32) (hK : K ≤ 16) (sz : Nat) : Met l yX4_fewest wsX4_fewest rm_X4_fewest (va_Pc [.ref c0, .ref h0] (kU dC dI cI cN [(c0, .inr (4, [.ref c1])), (c1, .inl (cI, 6, .inl hu)), (h0, .inr (3, [.ref h1, .int (nI K)])), (h1, .inl (cI, 16, .inl f))] sz)) (kVi dC dI (P_fewest K f hu).1 [(c0, .inr (4, [.ref c1])), (c1, .inl (cI, 6, .inl ((P_fewest K f hu).2))), (h0, .inr (3, [.ref h1, .int (nI K)])), (h1, .inl (cI, 16, .inl f))] (va_A [(c0, .inr (4, [.ref c1])), (c1, .inl (cI, 6, .inl hu)), (h0, .inr (3, [.ref h1, .int (nI K)])), (h1, .inl (cI, 16, .inl f))] sz)) 0 0 (va_A [(c0, .inr (4, [.ref c1])), (c1, .inl (cI, 6, .inl hu)), (h0, .inr (3, [.ref h1, .int (nI K)])), (h1, .inl (cI, 16, .inl f))] sz) := by
  refine Met.ofW (cc := cX4_fewest) (maxL := 6) (ret := (some .int)) (by decide) rfl ?_
  intro p e s m args below meth c s₁ B hml hv
  obtain ⟨rfl, hsz, hP, hK, hD0, hN⟩ := hv
  have hx := B.exec
  have hb := B.bytes
  have hr0 := B.returns
  have hts := atoms_spec (ws := wsX4_fewest) B.pre
  have hown : s.vm.findClass RX4 = some m.cls := findClass_of_methodNamed B.named
  have hlocks := B.notSynchronized
  subst hsz
  have hD := hD0.self (sz := s.heap.size)
  generalize hAe : va_A [(c0, .inr (4, [.ref c1])), (c1, .inl (cI, 6, .inl hu)), (h0, .inr (3, [.ref h1, .int (nI K)])), (h1, .inl (cI, 16, .inl f))] s.heap.size = A at hD ⊢
  have hA : ∀ q : Nat, s.heap.size ≤ q → A q := fun q h => by rw [← hAe]; exact Or.inr h
  have hS : va_S A s.heap s.heap [] := va_S.rf
  have hl := lv_entry ([.ref c0, .ref h0]) (n := 6) (Nat.le_of_ble_eq_true rfl)
  rw [lg_entry_eq]
  generalize (lg_sl ([.ref c0, .ref h0]) ++ List.replicate (6 - (lg_sl ([.ref c0, .ref h0])).length) Slot.unset).toArray = ls at hl ⊢
  have hl : lv_has ls 6 [(0, .ref c0), (1, .ref h0)] := hl
  obtain ⟨ρ, hρ⟩ : ∃ ρ : Int32 × (Nat → Int32), ρ = P_fewest K f hu := ⟨_, rfl⟩
  have hr : P_fewest K f hu = ρ := hρ.symm
  rewrite [P_fewest] at hr
  refine lv_iconst (v := 0) hx hb dX4_fewest_0 (by decide) ?_
  refine lv_istore_n (lv' := [(2, .int 0), (0, .ref c0), (1, .ref h0)]) hx hb dX4_fewest_1 rfl hl (by decide) rfl (fun ls hl => ?_)
  refine lv_iconst (v := 0) hx hb dX4_fewest_2 (by decide) ?_
  refine lv_istore_n (lv' := [(3, .int 0), (2, .int 0), (0, .ref c0), (1, .ref h0)]) hx hb dX4_fewest_3 rfl hl (by decide) rfl (fun ls hl => ?_)
  refine lv_iconst (v := 0) hx hb dX4_fewest_4 (by decide) ?_
  refine lv_istore (lv' := [(4, .int 0), (3, .int 0), (2, .int 0), (0, .ref c0), (1, .ref h0)]) hx hb dX4_fewest_5 hl (by decide) rfl (fun ls hl => ?_)
  have ex_7 : ∀ (many : Int32) (seen : Int32) (hs : Nat → Int32) (H : Heap) (locs : List Loc) (ls : Array Slot), ((many, hs)) = ρ → va_P (dC, dI) kCl [(c0, .inr (4, [.ref c1])), (c1, .inl (cI, 6, .inl hs)), (h0, .inr (3, [.ref h1, .int (nI K)])), (h1, .inl (cI, 16, .inl f))] H → va_D A [(c0, .inr (4, [.ref c1])), (c1, .inl (cI, 6, .inl hs)), (h0, .inr (3, [.ref h1, .int (nI K)])), (h1, .inl (cI, 16, .inl f))] → va_S A s.heap H locs → lv_has ls 6 [(2, .int many), (3, .int seen), (0, .ref c0), (1, .ref h0)] → W p l e (headSpec wsX4_fewest rm_X4_fewest).room s m (([.ref c0, .ref h0] : List Value).toArray) below meth c H locs 0 0 (MQ below (kVi dC dI (P_fewest K f hu).1 [(c0, .inr (4, [.ref c1])), (c1, .inl (cI, 6, .inl ((P_fewest K f hu).2))), (h0, .inr (3, [.ref h1, .int (nI K)])), (h1, .inl (cI, 16, .inl f))] A) (([.ref c0, .ref h0] : List Value).toArray) s 0 0 A) (F0 m 57 ls []) := by
    intro many seen hs H locs ls hr hP hD hS hl
    refine lv_iload_n hx hb dX4_fewest_57 rfl (lv_at hl 0 rfl) ?_
    have he := hr.trans hρ
    exact W.iret (v := many) hx hb hr0 (fun t ht hW => kVi_end (by rw [← he]) (by rw [← he]; exact hP) hS ht) hS.2.2 dX4_fewest_58
  have lp_7 : ∀ (n_7 knot : Nat) (many : Int32) (seen : Int32) (hs : Nat → Int32) (H : Heap) (locs : List Loc) (ls : Array Slot), knot + n_7 = K → L_fewest_7 K f (fun many seen hs => (many, hs)) n_7 knot many seen hs = ρ → va_P (dC, dI) kCl [(c0, .inr (4, [.ref c1])), (c1, .inl (cI, 6, .inl hs)), (h0, .inr (3, [.ref h1, .int (nI K)])), (h1, .inl (cI, 16, .inl f))] H → va_D A [(c0, .inr (4, [.ref c1])), (c1, .inl (cI, 6, .inl hs)), (h0, .inr (3, [.ref h1, .int (nI K)])), (h1, .inl (cI, 16, .inl f))] → va_S A s.heap H locs → lv_has ls 6 [(4, .int (nI knot)), (2, .int many), (3, .int seen), (0, .ref c0), (1, .ref h0)] → W p l e (headSpec wsX4_fewest rm_X4_fewest).room s m (([.ref c0, .ref h0] : List Value).toArray) below meth c H locs 0 0 (MQ below (kVi dC dI (P_fewest K f hu).1 [(c0, .inr (4, [.ref c1])), (c1, .inl (cI, 6, .inl ((P_fewest K f hu).2))), (h0, .inr (3, [.ref h1, .int (nI K)])), (h1, .inl (cI, 16, .inl f))] A) (([.ref c0, .ref h0] : List Value).toArray) s 0 0 A) (F0 m 7 ls []) := by
    intro n_7
    induction n_7 with
    | zero =>
      intro knot many seen hs H locs ls hi hr hP hD hS hl
      rewrite [L_fewest_7] at hr
      refine lv_iload hx hb dX4_fewest_7 (lv_at hl 0 rfl) ?_
      refine lv_aload_n hx hb dX4_fewest_9 rfl (lv_at hl 4 rfl) ?_
      refine va_getN (D := (dC, dI)) (ci := 3) (v := .int (nI K)) (C := RX3) (T := TX3) (N := 2) hx hb hts (by decide +kernel) hown hK hP 2 rfl rfl 1 (by decide) (va_Nw.use rfl (hN.2 11 _ rfl)) (fun _ h9 => h9) rfl dX4_fewest_10 ?_
      refine lv_icmp_ge (tgt := 57) hx hb dX4_fewest_13 (by decide) (fun c_1 => ?_) (fun c_1 => ?_)
      · exact ex_7 many seen hs _ _ _ hr hP hD hS (lv_sub hl [1, 2, 3, 4] rfl)
      · exact absurd (kTop (i := knot) (N := K) rfl (by omega)) c_1
    | succ n_7 ih_7 =>
      intro knot many seen hs H locs ls hi hr hP hD hS hl
      rewrite [L_fewest_7] at hr
      refine lv_iload hx hb dX4_fewest_7 (lv_at hl 0 rfl) ?_
      refine lv_aload_n hx hb dX4_fewest_9 rfl (lv_at hl 4 rfl) ?_
      refine va_getN (D := (dC, dI)) (ci := 3) (v := .int (nI K)) (C := RX3) (T := TX3) (N := 2) hx hb hts (by decide +kernel) hown hK hP 2 rfl rfl 1 (by decide) (va_Nw.use rfl (hN.2 11 _ rfl)) (fun _ h9 => h9) rfl dX4_fewest_10 ?_
      refine lv_icmp_ge (tgt := 57) hx hb dX4_fewest_13 (by decide) (fun c_2 => ?_) (fun c_2 => ?_)
      · exact absurd c_2 (kLow (i := knot) (N := K) rfl (by omega) (by omega))
      · refine lv_iload_n hx hb dX4_fewest_16 rfl (lv_at hl 2 rfl) ?_
        refine lv_iload hx hb dX4_fewest_17 (lv_at hl 0 rfl) ?_
        refine kCall (va_runSN (As := [.int seen, .int (nI knot)]) (rest := []) ⟨hx, hb, hml, hown, hts⟩ (k_X6_holds l dC dI cI cN seen (nI knot)) ⟨va_cnB 2 hts gX4_fewest_X6_holds_n21 rfl rfl rfl (hN.1 65 _ rfl) (hts (.initialized RX6) (by decide +kernel)) (by decide +kernel) ⟨Nat.le_of_ble_eq_true rfl, Nat.le_of_ble_eq_true rfl⟩, hts (.static yX6_holds) (by decide +kernel), trivial⟩ (kW_S hP hK hD hN [] rfl rfl rfl) rfl rfl hl.1 rfl (lv_room (Nat.le_of_ble_eq_true rfl)) dX4_fewest_19 ⟨Nat.zero_le _, Nat.zero_le _⟩) hP hS (fun H locs hP hS => ?_)
        refine lv_if_ne (tgt := 51) hx hb dX4_fewest_22 (by decide) (fun c_3 => ?_) (fun c_3 => ?_)
        · have hr := if_no hr c_3
          refine lv_iinc (v := nI (knot + 1)) (lv' := [(4, .int (nI (knot + 1))), (2, .int many), (3, .int seen), (0, .ref c0), (1, .ref h0)]) hx hb dX4_fewest_51 hl (k := 0) rfl (nI_1 _) (by decide) rfl (fun ls hl => ?_)
          refine lv_goto (tgt := 7) hx hb dX4_fewest_54 (by decide) ?_
          exact ih_7 (knot + 1) many seen hs _ _ _ (by omega) hr hP hD hS (lv_sub hl [0, 1, 2, 3, 4] rfl)
        · have hr := if_to hr c_3
          refine lv_aload_n hx hb dX4_fewest_25 rfl (lv_at hl 4 rfl) ?_
          refine lv_iload hx hb dX4_fewest_26 (lv_at hl 0 rfl) ?_
          refine kCall (va_runSN (As := [.ref h0, .int (nI knot)]) (rest := []) ⟨hx, hb, hml, hown, hts⟩ (k_X5_partWith l dC dI cI cN h0 h1 K f (nI knot) (by first | assumption | omega | exact Int32.le_refl _ | decide)) ⟨va_cnB 2 hts gX4_fewest_X5_partWith_n25 rfl rfl rfl (hN.1 66 _ rfl) (hts (.initialized RX5) (by decide +kernel)) (by decide +kernel) ⟨Nat.le_of_ble_eq_true rfl, Nat.le_of_ble_eq_true rfl⟩, hts (.static yX5_partWith) (by decide +kernel), trivial⟩ (kW_S hP hK hD hN [2, 3] rfl rfl rfl) rfl rfl hl.1 rfl (lv_room (Nat.le_of_ble_eq_true rfl)) dX4_fewest_28 ⟨Nat.zero_le _, Nat.zero_le _⟩) hP hS (fun H locs hP hS => ?_)
          refine lv_topi (fun part_4 epart_4 => ?_)
          have hr := bd_to hr epart_4
          refine lv_istore (lv' := [(5, .int part_4), (4, .int (nI knot)), (2, .int many), (3, .int seen), (0, .ref c0), (1, .ref h0)]) hx hb dX4_fewest_31 hl (by decide) rfl (fun ls hl => ?_)
          refine lv_aload_n hx hb dX4_fewest_33 rfl (lv_at hl 4 rfl) ?_
          refine lv_aload_n hx hb dX4_fewest_34 rfl (lv_at hl 5 rfl) ?_
          refine lv_iload hx hb dX4_fewest_35 (lv_at hl 0 rfl) ?_
          refine lv_iload_n hx hb dX4_fewest_37 rfl (lv_at hl 2 rfl) ?_
          refine lv_iconst (v := 1) hx hb dX4_fewest_38 (by decide) ?_
          refine va_mmax hx hb (hml.trans hl.1.symm) hown (hts (.methodLink RX4 31 Lib.Math.max.name) (by decide +kernel)) (hts (.static Lib.Math.max.name) (by decide +kernel)) (hts (.initialized "java/lang/Math") (by decide +kernel)) (hts (.code Lib.Math.max.name Lib.Math.max.code 2 (some .int)) (by decide +kernel)) (Nat.le_of_ble_eq_true rfl) (Nat.le_of_ble_eq_true rfl) (Nat.zero_le _) (Nat.zero_le _) dX4_fewest_39 ?_
          refine kCallVi (wr := []) (va_runV (As := [.ref h0, .int part_4, .int (if many < (1 : Int32) then (1 : Int32) else many)]) (rest := []) ⟨hx, hb, hml, hown, hts⟩ (k_X4_fewestOf l dC dI cI cN c0 c1 hs h0 h1 K f part_4 (if many < (1 : Int32) then (1 : Int32) else many) (by first | assumption | omega | exact Int32.le_refl _ | decide) _) (cwV 3 hts gX4_fewest_X4_fewestOf rfl rfl rfl (by decide +kernel) ⟨Nat.le_of_ble_eq_true rfl, Nat.le_of_ble_eq_true rfl⟩) (kU_V hP hK hD hN (ci := 4) (q0 := 0) rfl rfl [0, 1, 2, 3] rfl rfl rfl) rfl rfl hl.1 rfl (lv_room (Nat.le_of_ble_eq_true rfl)) dX4_fewest_42 ⟨Nat.zero_le _, Nat.zero_le _⟩) hP hD hS hA [0, 1, 2, 3] [] rfl rfl rfl rfl (by decide) rfl (fun H locs hP hD hS => ?_)
          obtain ⟨r_5, er_5⟩ : ∃ y : Int32 × (Nat → Int32), y = (P_fewestOf K f hs part_4 (if many < (1 : Int32) then (1 : Int32) else many)) := ⟨_, rfl⟩
          rw [← er_5]
          try rw [← er_5] at hP hD
          have hr := bd_to hr er_5
          have hP : va_P (dC, dI) kCl [(c0, .inr (4, [.ref c1])), (c1, .inl (cI, 6, .inl r_5.2)), (h0, .inr (3, [.ref h1, .int (nI K)])), (h1, .inl (cI, 16, .inl f))] H := hP.sub [0, 1, 2, 3] rfl
          have hD : va_D A [(c0, .inr (4, [.ref c1])), (c1, .inl (cI, 6, .inl r_5.2)), (h0, .inr (3, [.ref h1, .int (nI K)])), (h1, .inl (cI, 16, .inl f))] := hD.sub [0, 1, 2, 3] (by decide) rfl
          refine lv_topi (fun x2_6 ex2_6 => ?_)
          have hr := bd_to hr ex2_6
          refine lv_istore_n (lv' := [(2, .int x2_6), (5, .int part_4), (4, .int (nI knot)), (3, .int seen), (0, .ref c0), (1, .ref h0)]) hx hb dX4_fewest_45 rfl hl (by decide) rfl (fun ls hl => ?_)
          refine lv_iload_n hx hb dX4_fewest_46 rfl (lv_at hl 3 rfl) ?_
          refine lv_iload hx hb dX4_fewest_47 (lv_at hl 1 rfl) ?_
          refine lv_ior hx hb dX4_fewest_49 ?_
          refine lv_topi (fun seen_7 eseen_7 => ?_)
          have hr := bd_to hr eseen_7
          refine lv_istore_n (lv' := [(3, .int seen_7), (2, .int x2_6), (5, .int part_4), (4, .int (nI knot)), (0, .ref c0), (1, .ref h0)]) hx hb dX4_fewest_50 rfl hl (by decide) rfl (fun ls hl => ?_)
          refine lv_iinc (v := nI (knot + 1)) (lv' := [(4, .int (nI (knot + 1))), (3, .int seen_7), (2, .int x2_6), (5, .int part_4), (0, .ref c0), (1, .ref h0)]) hx hb dX4_fewest_51 hl (k := 3) rfl (nI_1 _) (by decide) rfl (fun ls hl => ?_)
          refine lv_goto (tgt := 7) hx hb dX4_fewest_54 (by decide) ?_
          exact ih_7 (knot + 1) x2_6 seen_7 r_5.2 _ _ _ (by omega) hr hP hD hS (lv_sub hl [0, 2, 1, 4, 5] rfl)
  exact lp_7 K 0 0 0 hu _ _ _ (by omega) hr hP hD hS (lv_sub hl [0, 2, 1, 3, 4] rfl)
