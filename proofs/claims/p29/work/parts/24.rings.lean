/-! the object: rings counted (printed by wip/gen) -/
def L_walk_74 (K : Nat) (start : Nat) (closed : Int32) (cc : Nat) (rc : Int32 → Int32 → Nat → (Nat → Int32) → (Nat → Int32)) (k : Int32 → (Nat → Int32) → Nat → Int32) : Nat → Nat → Int32 → (Nat → Int32) → Nat → Int32
  | 0, next, open_, tb => k open_ tb
  | n + 1, next, open_, tb =>
    if (P_holds open_ (nI next)) = 0 then
      L_walk_74 K start closed cc (rc) k n (next + 1) open_ tb
    else
      bd (rc (nI next) (closed ||| (P_bit (nI next))) (cc + 1) tb) (fun r_1 =>
        L_walk_74 K start closed cc (rc) k n (next + 1) open_ r_1)
def P_walk (K : Nat) (f : Nat → Int32) (start : Nat) (most : Int32) : Nat → Int32 → Int32 → Nat → (Nat → Int32) → Nat → Int32
  | 0, knot, closed, cc, ta =>
    if (nI cc) < (1 : Int32) then
      ta
    else
      if most ≤ (nI cc) then
        ta
      else
        ta
  | n + 1, knot, closed, cc, ta =>
    if (nI cc) < (1 : Int32) then
      ta
    else
      if most ≤ (nI cc) then
        ta
      else
        if most < (8 : Int32) then
          bd ((P_nearOf f knot) &&& (closed ^^^ (-1 : Int32))) (fun open__7 =>
            if (nI cc) < (2 : Int32) then
              if (nI (cc + 1)) < most then
                L_walk_74 K start closed cc ((P_walk K f start most n)) (fun open_ tb => tb) (K - (start + 1)) (start + 1) open__7 ta
              else
                ta
            else
              if (nI (cc + 1)) < most then
                L_walk_74 K start closed cc ((P_walk K f start most n)) (fun open_ tb => tb) (K - (start + 1)) (start + 1) open__7 (upd ta (cc + 1) ((ta (cc + 1)) + (P_bitCount (open__7 &&& (P_nearOf f (nI start))))))
              else
                upd ta (cc + 1) ((ta (cc + 1)) + (P_bitCount (open__7 &&& (P_nearOf f (nI start))))))
        else
          ta
abbrev rm_X6_walk (n : Nat) : Room := { frames := 1 + n, cells := 0, slots := 0, locals := 21 + 28 * n }
set_option maxHeartbeats 8000000 in
set_option maxRecDepth 100000 in
theorem k_X6_walk (l : Launch) (dC : Nat → ClassId) (dI : Nat → Nat → Nat) (cI cN : ClassId) (h0 h1 : Nat) (K : Nat) (f : Nat → Int32) (hK : K ≤ 16) (ta0 : Nat) (start : Nat) (hst : start < K) (most : Int32) : ∀ (n : Nat) (knot : Int32) (closed : Int32) (cc : Nat) (ta : Nat → Int32) (sz : Nat), cc + n = 8 → Met l yX6_walk wsX6_walk (rm_X6_walk n) (va_Pc [.ref h0, .ref ta0, .int (nI start), .int knot, .int closed, .int (nI cc), .int most] (kU dC dI cI cN [(h0, .inr (3, [.ref h1, .int (nI K)])), (h1, .inl (cI, 16, .inl f)), (ta0, .inl (cI, 8, .inl ta))] sz)) (kV dC dI [(h0, .inr (3, [.ref h1, .int (nI K)])), (h1, .inl (cI, 16, .inl f)), (ta0, .inl (cI, 8, .inl ((P_walk K f start most n knot closed cc ta))))] (va_A [(h0, .inr (3, [.ref h1, .int (nI K)])), (h1, .inl (cI, 16, .inl f)), (ta0, .inl (cI, 8, .inl ta))] sz)) 0 0 (va_A [(h0, .inr (3, [.ref h1, .int (nI K)])), (h1, .inl (cI, 16, .inl f)), (ta0, .inl (cI, 8, .inl ta))] sz) := by
  intro n
  induction n with
  | zero =>
    intro knot closed cc ta  sz hdp
    refine Met.ofW (cc := cX6_walk) (maxL := 9) (ret := none) (by decide) rfl ?_
    intro p e s m args below meth c s₁ B hml hv
    obtain ⟨rfl, hsz, hP, hK, hD0, hN⟩ := hv
    have hx := B.exec
    have hb := B.bytes
    have hr0 := B.returns
    have hts := atoms_spec (ws := wsX6_walk) B.pre
    have hown : s.vm.findClass RX6 = some m.cls := findClass_of_methodNamed B.named
    have hlocks := B.notSynchronized
    subst hsz
    have hD := hD0.self (sz := s.heap.size)
    generalize hAe : va_A [(h0, .inr (3, [.ref h1, .int (nI K)])), (h1, .inl (cI, 16, .inl f)), (ta0, .inl (cI, 8, .inl ta))] s.heap.size = A at hD ⊢
    have hA : ∀ q : Nat, s.heap.size ≤ q → A q := fun q h => by rw [← hAe]; exact Or.inr h
    have hS : va_S A s.heap s.heap [] := va_S.rf
    have hl := lv_entry ([.ref h0, .ref ta0, .int (nI start), .int knot, .int closed, .int (nI cc), .int most]) (n := 9) (Nat.le_of_ble_eq_true rfl)
    rw [lg_entry_eq]
    generalize (lg_sl ([.ref h0, .ref ta0, .int (nI start), .int knot, .int closed, .int (nI cc), .int most]) ++ List.replicate (9 - (lg_sl ([.ref h0, .ref ta0, .int (nI start), .int knot, .int closed, .int (nI cc), .int most])).length) Slot.unset).toArray = ls at hl ⊢
    have hl : lv_has ls 9 [(0, .ref h0), (1, .ref ta0), (2, .int (nI start)), (3, .int knot), (4, .int closed), (5, .int (nI cc)), (6, .int most)] := hl
    obtain ⟨ρ, hρ⟩ : ∃ ρ : Nat → Int32, ρ = P_walk K f start most 0 knot closed cc ta := ⟨_, rfl⟩
    have hr : P_walk K f start most 0 knot closed cc ta = ρ := hρ.symm
    rewrite [P_walk] at hr
    refine lv_iload hx hb dX6_walk_0 (lv_at hl 5 rfl) ?_
    refine lv_iconst (v := 1) hx hb dX6_walk_2 (by decide) ?_
    refine lv_icmp_lt (tgt := 20) hx hb dX6_walk_3 (by decide) (fun c_1 => ?_) (fun c_1 => ?_)
    · have hr := if_to hr c_1
      have he := hr.trans hρ
      exact W.vret hx hb hr0 (fun t ht hW => kV_end (by rw [← he]; exact hP) hS ht) hS.2.2 dX6_walk_20
    · have hr := if_no hr c_1
      refine lv_iload hx hb dX6_walk_6 (lv_at hl 5 rfl) ?_
      refine lv_iload hx hb dX6_walk_8 (lv_at hl 6 rfl) ?_
      refine lv_icmp_ge (tgt := 20) hx hb dX6_walk_10 (by decide) (fun c_2 => ?_) (fun c_2 => ?_)
      · have hr := if_to hr c_2
        have he := hr.trans hρ
        exact W.vret hx hb hr0 (fun t ht hW => kV_end (by rw [← he]; exact hP) hS ht) hS.2.2 dX6_walk_20
      · have hr := if_no hr c_2
        refine lv_iload hx hb dX6_walk_13 (lv_at hl 6 rfl) ?_
        refine lv_aload_n hx hb dX6_walk_15 rfl (lv_at hl 1 rfl) ?_
        refine va_alen (v := 8) hx hb hK hP 2 0 rfl rfl rfl dX6_walk_16 ?_
        refine lv_icmp_lt (tgt := 21) hx hb dX6_walk_17 (by decide) (fun c_3 => ?_) (fun c_3 => ?_)
        · exact absurd c_3 (kWalk0 (by assumption) (by omega))
        · have he := hr.trans hρ
          exact W.vret hx hb hr0 (fun t ht hW => kV_end (by rw [← he]; exact hP) hS ht) hS.2.2 dX6_walk_20
  | succ n ih_rec =>
    intro knot closed cc ta  sz hdp
    refine Met.ofW (cc := cX6_walk) (maxL := 9) (ret := none) (by decide) rfl ?_
    intro p e s m args below meth c s₁ B hml hv
    obtain ⟨rfl, hsz, hP, hK, hD0, hN⟩ := hv
    have hx := B.exec
    have hb := B.bytes
    have hr0 := B.returns
    have hts := atoms_spec (ws := wsX6_walk) B.pre
    have hown : s.vm.findClass RX6 = some m.cls := findClass_of_methodNamed B.named
    have hlocks := B.notSynchronized
    subst hsz
    have hD := hD0.self (sz := s.heap.size)
    generalize hAe : va_A [(h0, .inr (3, [.ref h1, .int (nI K)])), (h1, .inl (cI, 16, .inl f)), (ta0, .inl (cI, 8, .inl ta))] s.heap.size = A at hD ⊢
    have hA : ∀ q : Nat, s.heap.size ≤ q → A q := fun q h => by rw [← hAe]; exact Or.inr h
    have hS : va_S A s.heap s.heap [] := va_S.rf
    have hl := lv_entry ([.ref h0, .ref ta0, .int (nI start), .int knot, .int closed, .int (nI cc), .int most]) (n := 9) (Nat.le_of_ble_eq_true rfl)
    rw [lg_entry_eq]
    generalize (lg_sl ([.ref h0, .ref ta0, .int (nI start), .int knot, .int closed, .int (nI cc), .int most]) ++ List.replicate (9 - (lg_sl ([.ref h0, .ref ta0, .int (nI start), .int knot, .int closed, .int (nI cc), .int most])).length) Slot.unset).toArray = ls at hl ⊢
    have hl : lv_has ls 9 [(0, .ref h0), (1, .ref ta0), (2, .int (nI start)), (3, .int knot), (4, .int closed), (5, .int (nI cc)), (6, .int most)] := hl
    obtain ⟨ρ, hρ⟩ : ∃ ρ : Nat → Int32, ρ = P_walk K f start most (n + 1) knot closed cc ta := ⟨_, rfl⟩
    have hr : P_walk K f start most (n + 1) knot closed cc ta = ρ := hρ.symm
    rewrite [P_walk] at hr
    refine lv_iload hx hb dX6_walk_0 (lv_at hl 5 rfl) ?_
    refine lv_iconst (v := 1) hx hb dX6_walk_2 (by decide) ?_
    refine lv_icmp_lt (tgt := 20) hx hb dX6_walk_3 (by decide) (fun c_4 => ?_) (fun c_4 => ?_)
    · have hr := if_to hr c_4
      have he := hr.trans hρ
      exact W.vret hx hb hr0 (fun t ht hW => kV_end (by rw [← he]; exact hP) hS ht) hS.2.2 dX6_walk_20
    · have hr := if_no hr c_4
      refine lv_iload hx hb dX6_walk_6 (lv_at hl 5 rfl) ?_
      refine lv_iload hx hb dX6_walk_8 (lv_at hl 6 rfl) ?_
      refine lv_icmp_ge (tgt := 20) hx hb dX6_walk_10 (by decide) (fun c_5 => ?_) (fun c_5 => ?_)
      · have hr := if_to hr c_5
        have he := hr.trans hρ
        exact W.vret hx hb hr0 (fun t ht hW => kV_end (by rw [← he]; exact hP) hS ht) hS.2.2 dX6_walk_20
      · have hr := if_no hr c_5
        refine lv_iload hx hb dX6_walk_13 (lv_at hl 6 rfl) ?_
        refine lv_aload_n hx hb dX6_walk_15 rfl (lv_at hl 1 rfl) ?_
        refine va_alen (v := 8) hx hb hK hP 2 0 rfl rfl rfl dX6_walk_16 ?_
        refine lv_icmp_lt (tgt := 21) hx hb dX6_walk_17 (by decide) (fun c_6 => ?_) (fun c_6 => ?_)
        · have hr := if_to hr c_6
          refine lv_aload_n hx hb dX6_walk_21 rfl (lv_at hl 0 rfl) ?_
          refine lv_iload_n hx hb dX6_walk_22 rfl (lv_at hl 3 rfl) ?_
          refine kCall (va_runVN (As := [.int knot]) (rest := []) ⟨hx, hb, hml, hown, hts⟩ (k_X3_nearOf l dC dI cI cN h0 h1 K f knot (by first | assumption | omega | exact Int32.le_refl _ | decide)) ⟨va_cnB 1 hts gX6_walk_X3_nearOf_n255 rfl rfl rfl (hN.1 29 _ rfl) (hts (.initialized RX3) (by decide +kernel)) (by decide +kernel) ⟨by show 0 + 1 ≤ 1 + (n + 1); omega, by show 8 + (2 + 11) + 0 ≤ 21 + 28 * (n + 1); omega⟩, hts (.instanceMethod yX3_nearOf) (by decide +kernel), hts (.selects RX3 yX3_nearOf yX3_nearOf) (by decide +kernel)⟩ (kW_V hP hK hD hN (ci := 3) (q0 := 0) rfl rfl [0, 1] rfl rfl rfl) rfl rfl hl.1 rfl (lv_room (Nat.le_of_ble_eq_true rfl)) dX6_walk_23 ⟨Nat.zero_le _, Nat.zero_le _⟩) hP hS (fun H locs hP hS => ?_)
          refine lv_iload hx hb dX6_walk_26 (lv_at hl 4 rfl) ?_
          refine lv_iconst (v := (-1)) hx hb dX6_walk_28 (by decide) ?_
          refine lv_ixor hx hb dX6_walk_29 ?_
          refine lv_iand hx hb dX6_walk_30 ?_
          refine lv_topi (fun open__7 eopen__7 => ?_)
          have hr := bd_to hr eopen__7
          refine lv_istore (lv' := [(7, .int open__7), (0, .ref h0), (1, .ref ta0), (2, .int (nI start)), (3, .int knot), (4, .int closed), (5, .int (nI cc)), (6, .int most)]) hx hb dX6_walk_31 hl (by decide) rfl (fun ls hl => ?_)
          refine lv_iload hx hb dX6_walk_33 (lv_at hl 6 rfl) ?_
          refine lv_iconst (v := 2) hx hb dX6_walk_35 (by decide) ?_
          refine lv_icmp_lt (tgt := 59) hx hb dX6_walk_36 (by decide) (fun c_8 => ?_) (fun c_8 => ?_)
          · have hr := if_to hr c_8
            refine lv_iload hx hb dX6_walk_59 (lv_at hl 6 rfl) ?_
            refine lv_iconst (v := 1) hx hb dX6_walk_61 (by decide) ?_
            refine lv_iadd hx hb dX6_walk_62 ?_
            refine kRen (y := nI (cc + 1)) (nI_1 _) ?_
            refine lv_iload hx hb dX6_walk_63 (lv_at hl 7 rfl) ?_
            refine lv_icmp_lt (tgt := 69) hx hb dX6_walk_65 (by decide) (fun c_9 => ?_) (fun c_9 => ?_)
            · have hr := if_to hr c_9
              refine lv_iload_n hx hb dX6_walk_69 rfl (lv_at hl 3 rfl) ?_
              refine lv_iconst (v := 1) hx hb dX6_walk_70 (by decide) ?_
              refine lv_iadd hx hb dX6_walk_71 ?_
              refine kRen (y := nI (start + 1)) (nI_1 _) ?_
              refine lv_istore (lv' := [(8, .int (nI (start + 1))), (7, .int open__7), (0, .ref h0), (1, .ref ta0), (2, .int (nI start)), (3, .int knot), (4, .int closed), (5, .int (nI cc)), (6, .int most)]) hx hb dX6_walk_72 hl (by decide) rfl (fun ls hl => ?_)
              have ex_74 : ∀ (open_ : Int32) (tb : Nat → Int32) (H : Heap) (locs : List Loc) (ls : Array Slot), (tb) = ρ → va_P (dC, dI) kCl [(h0, .inr (3, [.ref h1, .int (nI K)])), (h1, .inl (cI, 16, .inl f)), (ta0, .inl (cI, 8, .inl tb))] H → va_D A [(h0, .inr (3, [.ref h1, .int (nI K)])), (h1, .inl (cI, 16, .inl f)), (ta0, .inl (cI, 8, .inl tb))] → va_S A s.heap H locs → lv_has ls 9 [(7, .int open_), (0, .ref h0), (1, .ref ta0), (2, .int (nI start)), (3, .int knot), (4, .int closed), (5, .int (nI cc)), (6, .int most)] → W p l e (headSpec wsX6_walk (rm_X6_walk (n + 1))).room s m (([.ref h0, .ref ta0, .int (nI start), .int knot, .int closed, .int (nI cc), .int most] : List Value).toArray) below meth c H locs 0 0 (MQ below (kV dC dI [(h0, .inr (3, [.ref h1, .int (nI K)])), (h1, .inl (cI, 16, .inl f)), (ta0, .inl (cI, 8, .inl ((P_walk K f start most (n + 1) knot closed cc ta))))] A) (([.ref h0, .ref ta0, .int (nI start), .int knot, .int closed, .int (nI cc), .int most] : List Value).toArray) s 0 0 A) (F0 m 121 ls []) := by
                intro open_ tb H locs ls hr hP hD hS hl
                have he := hr.trans hρ
                exact W.vret hx hb hr0 (fun t ht hW => kV_end (by rw [← he]; exact hP) hS ht) hS.2.2 dX6_walk_121
              have lp_74 : ∀ (n_74 next : Nat) (open_ : Int32) (tb : Nat → Int32) (H : Heap) (locs : List Loc) (ls : Array Slot), next + n_74 = K → L_walk_74 K start closed cc ((P_walk K f start most n)) (fun open_ tb => tb) n_74 next open_ tb = ρ → va_P (dC, dI) kCl [(h0, .inr (3, [.ref h1, .int (nI K)])), (h1, .inl (cI, 16, .inl f)), (ta0, .inl (cI, 8, .inl tb))] H → va_D A [(h0, .inr (3, [.ref h1, .int (nI K)])), (h1, .inl (cI, 16, .inl f)), (ta0, .inl (cI, 8, .inl tb))] → va_S A s.heap H locs → lv_has ls 9 [(8, .int (nI next)), (7, .int open_), (0, .ref h0), (1, .ref ta0), (2, .int (nI start)), (3, .int knot), (4, .int closed), (5, .int (nI cc)), (6, .int most)] → W p l e (headSpec wsX6_walk (rm_X6_walk (n + 1))).room s m (([.ref h0, .ref ta0, .int (nI start), .int knot, .int closed, .int (nI cc), .int most] : List Value).toArray) below meth c H locs 0 0 (MQ below (kV dC dI [(h0, .inr (3, [.ref h1, .int (nI K)])), (h1, .inl (cI, 16, .inl f)), (ta0, .inl (cI, 8, .inl ((P_walk K f start most (n + 1) knot closed cc ta))))] A) (([.ref h0, .ref ta0, .int (nI start), .int knot, .int closed, .int (nI cc), .int most] : List Value).toArray) s 0 0 A) (F0 m 74 ls []) := by
                intro n_74
                induction n_74 with
                | zero =>
                  intro next open_ tb H locs ls hi hr hP hD hS hl
                  rewrite [L_walk_74] at hr
                  refine lv_iload hx hb dX6_walk_74 (lv_at hl 0 rfl) ?_
                  refine lv_aload_n hx hb dX6_walk_76 rfl (lv_at hl 2 rfl) ?_
                  refine va_getN (D := (dC, dI)) (ci := 3) (v := .int (nI K)) (C := RX3) (T := TX3) (N := 2) hx hb hts (by decide +kernel) hown hK hP 0 rfl rfl 1 (by decide) (va_Nw.use rfl (hN.2 0 _ rfl)) (fun _ h9 => h9) rfl dX6_walk_77 ?_
                  refine lv_icmp_ge (tgt := 121) hx hb dX6_walk_80 (by decide) (fun c_10 => ?_) (fun c_10 => ?_)
                  · exact ex_74 open_ tb _ _ _ hr hP hD hS (lv_sub hl [1, 2, 3, 4, 5, 6, 7, 8] rfl)
                  · exact absurd (kTop (i := next) (N := K) rfl (by omega)) c_10
                | succ n_74 ih_74 =>
                  intro next open_ tb H locs ls hi hr hP hD hS hl
                  rewrite [L_walk_74] at hr
                  refine lv_iload hx hb dX6_walk_74 (lv_at hl 0 rfl) ?_
                  refine lv_aload_n hx hb dX6_walk_76 rfl (lv_at hl 2 rfl) ?_
                  refine va_getN (D := (dC, dI)) (ci := 3) (v := .int (nI K)) (C := RX3) (T := TX3) (N := 2) hx hb hts (by decide +kernel) hown hK hP 0 rfl rfl 1 (by decide) (va_Nw.use rfl (hN.2 0 _ rfl)) (fun _ h9 => h9) rfl dX6_walk_77 ?_
                  refine lv_icmp_ge (tgt := 121) hx hb dX6_walk_80 (by decide) (fun c_11 => ?_) (fun c_11 => ?_)
                  · exact absurd c_11 (kLow (i := next) (N := K) rfl (by omega) (by omega))
                  · refine lv_iload hx hb dX6_walk_83 (lv_at hl 1 rfl) ?_
                    refine lv_iload hx hb dX6_walk_85 (lv_at hl 0 rfl) ?_
                    refine kCall (va_runS (As := [.int open_, .int (nI next)]) (rest := []) ⟨hx, hb, hml, hown, hts⟩ (k_X6_holds l dC dI cI cN open_ (nI next)) (va_cwS 2 hts gX6_walk_X6_holds rfl rfl rfl (by decide +kernel) ⟨by show 0 + 1 ≤ 1 + (n + 1); omega, by show 8 + (2 + 11) + 0 ≤ 21 + 28 * (n + 1); omega⟩) (kW_S hP hK hD hN [] rfl rfl rfl) rfl rfl hl.1 rfl (lv_room (Nat.le_of_ble_eq_true rfl)) dX6_walk_87 ⟨Nat.zero_le _, Nat.zero_le _⟩) hP hS (fun H locs hP hS => ?_)
                    refine lv_if_eq (tgt := 115) hx hb dX6_walk_90 (by decide) (fun c_12 => ?_) (fun c_12 => ?_)
                    · have hr := if_to hr c_12
                      refine lv_iinc (v := nI (next + 1)) (lv' := [(8, .int (nI (next + 1))), (7, .int open_), (0, .ref h0), (1, .ref ta0), (2, .int (nI start)), (3, .int knot), (4, .int closed), (5, .int (nI cc)), (6, .int most)]) hx hb dX6_walk_115 hl (k := 0) rfl (nI_1 _) (by decide) rfl (fun ls hl => ?_)
                      refine lv_goto (tgt := 74) hx hb dX6_walk_118 (by decide) ?_
                      exact ih_74 (next + 1) open_ tb _ _ _ (by omega) hr hP hD hS (lv_sub hl [0, 1, 2, 3, 4, 5, 6, 7, 8] rfl)
                    · have hr := if_no hr c_12
                      refine lv_aload_n hx hb dX6_walk_93 rfl (lv_at hl 2 rfl) ?_
                      refine lv_aload_n hx hb dX6_walk_94 rfl (lv_at hl 3 rfl) ?_
                      refine lv_iload_n hx hb dX6_walk_95 rfl (lv_at hl 4 rfl) ?_
                      refine lv_iload hx hb dX6_walk_96 (lv_at hl 0 rfl) ?_
                      refine lv_iload hx hb dX6_walk_98 (lv_at hl 6 rfl) ?_
                      refine lv_iload hx hb dX6_walk_100 (lv_at hl 0 rfl) ?_
                      refine kCall (va_runS (As := [.int (nI next)]) (rest := [.int closed, .int (nI next), .int (nI start), .ref ta0, .ref h0]) ⟨hx, hb, hml, hown, hts⟩ (k_X6_bit l dC dI cI cN (nI next)) (va_cwS 1 hts gX6_walk_X6_bit rfl rfl rfl (by decide +kernel) ⟨by show 0 + 1 ≤ 1 + (n + 1); omega, by show 8 + (1 + 11) + 0 ≤ 21 + 28 * (n + 1); omega⟩) (kW_S hP hK hD hN [] rfl rfl rfl) rfl rfl hl.1 rfl (lv_room (Nat.le_of_ble_eq_true rfl)) dX6_walk_102 ⟨Nat.zero_le _, Nat.zero_le _⟩) hP hS (fun H locs hP hS => ?_)
                      refine lv_ior hx hb dX6_walk_105 ?_
                      refine lv_iload hx hb dX6_walk_106 (lv_at hl 7 rfl) ?_
                      refine lv_iconst (v := 1) hx hb dX6_walk_108 (by decide) ?_
                      refine lv_iadd hx hb dX6_walk_109 ?_
                      refine kRen (y := nI (cc + 1)) (nI_1 _) ?_
                      refine lv_iload hx hb dX6_walk_110 (lv_at hl 8 rfl) ?_
                      refine kCallV (wr := []) (va_runS (As := [.ref h0, .ref ta0, .int (nI start), .int (nI next), .int (closed ||| (P_bit (nI next))), .int (nI (cc + 1)), .int most]) (rest := []) ⟨hx, hb, hml, hown, hts⟩ (ih_rec (nI next) (closed ||| (P_bit (nI next))) (cc + 1) tb  _ (by omega)) (va_cwS 7 hts gX6_walk_X6_walk rfl rfl rfl (by decide +kernel) ⟨by show 1 + n + 1 ≤ 1 + (n + 1); omega, by show 8 + (9 + 11) + (21 + 28 * n) ≤ 21 + 28 * (n + 1); omega⟩) (kU_S hP hK hD hN [0, 1, 2] rfl rfl rfl) rfl rfl hl.1 rfl (lv_room (Nat.le_of_ble_eq_true rfl)) dX6_walk_112 ⟨Nat.zero_le _, Nat.zero_le _⟩) hP hD hS hA [0, 1, 2] [] rfl rfl rfl rfl (by decide) rfl (fun H locs hP hD hS => ?_)
                      obtain ⟨r_13, er_13⟩ : ∃ y : Nat → Int32, y = ((P_walk K f start most n) (nI next) (closed ||| (P_bit (nI next))) (cc + 1) tb) := ⟨_, rfl⟩
                      try rw [← er_13] at hP hD
                      have hr := bd_to hr er_13
                      have hP : va_P (dC, dI) kCl [(h0, .inr (3, [.ref h1, .int (nI K)])), (h1, .inl (cI, 16, .inl f)), (ta0, .inl (cI, 8, .inl r_13))] H := hP.sub [0, 1, 2] rfl
                      have hD : va_D A [(h0, .inr (3, [.ref h1, .int (nI K)])), (h1, .inl (cI, 16, .inl f)), (ta0, .inl (cI, 8, .inl r_13))] := hD.sub [0, 1, 2] (by decide) rfl
                      refine lv_iinc (v := nI (next + 1)) (lv' := [(8, .int (nI (next + 1))), (7, .int open_), (0, .ref h0), (1, .ref ta0), (2, .int (nI start)), (3, .int knot), (4, .int closed), (5, .int (nI cc)), (6, .int most)]) hx hb dX6_walk_115 hl (k := 0) rfl (nI_1 _) (by decide) rfl (fun ls hl => ?_)
                      refine lv_goto (tgt := 74) hx hb dX6_walk_118 (by decide) ?_
                      exact ih_74 (next + 1) open_ r_13 _ _ _ (by omega) hr hP hD hS (lv_sub hl [0, 1, 2, 3, 4, 5, 6, 7, 8] rfl)
              exact lp_74 (K - (start + 1)) (start + 1) open__7 ta _ _ _ (by omega) hr hP hD hS (lv_sub hl [0, 1, 2, 3, 4, 5, 6, 7, 8] rfl)
            · have hr := if_no hr c_9
              have he := hr.trans hρ
              exact W.vret hx hb hr0 (fun t ht hW => kV_end (by rw [← he]; exact hP) hS ht) hS.2.2 dX6_walk_68
          · have hr := if_no hr c_8
            refine lv_aload_n hx hb dX6_walk_39 rfl (lv_at hl 2 rfl) ?_
            refine lv_iload hx hb dX6_walk_40 (lv_at hl 6 rfl) ?_
            refine lv_iconst (v := 1) hx hb dX6_walk_42 (by decide) ?_
            refine lv_iadd hx hb dX6_walk_43 ?_
            refine kRen (y := nI (cc + 1)) (nI_1 _) ?_
            refine lv_dup2_11 hx hb dX6_walk_44 rfl rfl ?_
            refine va_iald hx hb hK hP 2 0 rfl rfl (vp_in_nI (kWalkIn (by assumption) (by assumption) (by omega)) (by omega)) dX6_walk_45 ?_
            refine kRen (congrArg ta (nI_clamp (by omega))) ?_
            refine lv_iload hx hb dX6_walk_46 (lv_at hl 0 rfl) ?_
            refine lv_aload_n hx hb dX6_walk_48 rfl (lv_at hl 1 rfl) ?_
            refine lv_iload_n hx hb dX6_walk_49 rfl (lv_at hl 3 rfl) ?_
            refine kCall (va_runVN (As := [.int (nI start)]) (rest := [.int open__7, .int (ta (cc + 1)), .int (nI (cc + 1)), .ref ta0]) ⟨hx, hb, hml, hown, hts⟩ (k_X3_nearOf l dC dI cI cN h0 h1 K f (nI start) (by first | assumption | omega | exact Int32.le_refl _ | decide)) ⟨va_cnB 1 hts gX6_walk_X3_nearOf_n255 rfl rfl rfl (hN.1 29 _ rfl) (hts (.initialized RX3) (by decide +kernel)) (by decide +kernel) ⟨by show 0 + 1 ≤ 1 + (n + 1); omega, by show 8 + (2 + 11) + 0 ≤ 21 + 28 * (n + 1); omega⟩, hts (.instanceMethod yX3_nearOf) (by decide +kernel), hts (.selects RX3 yX3_nearOf yX3_nearOf) (by decide +kernel)⟩ (kW_V hP hK hD hN (ci := 3) (q0 := 0) rfl rfl [0, 1] rfl rfl rfl) rfl rfl hl.1 rfl (lv_room (Nat.le_of_ble_eq_true rfl)) dX6_walk_50 ⟨Nat.zero_le _, Nat.zero_le _⟩) hP hS (fun H locs hP hS => ?_)
            refine lv_iand hx hb dX6_walk_53 ?_
            refine kCall (va_runS (As := [.int (open__7 &&& (P_nearOf f (nI start)))]) (rest := [.int (ta (cc + 1)), .int (nI (cc + 1)), .ref ta0]) ⟨hx, hb, hml, hown, hts⟩ (k_J6_bitCount_0f7a4 l dC dI cI cN (open__7 &&& (P_nearOf f (nI start)))) (va_cwS 1 hts gX6_walk_J6_bitCount_0f7a4 rfl rfl rfl (by decide +kernel) ⟨by show 0 + 1 ≤ 1 + (n + 1); omega, by show 8 + (1 + 11) + 0 ≤ 21 + 28 * (n + 1); omega⟩) (kW_S hP hK hD hN [] rfl rfl rfl) rfl rfl hl.1 rfl (lv_room (Nat.le_of_ble_eq_true rfl)) dX6_walk_54 ⟨Nat.zero_le _, Nat.zero_le _⟩) hP hS (fun H locs hP hS => ?_)
            refine lv_iadd hx hb dX6_walk_57 ?_
            refine va_iast hx hb hK hP hD hS 2 0 rfl rfl (vp_in_nI (kWalkIn (by assumption) (by assumption) (by omega)) (by omega)) dX6_walk_58 (fun H locs hP hD hS => ?_)
            rw [show (nI (cc + 1)).toNatClampNeg = cc + 1 from nI_clamp (by omega)] at hP hD
            have hP : va_P (dC, dI) kCl [(h0, .inr (3, [.ref h1, .int (nI K)])), (h1, .inl (cI, 16, .inl f)), (ta0, .inl (cI, 8, .inl (upd ta (cc + 1) ((ta (cc + 1)) + (P_bitCount (open__7 &&& (P_nearOf f (nI start))))))))] H := hP
            have hD : va_D A [(h0, .inr (3, [.ref h1, .int (nI K)])), (h1, .inl (cI, 16, .inl f)), (ta0, .inl (cI, 8, .inl (upd ta (cc + 1) ((ta (cc + 1)) + (P_bitCount (open__7 &&& (P_nearOf f (nI start))))))))] := hD
            refine lv_iload hx hb dX6_walk_59 (lv_at hl 6 rfl) ?_
            refine lv_iconst (v := 1) hx hb dX6_walk_61 (by decide) ?_
            refine lv_iadd hx hb dX6_walk_62 ?_
            refine kRen (y := nI (cc + 1)) (nI_1 _) ?_
            refine lv_iload hx hb dX6_walk_63 (lv_at hl 7 rfl) ?_
            refine lv_icmp_lt (tgt := 69) hx hb dX6_walk_65 (by decide) (fun c_14 => ?_) (fun c_14 => ?_)
            · have hr := if_to hr c_14
              refine lv_iload_n hx hb dX6_walk_69 rfl (lv_at hl 3 rfl) ?_
              refine lv_iconst (v := 1) hx hb dX6_walk_70 (by decide) ?_
              refine lv_iadd hx hb dX6_walk_71 ?_
              refine kRen (y := nI (start + 1)) (nI_1 _) ?_
              refine lv_istore (lv' := [(8, .int (nI (start + 1))), (7, .int open__7), (0, .ref h0), (1, .ref ta0), (2, .int (nI start)), (3, .int knot), (4, .int closed), (5, .int (nI cc)), (6, .int most)]) hx hb dX6_walk_72 hl (by decide) rfl (fun ls hl => ?_)
              have ex_74 : ∀ (open_ : Int32) (tb : Nat → Int32) (H : Heap) (locs : List Loc) (ls : Array Slot), (tb) = ρ → va_P (dC, dI) kCl [(h0, .inr (3, [.ref h1, .int (nI K)])), (h1, .inl (cI, 16, .inl f)), (ta0, .inl (cI, 8, .inl tb))] H → va_D A [(h0, .inr (3, [.ref h1, .int (nI K)])), (h1, .inl (cI, 16, .inl f)), (ta0, .inl (cI, 8, .inl tb))] → va_S A s.heap H locs → lv_has ls 9 [(7, .int open_), (0, .ref h0), (1, .ref ta0), (2, .int (nI start)), (3, .int knot), (4, .int closed), (5, .int (nI cc)), (6, .int most)] → W p l e (headSpec wsX6_walk (rm_X6_walk (n + 1))).room s m (([.ref h0, .ref ta0, .int (nI start), .int knot, .int closed, .int (nI cc), .int most] : List Value).toArray) below meth c H locs 0 0 (MQ below (kV dC dI [(h0, .inr (3, [.ref h1, .int (nI K)])), (h1, .inl (cI, 16, .inl f)), (ta0, .inl (cI, 8, .inl ((P_walk K f start most (n + 1) knot closed cc ta))))] A) (([.ref h0, .ref ta0, .int (nI start), .int knot, .int closed, .int (nI cc), .int most] : List Value).toArray) s 0 0 A) (F0 m 121 ls []) := by
                intro open_ tb H locs ls hr hP hD hS hl
                have he := hr.trans hρ
                exact W.vret hx hb hr0 (fun t ht hW => kV_end (by rw [← he]; exact hP) hS ht) hS.2.2 dX6_walk_121
              have lp_74 : ∀ (n_74 next : Nat) (open_ : Int32) (tb : Nat → Int32) (H : Heap) (locs : List Loc) (ls : Array Slot), next + n_74 = K → L_walk_74 K start closed cc ((P_walk K f start most n)) (fun open_ tb => tb) n_74 next open_ tb = ρ → va_P (dC, dI) kCl [(h0, .inr (3, [.ref h1, .int (nI K)])), (h1, .inl (cI, 16, .inl f)), (ta0, .inl (cI, 8, .inl tb))] H → va_D A [(h0, .inr (3, [.ref h1, .int (nI K)])), (h1, .inl (cI, 16, .inl f)), (ta0, .inl (cI, 8, .inl tb))] → va_S A s.heap H locs → lv_has ls 9 [(8, .int (nI next)), (7, .int open_), (0, .ref h0), (1, .ref ta0), (2, .int (nI start)), (3, .int knot), (4, .int closed), (5, .int (nI cc)), (6, .int most)] → W p l e (headSpec wsX6_walk (rm_X6_walk (n + 1))).room s m (([.ref h0, .ref ta0, .int (nI start), .int knot, .int closed, .int (nI cc), .int most] : List Value).toArray) below meth c H locs 0 0 (MQ below (kV dC dI [(h0, .inr (3, [.ref h1, .int (nI K)])), (h1, .inl (cI, 16, .inl f)), (ta0, .inl (cI, 8, .inl ((P_walk K f start most (n + 1) knot closed cc ta))))] A) (([.ref h0, .ref ta0, .int (nI start), .int knot, .int closed, .int (nI cc), .int most] : List Value).toArray) s 0 0 A) (F0 m 74 ls []) := by
                intro n_74
                induction n_74 with
                | zero =>
                  intro next open_ tb H locs ls hi hr hP hD hS hl
                  rewrite [L_walk_74] at hr
                  refine lv_iload hx hb dX6_walk_74 (lv_at hl 0 rfl) ?_
                  refine lv_aload_n hx hb dX6_walk_76 rfl (lv_at hl 2 rfl) ?_
                  refine va_getN (D := (dC, dI)) (ci := 3) (v := .int (nI K)) (C := RX3) (T := TX3) (N := 2) hx hb hts (by decide +kernel) hown hK hP 0 rfl rfl 1 (by decide) (va_Nw.use rfl (hN.2 0 _ rfl)) (fun _ h9 => h9) rfl dX6_walk_77 ?_
                  refine lv_icmp_ge (tgt := 121) hx hb dX6_walk_80 (by decide) (fun c_15 => ?_) (fun c_15 => ?_)
                  · exact ex_74 open_ tb _ _ _ hr hP hD hS (lv_sub hl [1, 2, 3, 4, 5, 6, 7, 8] rfl)
                  · exact absurd (kTop (i := next) (N := K) rfl (by omega)) c_15
                | succ n_74 ih_74 =>
                  intro next open_ tb H locs ls hi hr hP hD hS hl
                  rewrite [L_walk_74] at hr
                  refine lv_iload hx hb dX6_walk_74 (lv_at hl 0 rfl) ?_
                  refine lv_aload_n hx hb dX6_walk_76 rfl (lv_at hl 2 rfl) ?_
                  refine va_getN (D := (dC, dI)) (ci := 3) (v := .int (nI K)) (C := RX3) (T := TX3) (N := 2) hx hb hts (by decide +kernel) hown hK hP 0 rfl rfl 1 (by decide) (va_Nw.use rfl (hN.2 0 _ rfl)) (fun _ h9 => h9) rfl dX6_walk_77 ?_
                  refine lv_icmp_ge (tgt := 121) hx hb dX6_walk_80 (by decide) (fun c_16 => ?_) (fun c_16 => ?_)
                  · exact absurd c_16 (kLow (i := next) (N := K) rfl (by omega) (by omega))
                  · refine lv_iload hx hb dX6_walk_83 (lv_at hl 1 rfl) ?_
                    refine lv_iload hx hb dX6_walk_85 (lv_at hl 0 rfl) ?_
                    refine kCall (va_runS (As := [.int open_, .int (nI next)]) (rest := []) ⟨hx, hb, hml, hown, hts⟩ (k_X6_holds l dC dI cI cN open_ (nI next)) (va_cwS 2 hts gX6_walk_X6_holds rfl rfl rfl (by decide +kernel) ⟨by show 0 + 1 ≤ 1 + (n + 1); omega, by show 8 + (2 + 11) + 0 ≤ 21 + 28 * (n + 1); omega⟩) (kW_S hP hK hD hN [] rfl rfl rfl) rfl rfl hl.1 rfl (lv_room (Nat.le_of_ble_eq_true rfl)) dX6_walk_87 ⟨Nat.zero_le _, Nat.zero_le _⟩) hP hS (fun H locs hP hS => ?_)
                    refine lv_if_eq (tgt := 115) hx hb dX6_walk_90 (by decide) (fun c_17 => ?_) (fun c_17 => ?_)
                    · have hr := if_to hr c_17
                      refine lv_iinc (v := nI (next + 1)) (lv' := [(8, .int (nI (next + 1))), (7, .int open_), (0, .ref h0), (1, .ref ta0), (2, .int (nI start)), (3, .int knot), (4, .int closed), (5, .int (nI cc)), (6, .int most)]) hx hb dX6_walk_115 hl (k := 0) rfl (nI_1 _) (by decide) rfl (fun ls hl => ?_)
                      refine lv_goto (tgt := 74) hx hb dX6_walk_118 (by decide) ?_
                      exact ih_74 (next + 1) open_ tb _ _ _ (by omega) hr hP hD hS (lv_sub hl [0, 1, 2, 3, 4, 5, 6, 7, 8] rfl)
                    · have hr := if_no hr c_17
                      refine lv_aload_n hx hb dX6_walk_93 rfl (lv_at hl 2 rfl) ?_
                      refine lv_aload_n hx hb dX6_walk_94 rfl (lv_at hl 3 rfl) ?_
                      refine lv_iload_n hx hb dX6_walk_95 rfl (lv_at hl 4 rfl) ?_
                      refine lv_iload hx hb dX6_walk_96 (lv_at hl 0 rfl) ?_
                      refine lv_iload hx hb dX6_walk_98 (lv_at hl 6 rfl) ?_
                      refine lv_iload hx hb dX6_walk_100 (lv_at hl 0 rfl) ?_
                      refine kCall (va_runS (As := [.int (nI next)]) (rest := [.int closed, .int (nI next), .int (nI start), .ref ta0, .ref h0]) ⟨hx, hb, hml, hown, hts⟩ (k_X6_bit l dC dI cI cN (nI next)) (va_cwS 1 hts gX6_walk_X6_bit rfl rfl rfl (by decide +kernel) ⟨by show 0 + 1 ≤ 1 + (n + 1); omega, by show 8 + (1 + 11) + 0 ≤ 21 + 28 * (n + 1); omega⟩) (kW_S hP hK hD hN [] rfl rfl rfl) rfl rfl hl.1 rfl (lv_room (Nat.le_of_ble_eq_true rfl)) dX6_walk_102 ⟨Nat.zero_le _, Nat.zero_le _⟩) hP hS (fun H locs hP hS => ?_)
                      refine lv_ior hx hb dX6_walk_105 ?_
                      refine lv_iload hx hb dX6_walk_106 (lv_at hl 7 rfl) ?_
                      refine lv_iconst (v := 1) hx hb dX6_walk_108 (by decide) ?_
                      refine lv_iadd hx hb dX6_walk_109 ?_
                      refine kRen (y := nI (cc + 1)) (nI_1 _) ?_
                      refine lv_iload hx hb dX6_walk_110 (lv_at hl 8 rfl) ?_
                      refine kCallV (wr := []) (va_runS (As := [.ref h0, .ref ta0, .int (nI start), .int (nI next), .int (closed ||| (P_bit (nI next))), .int (nI (cc + 1)), .int most]) (rest := []) ⟨hx, hb, hml, hown, hts⟩ (ih_rec (nI next) (closed ||| (P_bit (nI next))) (cc + 1) tb  _ (by omega)) (va_cwS 7 hts gX6_walk_X6_walk rfl rfl rfl (by decide +kernel) ⟨by show 1 + n + 1 ≤ 1 + (n + 1); omega, by show 8 + (9 + 11) + (21 + 28 * n) ≤ 21 + 28 * (n + 1); omega⟩) (kU_S hP hK hD hN [0, 1, 2] rfl rfl rfl) rfl rfl hl.1 rfl (lv_room (Nat.le_of_ble_eq_true rfl)) dX6_walk_112 ⟨Nat.zero_le _, Nat.zero_le _⟩) hP hD hS hA [0, 1, 2] [] rfl rfl rfl rfl (by decide) rfl (fun H locs hP hD hS => ?_)
                      obtain ⟨r_18, er_18⟩ : ∃ y : Nat → Int32, y = ((P_walk K f start most n) (nI next) (closed ||| (P_bit (nI next))) (cc + 1) tb) := ⟨_, rfl⟩
                      try rw [← er_18] at hP hD
                      have hr := bd_to hr er_18
                      have hP : va_P (dC, dI) kCl [(h0, .inr (3, [.ref h1, .int (nI K)])), (h1, .inl (cI, 16, .inl f)), (ta0, .inl (cI, 8, .inl r_18))] H := hP.sub [0, 1, 2] rfl
                      have hD : va_D A [(h0, .inr (3, [.ref h1, .int (nI K)])), (h1, .inl (cI, 16, .inl f)), (ta0, .inl (cI, 8, .inl r_18))] := hD.sub [0, 1, 2] (by decide) rfl
                      refine lv_iinc (v := nI (next + 1)) (lv' := [(8, .int (nI (next + 1))), (7, .int open_), (0, .ref h0), (1, .ref ta0), (2, .int (nI start)), (3, .int knot), (4, .int closed), (5, .int (nI cc)), (6, .int most)]) hx hb dX6_walk_115 hl (k := 0) rfl (nI_1 _) (by decide) rfl (fun ls hl => ?_)
                      refine lv_goto (tgt := 74) hx hb dX6_walk_118 (by decide) ?_
                      exact ih_74 (next + 1) open_ r_18 _ _ _ (by omega) hr hP hD hS (lv_sub hl [0, 1, 2, 3, 4, 5, 6, 7, 8] rfl)
              exact lp_74 (K - (start + 1)) (start + 1) open__7 (upd ta (cc + 1) ((ta (cc + 1)) + (P_bitCount (open__7 &&& (P_nearOf f (nI start)))))) _ _ _ (by omega) hr hP hD hS (lv_sub hl [0, 1, 2, 3, 4, 5, 6, 7, 8] rfl)
            · have hr := if_no hr c_14
              have he := hr.trans hρ
              exact W.vret hx hb hr0 (fun t ht hW => kV_end (by rw [← he]; exact hP) hS ht) hS.2.2 dX6_walk_68
        · have hr := if_no hr c_6
          have he := hr.trans hρ
          exact W.vret hx hb hr0 (fun t ht hW => kV_end (by rw [← he]; exact hP) hS ht) hS.2.2 dX6_walk_20
def L_countRings_26 (K : Nat) (f : Nat → Int32) (length : Int32) (k : (Nat → Int32) → Nat → Int32) : Nat → Nat → (Nat → Int32) → Nat → Int32
  | 0, start, tz => k tz
  | n + 1, start, tz =>
    bd (P_walk K f start length 7 (nI start) ((P_bit ((nI start) + (1 : Int32))) - (1 : Int32)) 1 tz) (fun r_1 =>
      L_countRings_26 K f length k n (start + 1) r_1)
def L_countRings_2  (k : (Nat → Int32) → Nat → Int32) : Nat → Nat → (Nat → Int32) → Nat → Int32
  | 0, number, tz => k tz
  | n + 1, number, tz =>
    L_countRings_2 k n (number + 1) (upd tz number (0 : Int32))
def P_countRings (K : Nat) (f : Nat → Int32) (ta : Nat → Int32) (length : Int32) : Nat → Int32 :=
  L_countRings_2 (fun tz => L_countRings_26 K f length (fun tz => tz) K 0 tz) 8 0 ta
abbrev rm_X6_countRings : Room := { frames := 9, cells := 0, slots := 0, locals := 245 }
set_option maxHeartbeats 4000000 in
set_option maxRecDepth 100000 in
theorem k_X6_countRings (l : Launch) (dC : Nat → ClassId) (dI : Nat → Nat → Nat) (cI cN : ClassId) (s0 : Nat) (sc0 : Nat) (kp0 : Nat) (ta0 : Nat) (km : Int32) (rf : Int32) (a0 : Nat) (q0 : Nat) (d0 : Nat) (c0 : Nat) (h0 : Nat) (h1 : Nat) (K : Nat) (f : Nat → Int32) (ta : Nat → Int32) (length : Int32) (hK : K ≤ 16) (sz : Nat) : Met l yX6_countRings wsX6_countRings rm_X6_countRings (va_Pc [.ref s0, .int length] (kU dC dI cI cN [(s0, .inr (5, [.ref h0, .ref sc0, .ref kp0, .ref a0, .ref q0, .ref d0, .ref c0, .ref ta0, .int km, .int rf])), (h0, .inr (3, [.ref h1, .int (nI K)])), (h1, .inl (cI, 16, .inl f)), (ta0, .inl (cI, 8, .inl ta))] sz)) (kV dC dI [(s0, .inr (5, [.ref h0, .ref sc0, .ref kp0, .ref a0, .ref q0, .ref d0, .ref c0, .ref ta0, .int km, .int rf])), (h0, .inr (3, [.ref h1, .int (nI K)])), (h1, .inl (cI, 16, .inl f)), (ta0, .inl (cI, 8, .inl ((P_countRings K f ta length))))] (va_A [(s0, .inr (5, [.ref h0, .ref sc0, .ref kp0, .ref a0, .ref q0, .ref d0, .ref c0, .ref ta0, .int km, .int rf])), (h0, .inr (3, [.ref h1, .int (nI K)])), (h1, .inl (cI, 16, .inl f)), (ta0, .inl (cI, 8, .inl ta))] sz)) 0 0 (va_A [(s0, .inr (5, [.ref h0, .ref sc0, .ref kp0, .ref a0, .ref q0, .ref d0, .ref c0, .ref ta0, .int km, .int rf])), (h0, .inr (3, [.ref h1, .int (nI K)])), (h1, .inl (cI, 16, .inl f)), (ta0, .inl (cI, 8, .inl ta))] sz) := by
  refine Met.ofW (cc := cX6_countRings) (maxL := 3) (ret := none) (by decide) rfl ?_
  intro p e s m args below meth c s₁ B hml hv
  obtain ⟨rfl, hsz, hP, hK, hD0, hN⟩ := hv
  have hx := B.exec
  have hb := B.bytes
  have hr0 := B.returns
  have hts := atoms_spec (ws := wsX6_countRings) B.pre
  have hown : s.vm.findClass RX6 = some m.cls := findClass_of_methodNamed B.named
  have hlocks := B.notSynchronized
  subst hsz
  have hD := hD0.self (sz := s.heap.size)
  generalize hAe : va_A [(s0, .inr (5, [.ref h0, .ref sc0, .ref kp0, .ref a0, .ref q0, .ref d0, .ref c0, .ref ta0, .int km, .int rf])), (h0, .inr (3, [.ref h1, .int (nI K)])), (h1, .inl (cI, 16, .inl f)), (ta0, .inl (cI, 8, .inl ta))] s.heap.size = A at hD ⊢
  have hA : ∀ q : Nat, s.heap.size ≤ q → A q := fun q h => by rw [← hAe]; exact Or.inr h
  have hS : va_S A s.heap s.heap [] := va_S.rf
  have hl := lv_entry ([.ref s0, .int length]) (n := 3) (Nat.le_of_ble_eq_true rfl)
  rw [lg_entry_eq]
  generalize (lg_sl ([.ref s0, .int length]) ++ List.replicate (3 - (lg_sl ([.ref s0, .int length])).length) Slot.unset).toArray = ls at hl ⊢
  have hl : lv_has ls 3 [(0, .ref s0), (1, .int length)] := hl
  obtain ⟨ρ, hρ⟩ : ∃ ρ : Nat → Int32, ρ = P_countRings K f ta length := ⟨_, rfl⟩
  have hr : P_countRings K f ta length = ρ := hρ.symm
  rewrite [P_countRings] at hr
  refine lv_iconst (v := 0) hx hb dX6_countRings_0 (by decide) ?_
  refine lv_istore_n (lv' := [(2, .int 0), (0, .ref s0), (1, .int length)]) hx hb dX6_countRings_1 rfl hl (by decide) rfl (fun ls hl => ?_)
  have ex_2 : ∀ (tz : Nat → Int32) (H : Heap) (locs : List Loc) (ls : Array Slot), (L_countRings_26 K f length (fun tz => tz) K 0 tz) = ρ → va_P (dC, dI) kCl [(s0, .inr (5, [.ref h0, .ref sc0, .ref kp0, .ref a0, .ref q0, .ref d0, .ref c0, .ref ta0, .int km, .int rf])), (h0, .inr (3, [.ref h1, .int (nI K)])), (h1, .inl (cI, 16, .inl f)), (ta0, .inl (cI, 8, .inl tz))] H → va_D A [(s0, .inr (5, [.ref h0, .ref sc0, .ref kp0, .ref a0, .ref q0, .ref d0, .ref c0, .ref ta0, .int km, .int rf])), (h0, .inr (3, [.ref h1, .int (nI K)])), (h1, .inl (cI, 16, .inl f)), (ta0, .inl (cI, 8, .inl tz))] → va_S A s.heap H locs → lv_has ls 3 [(0, .ref s0), (1, .int length)] → W p l e (headSpec wsX6_countRings rm_X6_countRings).room s m (([.ref s0, .int length] : List Value).toArray) below meth c H locs 0 0 (MQ below (kV dC dI [(s0, .inr (5, [.ref h0, .ref sc0, .ref kp0, .ref a0, .ref q0, .ref d0, .ref c0, .ref ta0, .int km, .int rf])), (h0, .inr (3, [.ref h1, .int (nI K)])), (h1, .inl (cI, 16, .inl f)), (ta0, .inl (cI, 8, .inl ((P_countRings K f ta length))))] A) (([.ref s0, .int length] : List Value).toArray) s 0 0 A) (F0 m 24 ls []) := by
    intro tz H locs ls hr hP hD hS hl
    refine lv_iconst (v := 0) hx hb dX6_countRings_24 (by decide) ?_
    refine lv_istore_n (lv' := [(2, .int 0), (0, .ref s0), (1, .int length)]) hx hb dX6_countRings_25 rfl hl (by decide) rfl (fun ls hl => ?_)
    have ex_26 : ∀ (tz : Nat → Int32) (H : Heap) (locs : List Loc) (ls : Array Slot), (tz) = ρ → va_P (dC, dI) kCl [(s0, .inr (5, [.ref h0, .ref sc0, .ref kp0, .ref a0, .ref q0, .ref d0, .ref c0, .ref ta0, .int km, .int rf])), (h0, .inr (3, [.ref h1, .int (nI K)])), (h1, .inl (cI, 16, .inl f)), (ta0, .inl (cI, 8, .inl tz))] H → va_D A [(s0, .inr (5, [.ref h0, .ref sc0, .ref kp0, .ref a0, .ref q0, .ref d0, .ref c0, .ref ta0, .int km, .int rf])), (h0, .inr (3, [.ref h1, .int (nI K)])), (h1, .inl (cI, 16, .inl f)), (ta0, .inl (cI, 8, .inl tz))] → va_S A s.heap H locs → lv_has ls 3 [(0, .ref s0), (1, .int length)] → W p l e (headSpec wsX6_countRings rm_X6_countRings).room s m (([.ref s0, .int length] : List Value).toArray) below meth c H locs 0 0 (MQ below (kV dC dI [(s0, .inr (5, [.ref h0, .ref sc0, .ref kp0, .ref a0, .ref q0, .ref d0, .ref c0, .ref ta0, .int km, .int rf])), (h0, .inr (3, [.ref h1, .int (nI K)])), (h1, .inl (cI, 16, .inl f)), (ta0, .inl (cI, 8, .inl ((P_countRings K f ta length))))] A) (([.ref s0, .int length] : List Value).toArray) s 0 0 A) (F0 m 66 ls []) := by
      intro tz H locs ls hr hP hD hS hl
      have he := hr.trans hρ
      exact W.vret hx hb hr0 (fun t ht hW => kV_end (by rw [← he]; exact hP) hS ht) hS.2.2 dX6_countRings_66
    have lp_26 : ∀ (n_26 start : Nat) (tz : Nat → Int32) (H : Heap) (locs : List Loc) (ls : Array Slot), start + n_26 = K → L_countRings_26 K f length (fun tz => tz) n_26 start tz = ρ → va_P (dC, dI) kCl [(s0, .inr (5, [.ref h0, .ref sc0, .ref kp0, .ref a0, .ref q0, .ref d0, .ref c0, .ref ta0, .int km, .int rf])), (h0, .inr (3, [.ref h1, .int (nI K)])), (h1, .inl (cI, 16, .inl f)), (ta0, .inl (cI, 8, .inl tz))] H → va_D A [(s0, .inr (5, [.ref h0, .ref sc0, .ref kp0, .ref a0, .ref q0, .ref d0, .ref c0, .ref ta0, .int km, .int rf])), (h0, .inr (3, [.ref h1, .int (nI K)])), (h1, .inl (cI, 16, .inl f)), (ta0, .inl (cI, 8, .inl tz))] → va_S A s.heap H locs → lv_has ls 3 [(2, .int (nI start)), (0, .ref s0), (1, .int length)] → W p l e (headSpec wsX6_countRings rm_X6_countRings).room s m (([.ref s0, .int length] : List Value).toArray) below meth c H locs 0 0 (MQ below (kV dC dI [(s0, .inr (5, [.ref h0, .ref sc0, .ref kp0, .ref a0, .ref q0, .ref d0, .ref c0, .ref ta0, .int km, .int rf])), (h0, .inr (3, [.ref h1, .int (nI K)])), (h1, .inl (cI, 16, .inl f)), (ta0, .inl (cI, 8, .inl ((P_countRings K f ta length))))] A) (([.ref s0, .int length] : List Value).toArray) s 0 0 A) (F0 m 26 ls []) := by
      intro n_26
      induction n_26 with
      | zero =>
        intro start tz H locs ls hi hr hP hD hS hl
        rewrite [L_countRings_26] at hr
        refine lv_iload_n hx hb dX6_countRings_26 rfl (lv_at hl 0 rfl) ?_
        refine lv_aload_n hx hb dX6_countRings_27 rfl (lv_at hl 1 rfl) ?_
        refine va_get (D := (dC, dI)) (ci := 5) (v := .ref h0) (C := RX6) (T := TX6) (N := 10) hx hb hts (by decide +kernel) hown hK hP 0 rfl rfl 0 (by decide) (hts (.fieldLink RX6 12 "Shortring" "net" "LShortring$Net;") (by decide +kernel)) (fun _ h9 => h9) rfl dX6_countRings_28 ?_
        refine va_getN (D := (dC, dI)) (ci := 3) (v := .int (nI K)) (C := RX3) (T := TX3) (N := 2) hx hb hts (by decide +kernel) hown hK hP 1 rfl rfl 1 (by decide) (va_Nw.use rfl (hN.2 0 _ rfl)) (fun _ h9 => h9) rfl dX6_countRings_31 ?_
        refine lv_icmp_ge (tgt := 66) hx hb dX6_countRings_34 (by decide) (fun c_1 => ?_) (fun c_1 => ?_)
        · exact ex_26 tz _ _ _ hr hP hD hS (lv_sub hl [1, 2] rfl)
        · exact absurd (kTop (i := start) (N := K) rfl (by omega)) c_1
      | succ n_26 ih_26 =>
        intro start tz H locs ls hi hr hP hD hS hl
        rewrite [L_countRings_26] at hr
        refine lv_iload_n hx hb dX6_countRings_26 rfl (lv_at hl 0 rfl) ?_
        refine lv_aload_n hx hb dX6_countRings_27 rfl (lv_at hl 1 rfl) ?_
        refine va_get (D := (dC, dI)) (ci := 5) (v := .ref h0) (C := RX6) (T := TX6) (N := 10) hx hb hts (by decide +kernel) hown hK hP 0 rfl rfl 0 (by decide) (hts (.fieldLink RX6 12 "Shortring" "net" "LShortring$Net;") (by decide +kernel)) (fun _ h9 => h9) rfl dX6_countRings_28 ?_
        refine va_getN (D := (dC, dI)) (ci := 3) (v := .int (nI K)) (C := RX3) (T := TX3) (N := 2) hx hb hts (by decide +kernel) hown hK hP 1 rfl rfl 1 (by decide) (va_Nw.use rfl (hN.2 0 _ rfl)) (fun _ h9 => h9) rfl dX6_countRings_31 ?_
        refine lv_icmp_ge (tgt := 66) hx hb dX6_countRings_34 (by decide) (fun c_2 => ?_) (fun c_2 => ?_)
        · exact absurd c_2 (kLow (i := start) (N := K) rfl (by omega) (by omega))
        · refine lv_aload_n hx hb dX6_countRings_37 rfl (lv_at hl 1 rfl) ?_
          refine va_get (D := (dC, dI)) (ci := 5) (v := .ref h0) (C := RX6) (T := TX6) (N := 10) hx hb hts (by decide +kernel) hown hK hP 0 rfl rfl 0 (by decide) (hts (.fieldLink RX6 12 "Shortring" "net" "LShortring$Net;") (by decide +kernel)) (fun _ h9 => h9) rfl dX6_countRings_38 ?_
          refine lv_aload_n hx hb dX6_countRings_41 rfl (lv_at hl 1 rfl) ?_
          refine va_get (D := (dC, dI)) (ci := 5) (v := .ref ta0) (C := RX6) (T := TX6) (N := 10) hx hb hts (by decide +kernel) hown hK hP 0 rfl rfl 7 (by decide) (hts (.fieldLink RX6 51 "Shortring" "tally" "[I") (by decide +kernel)) (fun _ h9 => h9) rfl dX6_countRings_42 ?_
          refine lv_iload_n hx hb dX6_countRings_45 rfl (lv_at hl 0 rfl) ?_
          refine lv_iload_n hx hb dX6_countRings_46 rfl (lv_at hl 0 rfl) ?_
          refine lv_iload_n hx hb dX6_countRings_47 rfl (lv_at hl 0 rfl) ?_
          refine lv_iconst (v := 1) hx hb dX6_countRings_48 (by decide) ?_
          refine lv_iadd hx hb dX6_countRings_49 ?_
          refine kCall (va_runS (As := [.int ((nI start) + (1 : Int32))]) (rest := [.int (nI start), .int (nI start), .ref ta0, .ref h0]) ⟨hx, hb, hml, hown, hts⟩ (k_X6_bit l dC dI cI cN ((nI start) + (1 : Int32))) (va_cwS 1 hts gX6_countRings_X6_bit rfl rfl rfl (by decide +kernel) ⟨Nat.le_of_ble_eq_true rfl, Nat.le_of_ble_eq_true rfl⟩) (kW_S hP hK hD hN [] rfl rfl rfl) rfl rfl hl.1 rfl (lv_room (Nat.le_of_ble_eq_true rfl)) dX6_countRings_50 ⟨Nat.zero_le _, Nat.zero_le _⟩) hP hS (fun H locs hP hS => ?_)
          refine lv_iconst (v := 1) hx hb dX6_countRings_53 (by decide) ?_
          refine lv_isub hx hb dX6_countRings_54 ?_
          refine lv_iconst (v := 1) hx hb dX6_countRings_55 (by decide) ?_
          refine lv_iload_n hx hb dX6_countRings_56 rfl (lv_at hl 2 rfl) ?_
          refine kCallV (wr := [(s0, .inr (5, [.ref h0, .ref sc0, .ref kp0, .ref a0, .ref q0, .ref d0, .ref c0, .ref ta0, .int km, .int rf]))]) (va_runS (As := [.ref h0, .ref ta0, .int (nI start), .int (nI start), .int ((P_bit ((nI start) + (1 : Int32))) - (1 : Int32)), .int 1, .int length]) (rest := []) ⟨hx, hb, hml, hown, hts⟩ (k_X6_walk l dC dI cI cN h0 h1 K f (by first | assumption | omega) ta0 start (by first | assumption | omega) length 7 (nI start) ((P_bit ((nI start) + (1 : Int32))) - (1 : Int32)) 1 tz  _ (by omega)) (va_cwS 7 hts gX6_countRings_X6_walk rfl rfl rfl (by decide +kernel) ⟨Nat.le_of_ble_eq_true rfl, Nat.le_of_ble_eq_true rfl⟩) (kU_S hP hK hD hN [1, 2, 3] rfl rfl rfl) rfl rfl hl.1 rfl (lv_room (Nat.le_of_ble_eq_true rfl)) dX6_countRings_57 ⟨Nat.zero_le _, Nat.zero_le _⟩) hP hD hS hA [1, 2, 3] [0] rfl rfl rfl rfl (by decide) rfl (fun H locs hP hD hS => ?_)
          obtain ⟨r_3, er_3⟩ : ∃ y : Nat → Int32, y = (P_walk K f start length 7 (nI start) ((P_bit ((nI start) + (1 : Int32))) - (1 : Int32)) 1 tz) := ⟨_, rfl⟩
          try rw [← er_3] at hP hD
          have hr := bd_to hr er_3
          have hP : va_P (dC, dI) kCl [(s0, .inr (5, [.ref h0, .ref sc0, .ref kp0, .ref a0, .ref q0, .ref d0, .ref c0, .ref ta0, .int km, .int rf])), (h0, .inr (3, [.ref h1, .int (nI K)])), (h1, .inl (cI, 16, .inl f)), (ta0, .inl (cI, 8, .inl r_3))] H := hP.sub [0, 1, 2, 3] rfl
          have hD : va_D A [(s0, .inr (5, [.ref h0, .ref sc0, .ref kp0, .ref a0, .ref q0, .ref d0, .ref c0, .ref ta0, .int km, .int rf])), (h0, .inr (3, [.ref h1, .int (nI K)])), (h1, .inl (cI, 16, .inl f)), (ta0, .inl (cI, 8, .inl r_3))] := hD.sub [0, 1, 2, 3] (by decide) rfl
          refine lv_iinc (v := nI (start + 1)) (lv' := [(2, .int (nI (start + 1))), (0, .ref s0), (1, .int length)]) hx hb dX6_countRings_60 hl (k := 0) rfl (nI_1 _) (by decide) rfl (fun ls hl => ?_)
          refine lv_goto (tgt := 26) hx hb dX6_countRings_63 (by decide) ?_
          exact ih_26 (start + 1) r_3 _ _ _ (by omega) hr hP hD hS (lv_sub hl [0, 1, 2] rfl)
    exact lp_26 K 0 tz _ _ _ (by omega) hr hP hD hS (lv_sub hl [0, 1, 2] rfl)
  have lp_2 : ∀ (n_2 number : Nat) (tz : Nat → Int32) (H : Heap) (locs : List Loc) (ls : Array Slot), number + n_2 = 8 → L_countRings_2 (fun tz => L_countRings_26 K f length (fun tz => tz) K 0 tz) n_2 number tz = ρ → va_P (dC, dI) kCl [(s0, .inr (5, [.ref h0, .ref sc0, .ref kp0, .ref a0, .ref q0, .ref d0, .ref c0, .ref ta0, .int km, .int rf])), (h0, .inr (3, [.ref h1, .int (nI K)])), (h1, .inl (cI, 16, .inl f)), (ta0, .inl (cI, 8, .inl tz))] H → va_D A [(s0, .inr (5, [.ref h0, .ref sc0, .ref kp0, .ref a0, .ref q0, .ref d0, .ref c0, .ref ta0, .int km, .int rf])), (h0, .inr (3, [.ref h1, .int (nI K)])), (h1, .inl (cI, 16, .inl f)), (ta0, .inl (cI, 8, .inl tz))] → va_S A s.heap H locs → lv_has ls 3 [(2, .int (nI number)), (0, .ref s0), (1, .int length)] → W p l e (headSpec wsX6_countRings rm_X6_countRings).room s m (([.ref s0, .int length] : List Value).toArray) below meth c H locs 0 0 (MQ below (kV dC dI [(s0, .inr (5, [.ref h0, .ref sc0, .ref kp0, .ref a0, .ref q0, .ref d0, .ref c0, .ref ta0, .int km, .int rf])), (h0, .inr (3, [.ref h1, .int (nI K)])), (h1, .inl (cI, 16, .inl f)), (ta0, .inl (cI, 8, .inl ((P_countRings K f ta length))))] A) (([.ref s0, .int length] : List Value).toArray) s 0 0 A) (F0 m 2 ls []) := by
    intro n_2
    induction n_2 with
    | zero =>
      intro number tz H locs ls hi hr hP hD hS hl
      rewrite [L_countRings_2] at hr
      refine lv_iload_n hx hb dX6_countRings_2 rfl (lv_at hl 0 rfl) ?_
      refine lv_aload_n hx hb dX6_countRings_3 rfl (lv_at hl 1 rfl) ?_
      refine va_get (D := (dC, dI)) (ci := 5) (v := .ref ta0) (C := RX6) (T := TX6) (N := 10) hx hb hts (by decide +kernel) hown hK hP 0 rfl rfl 7 (by decide) (hts (.fieldLink RX6 51 "Shortring" "tally" "[I") (by decide +kernel)) (fun _ h9 => h9) rfl dX6_countRings_4 ?_
      refine va_alen (v := 8) hx hb hK hP 3 0 rfl rfl rfl dX6_countRings_7 ?_
      refine lv_icmp_ge (tgt := 24) hx hb dX6_countRings_8 (by decide) (fun c_4 => ?_) (fun c_4 => ?_)
      · exact ex_2 tz _ _ _ hr hP hD hS (lv_sub hl [1, 2] rfl)
      · exact absurd (kTop (i := number) (N := 8) rfl (by omega)) c_4
    | succ n_2 ih_2 =>
      intro number tz H locs ls hi hr hP hD hS hl
      rewrite [L_countRings_2] at hr
      refine lv_iload_n hx hb dX6_countRings_2 rfl (lv_at hl 0 rfl) ?_
      refine lv_aload_n hx hb dX6_countRings_3 rfl (lv_at hl 1 rfl) ?_
      refine va_get (D := (dC, dI)) (ci := 5) (v := .ref ta0) (C := RX6) (T := TX6) (N := 10) hx hb hts (by decide +kernel) hown hK hP 0 rfl rfl 7 (by decide) (hts (.fieldLink RX6 51 "Shortring" "tally" "[I") (by decide +kernel)) (fun _ h9 => h9) rfl dX6_countRings_4 ?_
      refine va_alen (v := 8) hx hb hK hP 3 0 rfl rfl rfl dX6_countRings_7 ?_
      refine lv_icmp_ge (tgt := 24) hx hb dX6_countRings_8 (by decide) (fun c_5 => ?_) (fun c_5 => ?_)
      · exact absurd c_5 (kLow (i := number) (N := 8) rfl (by omega) (by omega))
      · refine lv_aload_n hx hb dX6_countRings_11 rfl (lv_at hl 1 rfl) ?_
        refine va_get (D := (dC, dI)) (ci := 5) (v := .ref ta0) (C := RX6) (T := TX6) (N := 10) hx hb hts (by decide +kernel) hown hK hP 0 rfl rfl 7 (by decide) (hts (.fieldLink RX6 51 "Shortring" "tally" "[I") (by decide +kernel)) (fun _ h9 => h9) rfl dX6_countRings_12 ?_
        refine lv_iload_n hx hb dX6_countRings_15 rfl (lv_at hl 0 rfl) ?_
        refine lv_iconst (v := 0) hx hb dX6_countRings_16 (by decide) ?_
        refine va_iast hx hb hK hP hD hS 3 0 rfl rfl (vp_in_nI (by omega) (by omega)) dX6_countRings_17 (fun H locs hP hD hS => ?_)
        rw [show (nI number).toNatClampNeg = number from nI_clamp (by omega)] at hP hD
        have hP : va_P (dC, dI) kCl [(s0, .inr (5, [.ref h0, .ref sc0, .ref kp0, .ref a0, .ref q0, .ref d0, .ref c0, .ref ta0, .int km, .int rf])), (h0, .inr (3, [.ref h1, .int (nI K)])), (h1, .inl (cI, 16, .inl f)), (ta0, .inl (cI, 8, .inl (upd tz number (0 : Int32))))] H := hP
        have hD : va_D A [(s0, .inr (5, [.ref h0, .ref sc0, .ref kp0, .ref a0, .ref q0, .ref d0, .ref c0, .ref ta0, .int km, .int rf])), (h0, .inr (3, [.ref h1, .int (nI K)])), (h1, .inl (cI, 16, .inl f)), (ta0, .inl (cI, 8, .inl (upd tz number (0 : Int32))))] := hD
        refine lv_iinc (v := nI (number + 1)) (lv' := [(2, .int (nI (number + 1))), (0, .ref s0), (1, .int length)]) hx hb dX6_countRings_18 hl (k := 0) rfl (nI_1 _) (by decide) rfl (fun ls hl => ?_)
        refine lv_goto (tgt := 2) hx hb dX6_countRings_21 (by decide) ?_
        exact ih_2 (number + 1) (upd tz number (0 : Int32)) _ _ _ (by omega) hr hP hD hS (lv_sub hl [0, 1, 2] rfl)
  exact lp_2 8 0 ta _ _ _ (by omega) hr hP hD hS (lv_sub hl [0, 1, 2] rfl)
def L_shortRings_11 (length : Int32) (k : Int32 → (Nat → Int32) → Int32 × (Nat → Int32)) : Nat → Int32 → Int32 → (Nat → Int32) → Int32 × (Nat → Int32)
  | 0, shorter, many, tz => k many tz
  | n + 1, shorter, many, tz =>
    bd (many + (P_tallied tz shorter)) (fun many_1 =>
      L_shortRings_11 length k n (shorter + 1) many_1 tz)
def P_shortRings (K : Nat) (f : Nat → Int32) (ta : Nat → Int32) (length : Int32) : Int32 × (Nat → Int32) :=
  bd (P_countRings K f ta (length - (1 : Int32))) (fun r_1 =>
    L_shortRings_11 length (fun many tz => (many, tz)) (((length).toInt - ((3 : Int32)).toInt).toNat) 3 0 r_1)
abbrev rm_X6_shortRings : Room := { frames := 10, cells := 0, slots := 0, locals := 267 }
set_option maxHeartbeats 4000000 in
set_option maxRecDepth 100000 in
theorem k_X6_shortRings (l : Launch) (dC : Nat → ClassId) (dI : Nat → Nat → Nat) (cI cN : ClassId) (s0 : Nat) (sc0 : Nat) (kp0 : Nat) (ta0 : Nat) (km : Int32) (rf : Int32) (a0 : Nat) (q0 : Nat) (d0 : Nat) (c0 : Nat) (h0 : Nat) (h1 : Nat) (K : Nat) (f : Nat → Int32) (ta : Nat → Int32) (length : Int32) (hK : K ≤ 16) (sz : Nat) : Met l yX6_shortRings wsX6_shortRings rm_X6_shortRings (va_Pc [.ref s0, .int length] (kU dC dI cI cN [(s0, .inr (5, [.ref h0, .ref sc0, .ref kp0, .ref a0, .ref q0, .ref d0, .ref c0, .ref ta0, .int km, .int rf])), (h0, .inr (3, [.ref h1, .int (nI K)])), (h1, .inl (cI, 16, .inl f)), (ta0, .inl (cI, 8, .inl ta))] sz)) (kVi dC dI (P_shortRings K f ta length).1 [(s0, .inr (5, [.ref h0, .ref sc0, .ref kp0, .ref a0, .ref q0, .ref d0, .ref c0, .ref ta0, .int km, .int rf])), (h0, .inr (3, [.ref h1, .int (nI K)])), (h1, .inl (cI, 16, .inl f)), (ta0, .inl (cI, 8, .inl ((P_shortRings K f ta length).2)))] (va_A [(s0, .inr (5, [.ref h0, .ref sc0, .ref kp0, .ref a0, .ref q0, .ref d0, .ref c0, .ref ta0, .int km, .int rf])), (h0, .inr (3, [.ref h1, .int (nI K)])), (h1, .inl (cI, 16, .inl f)), (ta0, .inl (cI, 8, .inl ta))] sz)) 0 0 (va_A [(s0, .inr (5, [.ref h0, .ref sc0, .ref kp0, .ref a0, .ref q0, .ref d0, .ref c0, .ref ta0, .int km, .int rf])), (h0, .inr (3, [.ref h1, .int (nI K)])), (h1, .inl (cI, 16, .inl f)), (ta0, .inl (cI, 8, .inl ta))] sz) := by
  refine Met.ofW (cc := cX6_shortRings) (maxL := 4) (ret := (some .int)) (by decide) rfl ?_
  intro p e s m args below meth c s₁ B hml hv
  obtain ⟨rfl, hsz, hP, hK, hD0, hN⟩ := hv
  have hx := B.exec
  have hb := B.bytes
  have hr0 := B.returns
  have hts := atoms_spec (ws := wsX6_shortRings) B.pre
  have hown : s.vm.findClass RX6 = some m.cls := findClass_of_methodNamed B.named
  have hlocks := B.notSynchronized
  subst hsz
  have hD := hD0.self (sz := s.heap.size)
  generalize hAe : va_A [(s0, .inr (5, [.ref h0, .ref sc0, .ref kp0, .ref a0, .ref q0, .ref d0, .ref c0, .ref ta0, .int km, .int rf])), (h0, .inr (3, [.ref h1, .int (nI K)])), (h1, .inl (cI, 16, .inl f)), (ta0, .inl (cI, 8, .inl ta))] s.heap.size = A at hD ⊢
  have hA : ∀ q : Nat, s.heap.size ≤ q → A q := fun q h => by rw [← hAe]; exact Or.inr h
  have hS : va_S A s.heap s.heap [] := va_S.rf
  have hl := lv_entry ([.ref s0, .int length]) (n := 4) (Nat.le_of_ble_eq_true rfl)
  rw [lg_entry_eq]
  generalize (lg_sl ([.ref s0, .int length]) ++ List.replicate (4 - (lg_sl ([.ref s0, .int length])).length) Slot.unset).toArray = ls at hl ⊢
  have hl : lv_has ls 4 [(0, .ref s0), (1, .int length)] := hl
  obtain ⟨ρ, hρ⟩ : ∃ ρ : Int32 × (Nat → Int32), ρ = P_shortRings K f ta length := ⟨_, rfl⟩
  have hr : P_shortRings K f ta length = ρ := hρ.symm
  rewrite [P_shortRings] at hr
  refine lv_aload_n hx hb dX6_shortRings_0 rfl (lv_at hl 0 rfl) ?_
  refine lv_iload_n hx hb dX6_shortRings_1 rfl (lv_at hl 1 rfl) ?_
  refine lv_iconst (v := 1) hx hb dX6_shortRings_2 (by decide) ?_
  refine lv_isub hx hb dX6_shortRings_3 ?_
  refine kCallV (wr := []) (va_runV (As := [.int (length - (1 : Int32))]) (rest := []) ⟨hx, hb, hml, hown, hts⟩ (k_X6_countRings l dC dI cI cN s0 sc0 kp0 ta0 km rf a0 q0 d0 c0 h0 h1 K f ta (length - (1 : Int32)) (by first | assumption | omega | exact Int32.le_refl _ | decide) _) (cwV 1 hts gX6_shortRings_X6_countRings rfl rfl rfl (by decide +kernel) ⟨Nat.le_of_ble_eq_true rfl, Nat.le_of_ble_eq_true rfl⟩) (kU_V hP hK hD hN (ci := 5) (q0 := 0) rfl rfl [0, 1, 2, 3] rfl rfl rfl) rfl rfl hl.1 rfl (lv_room (Nat.le_of_ble_eq_true rfl)) dX6_shortRings_4 ⟨Nat.zero_le _, Nat.zero_le _⟩) hP hD hS hA [0, 1, 2, 3] [] rfl rfl rfl rfl (by decide) rfl (fun H locs hP hD hS => ?_)
  obtain ⟨r_1, er_1⟩ : ∃ y : Nat → Int32, y = (P_countRings K f ta (length - (1 : Int32))) := ⟨_, rfl⟩
  try rw [← er_1] at hP hD
  have hr := bd_to hr er_1
  have hP : va_P (dC, dI) kCl [(s0, .inr (5, [.ref h0, .ref sc0, .ref kp0, .ref a0, .ref q0, .ref d0, .ref c0, .ref ta0, .int km, .int rf])), (h0, .inr (3, [.ref h1, .int (nI K)])), (h1, .inl (cI, 16, .inl f)), (ta0, .inl (cI, 8, .inl r_1))] H := hP.sub [0, 1, 2, 3] rfl
  have hD : va_D A [(s0, .inr (5, [.ref h0, .ref sc0, .ref kp0, .ref a0, .ref q0, .ref d0, .ref c0, .ref ta0, .int km, .int rf])), (h0, .inr (3, [.ref h1, .int (nI K)])), (h1, .inl (cI, 16, .inl f)), (ta0, .inl (cI, 8, .inl r_1))] := hD.sub [0, 1, 2, 3] (by decide) rfl
  refine lv_iconst (v := 0) hx hb dX6_shortRings_7 (by decide) ?_
  refine lv_istore_n (lv' := [(2, .int 0), (0, .ref s0), (1, .int length)]) hx hb dX6_shortRings_8 rfl hl (by decide) rfl (fun ls hl => ?_)
  refine lv_iconst (v := 3) hx hb dX6_shortRings_9 (by decide) ?_
  refine lv_istore_n (lv' := [(3, .int 3), (2, .int 0), (0, .ref s0), (1, .int length)]) hx hb dX6_shortRings_10 rfl hl (by decide) rfl (fun ls hl => ?_)
  have ex_11 : ∀ (many : Int32) (tz : Nat → Int32) (H : Heap) (locs : List Loc) (ls : Array Slot), ((many, tz)) = ρ → va_P (dC, dI) kCl [(s0, .inr (5, [.ref h0, .ref sc0, .ref kp0, .ref a0, .ref q0, .ref d0, .ref c0, .ref ta0, .int km, .int rf])), (h0, .inr (3, [.ref h1, .int (nI K)])), (h1, .inl (cI, 16, .inl f)), (ta0, .inl (cI, 8, .inl tz))] H → va_D A [(s0, .inr (5, [.ref h0, .ref sc0, .ref kp0, .ref a0, .ref q0, .ref d0, .ref c0, .ref ta0, .int km, .int rf])), (h0, .inr (3, [.ref h1, .int (nI K)])), (h1, .inl (cI, 16, .inl f)), (ta0, .inl (cI, 8, .inl tz))] → va_S A s.heap H locs → lv_has ls 4 [(2, .int many), (0, .ref s0), (1, .int length)] → W p l e (headSpec wsX6_shortRings rm_X6_shortRings).room s m (([.ref s0, .int length] : List Value).toArray) below meth c H locs 0 0 (MQ below (kVi dC dI (P_shortRings K f ta length).1 [(s0, .inr (5, [.ref h0, .ref sc0, .ref kp0, .ref a0, .ref q0, .ref d0, .ref c0, .ref ta0, .int km, .int rf])), (h0, .inr (3, [.ref h1, .int (nI K)])), (h1, .inl (cI, 16, .inl f)), (ta0, .inl (cI, 8, .inl ((P_shortRings K f ta length).2)))] A) (([.ref s0, .int length] : List Value).toArray) s 0 0 A) (F0 m 30 ls []) := by
    intro many tz H locs ls hr hP hD hS hl
    refine lv_iload_n hx hb dX6_shortRings_30 rfl (lv_at hl 0 rfl) ?_
    have he := hr.trans hρ
    exact W.iret (v := many) hx hb hr0 (fun t ht hW => kVi_end (by rw [← he]) (by rw [← he]; exact hP) hS ht) hS.2.2 dX6_shortRings_31
  have lp_11 : ∀ (n_11 : Nat) (shorter : Int32) (many : Int32) (tz : Nat → Int32) (H : Heap) (locs : List Loc) (ls : Array Slot), ((length).toInt - shorter.toInt).toNat = n_11 → L_shortRings_11 length (fun many tz => (many, tz)) n_11 shorter many tz = ρ → va_P (dC, dI) kCl [(s0, .inr (5, [.ref h0, .ref sc0, .ref kp0, .ref a0, .ref q0, .ref d0, .ref c0, .ref ta0, .int km, .int rf])), (h0, .inr (3, [.ref h1, .int (nI K)])), (h1, .inl (cI, 16, .inl f)), (ta0, .inl (cI, 8, .inl tz))] H → va_D A [(s0, .inr (5, [.ref h0, .ref sc0, .ref kp0, .ref a0, .ref q0, .ref d0, .ref c0, .ref ta0, .int km, .int rf])), (h0, .inr (3, [.ref h1, .int (nI K)])), (h1, .inl (cI, 16, .inl f)), (ta0, .inl (cI, 8, .inl tz))] → va_S A s.heap H locs → lv_has ls 4 [(3, .int shorter), (2, .int many), (0, .ref s0), (1, .int length)] → W p l e (headSpec wsX6_shortRings rm_X6_shortRings).room s m (([.ref s0, .int length] : List Value).toArray) below meth c H locs 0 0 (MQ below (kVi dC dI (P_shortRings K f ta length).1 [(s0, .inr (5, [.ref h0, .ref sc0, .ref kp0, .ref a0, .ref q0, .ref d0, .ref c0, .ref ta0, .int km, .int rf])), (h0, .inr (3, [.ref h1, .int (nI K)])), (h1, .inl (cI, 16, .inl f)), (ta0, .inl (cI, 8, .inl ((P_shortRings K f ta length).2)))] A) (([.ref s0, .int length] : List Value).toArray) s 0 0 A) (F0 m 11 ls []) := by
    intro n_11
    induction n_11 with
    | zero =>
      intro shorter many tz H locs ls hi hr hP hD hS hl
      rewrite [L_shortRings_11] at hr
      refine lv_iload_n hx hb dX6_shortRings_11 rfl (lv_at hl 0 rfl) ?_
      refine lv_iload_n hx hb dX6_shortRings_12 rfl (lv_at hl 3 rfl) ?_
      refine lv_icmp_ge (tgt := 30) hx hb dX6_shortRings_13 (by decide) (fun c_2 => ?_) (fun c_2 => ?_)
      · exact ex_11 many tz _ _ _ hr hP hD hS (lv_sub hl [1, 2, 3] rfl)
      · exact absurd (kUp0 hi) c_2
    | succ n_11 ih_11 =>
      intro shorter many tz H locs ls hi hr hP hD hS hl
      rewrite [L_shortRings_11] at hr
      refine lv_iload_n hx hb dX6_shortRings_11 rfl (lv_at hl 0 rfl) ?_
      refine lv_iload_n hx hb dX6_shortRings_12 rfl (lv_at hl 3 rfl) ?_
      refine lv_icmp_ge (tgt := 30) hx hb dX6_shortRings_13 (by decide) (fun c_3 => ?_) (fun c_3 => ?_)
      · exact absurd c_3 (kUpS hi)
      · refine lv_iload_n hx hb dX6_shortRings_16 rfl (lv_at hl 1 rfl) ?_
        refine lv_aload_n hx hb dX6_shortRings_17 rfl (lv_at hl 2 rfl) ?_
        refine lv_iload_n hx hb dX6_shortRings_18 rfl (lv_at hl 0 rfl) ?_
        refine kCall (va_runV (As := [.int shorter]) (rest := [.int many]) ⟨hx, hb, hml, hown, hts⟩ (k_X6_tallied l dC dI cI cN h0 s0 sc0 kp0 ta0 km rf a0 q0 d0 c0 tz shorter) (cwV 1 hts gX6_shortRings_X6_tallied rfl rfl rfl (by decide +kernel) ⟨Nat.le_of_ble_eq_true rfl, Nat.le_of_ble_eq_true rfl⟩) (kW_V hP hK hD hN (ci := 5) (q0 := 0) rfl rfl [0, 3] rfl rfl rfl) rfl rfl hl.1 rfl (lv_room (Nat.le_of_ble_eq_true rfl)) dX6_shortRings_19 ⟨Nat.zero_le _, Nat.zero_le _⟩) hP hS (fun H locs hP hS => ?_)
        refine lv_iadd hx hb dX6_shortRings_22 ?_
        refine lv_topi (fun many_4 emany_4 => ?_)
        have hr := bd_to hr emany_4
        refine lv_istore_n (lv' := [(2, .int many_4), (3, .int shorter), (0, .ref s0), (1, .int length)]) hx hb dX6_shortRings_23 rfl hl (by decide) rfl (fun ls hl => ?_)
        refine lv_iinc (v := shorter + 1) (lv' := [(3, .int (shorter + 1)), (2, .int many_4), (0, .ref s0), (1, .int length)]) hx hb dX6_shortRings_24 hl (k := 1) rfl rfl (by decide) rfl (fun ls hl => ?_)
        refine lv_goto (tgt := 11) hx hb dX6_shortRings_27 (by decide) ?_
        exact ih_11 (shorter + 1) many_4 tz _ _ _ (kUpN hi) hr hP hD hS (lv_sub hl [0, 1, 2, 3] rfl)
  exact lp_11 (((length).toInt - ((3 : Int32)).toInt).toNat) 3 0 r_1 _ _ _ rfl hr hP hD hS (lv_sub hl [0, 1, 2, 3] rfl)
def P_rings (K : Nat) (f : Nat → Int32) (ta : Nat → Int32) (length : Int32) : (Int32 × (Nat → Int32)) ⊕ Nat :=
  if (P_isWithin length 3 7) = 0 then
    Sum.inr 1
  else
    bd (P_countRings K f ta length) (fun r_2 =>
      Sum.inl (P_tallied r_2 length, r_2))
abbrev rm_X6_rings : Room := { frames := 10, cells := 0, slots := 0, locals := 267 }
set_option maxHeartbeats 4000000 in
set_option maxRecDepth 100000 in
theorem k_X6_rings (l : Launch) (dC : Nat → ClassId) (dI : Nat → Nat → Nat) (cI cN : ClassId) (s0 : Nat) (sc0 : Nat) (kp0 : Nat) (ta0 : Nat) (km : Int32) (rf : Int32) (a0 : Nat) (q0 : Nat) (d0 : Nat) (c0 : Nat) (h0 : Nat) (h1 : Nat) (K : Nat) (f : Nat → Int32) (ta : Nat → Int32) (length : Int32) (hK : K ≤ 16) (sz : Nat) (v : Int32 × (Nat → Int32)) (hok : P_rings K f ta length = .inl v) : Met l yX6_rings wsX6_rings rm_X6_rings (va_Pc [.ref s0, .int length] (kU dC dI cI cN [(s0, .inr (5, [.ref h0, .ref sc0, .ref kp0, .ref a0, .ref q0, .ref d0, .ref c0, .ref ta0, .int km, .int rf])), (h0, .inr (3, [.ref h1, .int (nI K)])), (h1, .inl (cI, 16, .inl f)), (ta0, .inl (cI, 8, .inl ta))] sz)) (kVi dC dI v.1 [(s0, .inr (5, [.ref h0, .ref sc0, .ref kp0, .ref a0, .ref q0, .ref d0, .ref c0, .ref ta0, .int km, .int rf])), (h0, .inr (3, [.ref h1, .int (nI K)])), (h1, .inl (cI, 16, .inl f)), (ta0, .inl (cI, 8, .inl (v.2)))] (va_A [(s0, .inr (5, [.ref h0, .ref sc0, .ref kp0, .ref a0, .ref q0, .ref d0, .ref c0, .ref ta0, .int km, .int rf])), (h0, .inr (3, [.ref h1, .int (nI K)])), (h1, .inl (cI, 16, .inl f)), (ta0, .inl (cI, 8, .inl ta))] sz)) 0 0 (va_A [(s0, .inr (5, [.ref h0, .ref sc0, .ref kp0, .ref a0, .ref q0, .ref d0, .ref c0, .ref ta0, .int km, .int rf])), (h0, .inr (3, [.ref h1, .int (nI K)])), (h1, .inl (cI, 16, .inl f)), (ta0, .inl (cI, 8, .inl ta))] sz) := by
  refine Met.ofW (cc := cX6_rings) (maxL := 2) (ret := (some .int)) (by decide) rfl ?_
  intro p e s m args below meth c s₁ B hml hv
  obtain ⟨rfl, hsz, hP, hK, hD0, hN⟩ := hv
  have hx := B.exec
  have hb := B.bytes
  have hr0 := B.returns
  have hts := atoms_spec (ws := wsX6_rings) B.pre
  have hown : s.vm.findClass RX6 = some m.cls := findClass_of_methodNamed B.named
  have hlocks := B.notSynchronized
  subst hsz
  have hD := hD0.self (sz := s.heap.size)
  generalize hAe : va_A [(s0, .inr (5, [.ref h0, .ref sc0, .ref kp0, .ref a0, .ref q0, .ref d0, .ref c0, .ref ta0, .int km, .int rf])), (h0, .inr (3, [.ref h1, .int (nI K)])), (h1, .inl (cI, 16, .inl f)), (ta0, .inl (cI, 8, .inl ta))] s.heap.size = A at hD ⊢
  have hA : ∀ q : Nat, s.heap.size ≤ q → A q := fun q h => by rw [← hAe]; exact Or.inr h
  have hS : va_S A s.heap s.heap [] := va_S.rf
  have hl := lv_entry ([.ref s0, .int length]) (n := 2) (Nat.le_of_ble_eq_true rfl)
  rw [lg_entry_eq]
  generalize (lg_sl ([.ref s0, .int length]) ++ List.replicate (2 - (lg_sl ([.ref s0, .int length])).length) Slot.unset).toArray = ls at hl ⊢
  have hl : lv_has ls 2 [(0, .ref s0), (1, .int length)] := hl
  obtain ⟨ρ, hρ⟩ : ∃ ρ : (Int32 × (Nat → Int32)) ⊕ Nat, ρ = P_rings K f ta length := ⟨_, rfl⟩
  have hr : P_rings K f ta length = ρ := hρ.symm
  rewrite [P_rings] at hr
  refine lv_iload_n hx hb dX6_rings_0 rfl (lv_at hl 1 rfl) ?_
  refine lv_iconst (v := 3) hx hb dX6_rings_1 (by decide) ?_
  refine lv_bipush (v := 7) hx hb dX6_rings_2 (by decide) ?_
  refine kCall (va_runS (As := [.int length, .int 3, .int 7]) (rest := []) ⟨hx, hb, hml, hown, hts⟩ (k_X6_isWithin l dC dI cI cN length 3 7) (va_cwS 3 hts gX6_rings_X6_isWithin rfl rfl rfl (by decide +kernel) ⟨Nat.le_of_ble_eq_true rfl, Nat.le_of_ble_eq_true rfl⟩) (kW_S hP hK hD hN [] rfl rfl rfl) rfl rfl hl.1 rfl (lv_room (Nat.le_of_ble_eq_true rfl)) dX6_rings_4 ⟨Nat.zero_le _, Nat.zero_le _⟩) hP hS (fun H locs hP hS => ?_)
  refine lv_if_ne (tgt := 21) hx hb dX6_rings_7 (by decide) (fun c_1 => ?_) (fun c_1 => ?_)
  · have hr := if_no hr c_1
    refine lv_aload_n hx hb dX6_rings_21 rfl (lv_at hl 0 rfl) ?_
    refine lv_iload_n hx hb dX6_rings_22 rfl (lv_at hl 1 rfl) ?_
    refine kCallV (wr := []) (va_runV (As := [.int length]) (rest := []) ⟨hx, hb, hml, hown, hts⟩ (k_X6_countRings l dC dI cI cN s0 sc0 kp0 ta0 km rf a0 q0 d0 c0 h0 h1 K f ta length (by first | assumption | omega | exact Int32.le_refl _ | decide) _) (cwV 1 hts gX6_rings_X6_countRings rfl rfl rfl (by decide +kernel) ⟨Nat.le_of_ble_eq_true rfl, Nat.le_of_ble_eq_true rfl⟩) (kU_V hP hK hD hN (ci := 5) (q0 := 0) rfl rfl [0, 1, 2, 3] rfl rfl rfl) rfl rfl hl.1 rfl (lv_room (Nat.le_of_ble_eq_true rfl)) dX6_rings_23 ⟨Nat.zero_le _, Nat.zero_le _⟩) hP hD hS hA [0, 1, 2, 3] [] rfl rfl rfl rfl (by decide) rfl (fun H locs hP hD hS => ?_)
    obtain ⟨r_2, er_2⟩ : ∃ y : Nat → Int32, y = (P_countRings K f ta length) := ⟨_, rfl⟩
    try rw [← er_2] at hP hD
    have hr := bd_to hr er_2
    have hP : va_P (dC, dI) kCl [(s0, .inr (5, [.ref h0, .ref sc0, .ref kp0, .ref a0, .ref q0, .ref d0, .ref c0, .ref ta0, .int km, .int rf])), (h0, .inr (3, [.ref h1, .int (nI K)])), (h1, .inl (cI, 16, .inl f)), (ta0, .inl (cI, 8, .inl r_2))] H := hP.sub [0, 1, 2, 3] rfl
    have hD : va_D A [(s0, .inr (5, [.ref h0, .ref sc0, .ref kp0, .ref a0, .ref q0, .ref d0, .ref c0, .ref ta0, .int km, .int rf])), (h0, .inr (3, [.ref h1, .int (nI K)])), (h1, .inl (cI, 16, .inl f)), (ta0, .inl (cI, 8, .inl r_2))] := hD.sub [0, 1, 2, 3] (by decide) rfl
    refine lv_aload_n hx hb dX6_rings_26 rfl (lv_at hl 0 rfl) ?_
    refine lv_iload_n hx hb dX6_rings_27 rfl (lv_at hl 1 rfl) ?_
    refine kCall (va_runV (As := [.int length]) (rest := []) ⟨hx, hb, hml, hown, hts⟩ (k_X6_tallied l dC dI cI cN h0 s0 sc0 kp0 ta0 km rf a0 q0 d0 c0 r_2 length) (cwV 1 hts gX6_rings_X6_tallied rfl rfl rfl (by decide +kernel) ⟨Nat.le_of_ble_eq_true rfl, Nat.le_of_ble_eq_true rfl⟩) (kW_V hP hK hD hN (ci := 5) (q0 := 0) rfl rfl [0, 3] rfl rfl rfl) rfl rfl hl.1 rfl (lv_room (Nat.le_of_ble_eq_true rfl)) dX6_rings_28 ⟨Nat.zero_le _, Nat.zero_le _⟩) hP hS (fun H locs hP hS => ?_)
    have he := Sum.inl.inj (hr.trans (hρ.trans hok))
    subst he
    exact W.iret (v := P_tallied r_2 length) hx hb hr0 (fun t ht hW => kVi_end rfl hP hS ht) hS.2.2 dX6_rings_31
  · have hr := if_to hr c_1
    cases hr.trans (hρ.trans hok)
theorem gfX6_rings_1 : ∀ w ∈ (vx_atS RX6 70 (kCls 1) kNs).filter goodWord, w ∈ wsX6_rings := fun w h => List.mem_cons_of_mem _ (List.mem_append_right _ h)
abbrev rx_X6_rings : Room := { frames := 10, cells := 1, slots := 6, locals := 267 }
set_option maxHeartbeats 4000000 in
set_option maxRecDepth 100000 in
theorem e_X6_rings (l : Launch) (hl9 : l.stackTraces = false) (dC : Nat → ClassId) (dI : Nat → Nat → Nat) (cI cN : ClassId) (s0 : Nat) (sc0 : Nat) (kp0 : Nat) (ta0 : Nat) (km : Int32) (rf : Int32) (a0 : Nat) (q0 : Nat) (d0 : Nat) (c0 : Nat) (h0 : Nat) (h1 : Nat) (K : Nat) (f : Nat → Int32) (ta : Nat → Int32) (length : Int32) (hK : K ≤ 16) (kx : Nat) (hex : P_rings K f ta length = .inr kx) : vx_Met l yX6_rings wsX6_rings rx_X6_rings (va_Pc [.ref s0, .int length] (kWE dC dI cI cN [(s0, .inr (5, [.ref h0, .ref sc0, .ref kp0, .ref a0, .ref q0, .ref d0, .ref c0, .ref ta0, .int km, .int rf])), (h0, .inr (3, [.ref h1, .int (nI K)])), (h1, .inl (cI, 16, .inl f)), (ta0, .inl (cI, 8, .inl ta))])) kNoi (kX kx) 1 6 (fun _ => False) := by
  refine vx_ofW (cc := cX6_rings) (maxL := 2) (ret := (some .int)) (by decide) rfl ?_
  intro p e s m args below meth c s₁ B hml hxt hv
  obtain ⟨rfl, ⟨hP, hK, hD, hN⟩, hE⟩ := hv
  have hx := B.exec
  have hb := B.bytes
  have hr0 := B.returns
  have hts := atoms_spec (ws := wsX6_rings) B.pre
  have hown : s.vm.findClass RX6 = some m.cls := findClass_of_methodNamed B.named
  have hlocks := B.notSynchronized
  have hS : va_S (fun _ => False) s.heap s.heap [] := va_S.rf
  have hl := lv_entry ([.ref s0, .int length]) (n := 2) (Nat.le_of_ble_eq_true rfl)
  rw [lg_entry_eq]
  generalize (lg_sl ([.ref s0, .int length]) ++ List.replicate (2 - (lg_sl ([.ref s0, .int length])).length) Slot.unset).toArray = ls at hl ⊢
  have hl : lv_has ls 2 [(0, .ref s0), (1, .int length)] := hl
  obtain ⟨ρ, hρ⟩ : ∃ ρ : (Int32 × (Nat → Int32)) ⊕ Nat, ρ = P_rings K f ta length := ⟨_, rfl⟩
  have hr : P_rings K f ta length = ρ := hρ.symm
  rewrite [P_rings] at hr
  refine lv_iload_n hx hb dX6_rings_0 rfl (lv_at hl 1 rfl) ?_
  refine lv_iconst (v := 3) hx hb dX6_rings_1 (by decide) ?_
  refine lv_bipush (v := 7) hx hb dX6_rings_2 (by decide) ?_
  refine kCall (va_runS (As := [.int length, .int 3, .int 7]) (rest := []) ⟨hx, hb, hml, hown, hts⟩ (k_X6_isWithin l dC dI cI cN length 3 7) (va_cwS 3 hts gX6_rings_X6_isWithin rfl rfl rfl (by decide +kernel) ⟨Nat.le_of_ble_eq_true rfl, Nat.le_of_ble_eq_true rfl⟩) (kW_S hP hK hD hN [] rfl rfl rfl) rfl rfl hl.1 rfl (lv_room (Nat.le_of_ble_eq_true rfl)) dX6_rings_4 ⟨Nat.zero_le _, Nat.zero_le _⟩) hP hS (fun H locs hP hS => ?_)
  refine lv_if_ne (tgt := 21) hx hb dX6_rings_7 (by decide) (fun c_1 => ?_) (fun c_1 => ?_)
  · have hr := if_no hr c_1
    refine lv_aload_n hx hb dX6_rings_21 rfl (lv_at hl 0 rfl) ?_
    refine lv_iload_n hx hb dX6_rings_22 rfl (lv_at hl 1 rfl) ?_
    exact kNoway (hr.trans (hρ.trans hex)) (by simp only [bd]; (repeat' split) <;> exact ⟨_, rfl⟩)
  · have hr := if_to hr c_1
    exact kThrowSW hx hb hl9 hown 1 (ik := 66) (is := 290) (ic := 70) (Sum.inr.inj (hr.trans (hρ.trans hex))) (by decide +kernel) (hts (.classLink RX6 66 "java/lang/IllegalArgumentException") (by decide +kernel)) (hts (.initialized "java/lang/IllegalArgumentException") (by decide +kernel)) 19 rfl (fun w h => hts w (gfX6_rings_1 w h)) kBad1 (kHg kOt1) hE hS (hl.1.trans hml.symm) dX6_rings_10 dX6_rings_13 dX6_rings_14 dX6_rings_17 dX6_rings_20 hxt (Nat.le_of_ble_eq_true rfl) (Nat.le_of_ble_eq_true rfl) (Nat.le_of_ble_eq_true rfl) (Nat.le_of_ble_eq_true rfl) hlocks
