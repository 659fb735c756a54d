/-! the object: mended (printed by wip/gen) -/
def L_mendByRounds_33 (K : Nat) (length : Int32) (rounds : Int32) (k : Int32 → Int32 → Int32 → Int32 → (Nat → Int32) → Nat → (Nat → Int32) → (Nat → Int32) → Int32 × (Nat → Int32) × Nat × (Nat → Int32) × (Nat → Int32)) : Nat → Nat → Int32 → Int32 → Int32 → Int32 → (Nat → Int32) → Nat → (Nat → Int32) → (Nat → Int32) → Int32 × (Nat → Int32) × Nat × (Nat → Int32) × (Nat → Int32)
  | 0, round, edges, swaps, shorts, z, fa, kz, fb, tz => k edges swaps shorts z fa kz fb tz
  | n + 1, round, edges, swaps, shorts, z, fa, kz, fb, tz =>
    bd (((z * (1103515245 : Int32)) + (12345 : Int32)) &&& (2147483647 : Int32)) (fun z_1 =>
      bd (P_edgeAt K fa ((z_1 / (7 : Int32)) - (z_1 / (7 : Int32)) / edges * edges)) (fun pair_2 =>
        if (z_1 - z_1 / (2 : Int32) * (2 : Int32)) = (1 : Int32) then
          bd (P_turned (P_edgeAt K fa ((z_1 / (1024 : Int32)) - (z_1 / (1024 : Int32)) / edges * edges)) 1) (fun pairToo_3 =>
            if (P_canExchange fa pair_2 pairToo_3) = 0 then
              L_mendByRounds_33 K length rounds k n (round + 1) edges swaps shorts z_1 fa kz fb tz
            else
              bd (P_take fb fa) (fun r_4 =>
                bd (P_exchange K fa pair_2 pairToo_3) (fun r_5 =>
                  bd (P_shortRings K r_5 tz length) (fun r_6 =>
                    bd (r_6.1) (fun then__7 =>
                      if shorts ≤ then__7 then
                        bd (P_take r_5 r_4) (fun r_8 =>
                          L_mendByRounds_33 K length rounds k n (round + 1) edges swaps shorts z_1 r_8 K r_4 r_6.2)
                      else
                        L_mendByRounds_33 K length rounds k n (round + 1) edges (swaps + 1) then__7 z_1 r_5 K r_4 r_6.2)))))
        else
          bd (P_turned (P_edgeAt K fa ((z_1 / (1024 : Int32)) - (z_1 / (1024 : Int32)) / edges * edges)) 0) (fun pairToo_9 =>
            if (P_canExchange fa pair_2 pairToo_9) = 0 then
              L_mendByRounds_33 K length rounds k n (round + 1) edges swaps shorts z_1 fa kz fb tz
            else
              bd (P_take fb fa) (fun r_10 =>
                bd (P_exchange K fa pair_2 pairToo_9) (fun r_11 =>
                  bd (P_shortRings K r_11 tz length) (fun r_12 =>
                    bd (r_12.1) (fun then__13 =>
                      if shorts ≤ then__13 then
                        bd (P_take r_11 r_10) (fun r_14 =>
                          L_mendByRounds_33 K length rounds k n (round + 1) edges swaps shorts z_1 r_14 K r_10 r_12.2)
                      else
                        L_mendByRounds_33 K length rounds k n (round + 1) edges (swaps + 1) then__13 z_1 r_11 K r_10 r_12.2)))))))
def P_mendByRounds (K : Nat) (f : Nat → Int32) (KS : Nat) (fs : Nat → Int32) (ta : Nat → Int32) (length : Int32) (seed : Int32) (rounds : Int32) : Int32 × (Nat → Int32) × Nat × (Nat → Int32) × (Nat → Int32) :=
  bd (P_edgesInAll K f) (fun edges_1 =>
    if (1 : Int32) ≤ edges_1 then
      bd (P_shortRings K f ta length) (fun r_3 =>
        bd (r_3.1) (fun shorts_4 =>
          L_mendByRounds_33 K length rounds (fun edges swaps shorts z fa kz fb tz => (swaps, fa, kz, fb, tz)) rounds.toNatClampNeg 0 edges_1 0 shorts_4 seed f KS fs r_3.2))
    else
      (0, f, KS, fs, ta))
abbrev rm_X6_mendByRounds : Room := { frames := 11, cells := 0, slots := 0, locals := 290 }
set_option maxHeartbeats 4000000 in
set_option maxRecDepth 100000 in
theorem k_X6_mendByRounds (l : Launch) (dC : Nat → ClassId) (dI : Nat → Nat → Nat) (cI cN : ClassId) (s0 : Nat) (kp0 : Nat) (ta0 : Nat) (km : Int32) (rf : Int32) (a0 : Nat) (q0 : Nat) (d0 : Nat) (c0 : Nat) (h0 : Nat) (h1 : Nat) (K : Nat) (f : Nat → Int32) (sc0 : Nat) (sc1 : Nat) (KS : Nat) (fs : Nat → Int32) (ta : Nat → Int32) (length : Int32) (seed : Int32) (rounds : Int32) (hK : K ≤ 16) (sz : Nat) : Met l yX6_mendByRounds wsX6_mendByRounds rm_X6_mendByRounds (va_Pc [.ref s0, .int length, .int seed, .int rounds] (kU dC dI cI cN [(s0, .inr (5, [.ref h0, .ref sc0, .ref kp0, .ref a0, .ref q0, .ref d0, .ref c0, .ref ta0, .int km, .int rf])), (h0, .inr (3, [.ref h1, .int (nI K)])), (h1, .inl (cI, 16, .inl f)), (sc0, .inr (3, [.ref sc1, .int (nI KS)])), (sc1, .inl (cI, 16, .inl fs)), (ta0, .inl (cI, 8, .inl ta))] sz)) (kVi dC dI (P_mendByRounds K f KS fs ta length seed rounds).1 [(s0, .inr (5, [.ref h0, .ref sc0, .ref kp0, .ref a0, .ref q0, .ref d0, .ref c0, .ref ta0, .int km, .int rf])), (h0, .inr (3, [.ref h1, .int (nI K)])), (h1, .inl (cI, 16, .inl ((P_mendByRounds K f KS fs ta length seed rounds).2.1))), (sc0, .inr (3, [.ref sc1, .int (nI ((P_mendByRounds K f KS fs ta length seed rounds).2.2.1))])), (sc1, .inl (cI, 16, .inl ((P_mendByRounds K f KS fs ta length seed rounds).2.2.2.1))), (ta0, .inl (cI, 8, .inl ((P_mendByRounds K f KS fs ta length seed rounds).2.2.2.2)))] (va_A [(s0, .inr (5, [.ref h0, .ref sc0, .ref kp0, .ref a0, .ref q0, .ref d0, .ref c0, .ref ta0, .int km, .int rf])), (h0, .inr (3, [.ref h1, .int (nI K)])), (h1, .inl (cI, 16, .inl f)), (sc0, .inr (3, [.ref sc1, .int (nI KS)])), (sc1, .inl (cI, 16, .inl fs)), (ta0, .inl (cI, 8, .inl ta))] sz)) 0 0 (va_A [(s0, .inr (5, [.ref h0, .ref sc0, .ref kp0, .ref a0, .ref q0, .ref d0, .ref c0, .ref ta0, .int km, .int rf])), (h0, .inr (3, [.ref h1, .int (nI K)])), (h1, .inl (cI, 16, .inl f)), (sc0, .inr (3, [.ref sc1, .int (nI KS)])), (sc1, .inl (cI, 16, .inl fs)), (ta0, .inl (cI, 8, .inl ta))] sz) := by
  refine Met.ofW (cc := cX6_mendByRounds) (maxL := 12) (ret := (some .int)) (by decide) rfl ?_
  intro p e s m args below meth c s₁ B hml hv
  obtain ⟨rfl, hsz, hP, hK, hD0, hN⟩ := hv
  have hx := B.exec
  have hb := B.bytes
  have hr0 := B.returns
  have hts := atoms_spec (ws := wsX6_mendByRounds) B.pre
  have hown : s.vm.findClass RX6 = some m.cls := findClass_of_methodNamed B.named
  have hlocks := B.notSynchronized
  subst hsz
  have hD := hD0.self (sz := s.heap.size)
  generalize hAe : va_A [(s0, .inr (5, [.ref h0, .ref sc0, .ref kp0, .ref a0, .ref q0, .ref d0, .ref c0, .ref ta0, .int km, .int rf])), (h0, .inr (3, [.ref h1, .int (nI K)])), (h1, .inl (cI, 16, .inl f)), (sc0, .inr (3, [.ref sc1, .int (nI KS)])), (sc1, .inl (cI, 16, .inl fs)), (ta0, .inl (cI, 8, .inl ta))] s.heap.size = A at hD ⊢
  have hA : ∀ q : Nat, s.heap.size ≤ q → A q := fun q h => by rw [← hAe]; exact Or.inr h
  have hS : va_S A s.heap s.heap [] := va_S.rf
  have hl := lv_entry ([.ref s0, .int length, .int seed, .int rounds]) (n := 12) (Nat.le_of_ble_eq_true rfl)
  rw [lg_entry_eq]
  generalize (lg_sl ([.ref s0, .int length, .int seed, .int rounds]) ++ List.replicate (12 - (lg_sl ([.ref s0, .int length, .int seed, .int rounds])).length) Slot.unset).toArray = ls at hl ⊢
  have hl : lv_has ls 12 [(0, .ref s0), (1, .int length), (2, .int seed), (3, .int rounds)] := hl
  obtain ⟨ρ, hρ⟩ : ∃ ρ : Int32 × (Nat → Int32) × Nat × (Nat → Int32) × (Nat → Int32), ρ = P_mendByRounds K f KS fs ta length seed rounds := ⟨_, rfl⟩
  have hr : P_mendByRounds K f KS fs ta length seed rounds = ρ := hρ.symm
  rewrite [P_mendByRounds] at hr
  refine lv_aload_n hx hb dX6_mendByRounds_0 rfl (lv_at hl 0 rfl) ?_
  refine va_get (D := (dC, dI)) (ci := 5) (v := .ref h0) (C := RX6) (T := TX6) (N := 10) hx hb hts (by decide +kernel) hown hK hP 0 rfl rfl 0 (by decide) (hts (.fieldLink RX6 12 "Shortring" "net" "LShortring$Net;") (by decide +kernel)) (fun _ h9 => h9) rfl dX6_mendByRounds_1 ?_
  refine kCall (va_runVN (As := []) (rest := []) ⟨hx, hb, hml, hown, hts⟩ (k_X3_edgesInAll l dC dI cI cN h0 h1 K f (by first | assumption | omega | exact Int32.le_refl _ | decide)) ⟨va_cnB 0 hts gX6_mendByRounds_X3_edgesInAll_n130 rfl rfl rfl (hN.1 13 _ rfl) (hts (.initialized RX3) (by decide +kernel)) (by decide +kernel) ⟨Nat.le_of_ble_eq_true rfl, Nat.le_of_ble_eq_true rfl⟩, hts (.instanceMethod yX3_edgesInAll) (by decide +kernel), hts (.selects RX3 yX3_edgesInAll yX3_edgesInAll) (by decide +kernel)⟩ (kW_V hP hK hD hN (ci := 3) (q0 := 1) rfl rfl [1, 2] rfl rfl rfl) rfl rfl hl.1 rfl (lv_room (Nat.le_of_ble_eq_true rfl)) dX6_mendByRounds_4 ⟨Nat.zero_le _, Nat.zero_le _⟩) hP hS (fun H locs hP hS => ?_)
  refine lv_topi (fun edges_1 eedges_1 => ?_)
  have hr := bd_to hr eedges_1
  refine lv_istore (lv' := [(4, .int edges_1), (0, .ref s0), (1, .int length), (2, .int seed), (3, .int rounds)]) hx hb dX6_mendByRounds_7 hl (by decide) rfl (fun ls hl => ?_)
  refine lv_iload hx hb dX6_mendByRounds_9 (lv_at hl 0 rfl) ?_
  refine lv_iconst (v := 1) hx hb dX6_mendByRounds_11 (by decide) ?_
  refine lv_icmp_ge (tgt := 17) hx hb dX6_mendByRounds_12 (by decide) (fun c_2 => ?_) (fun c_2 => ?_)
  · have hr := if_to hr c_2
    refine lv_iconst (v := 0) hx hb dX6_mendByRounds_17 (by decide) ?_
    refine lv_istore (lv' := [(5, .int 0), (4, .int edges_1), (0, .ref s0), (1, .int length), (2, .int seed), (3, .int rounds)]) hx hb dX6_mendByRounds_18 hl (by decide) rfl (fun ls hl => ?_)
    refine lv_aload_n hx hb dX6_mendByRounds_20 rfl (lv_at hl 2 rfl) ?_
    refine lv_iload_n hx hb dX6_mendByRounds_21 rfl (lv_at hl 3 rfl) ?_
    refine kCallVi (wr := [(sc0, .inr (3, [.ref sc1, .int (nI KS)])), (sc1, .inl (cI, 16, .inl fs))]) (va_runV (As := [.int length]) (rest := []) ⟨hx, hb, hml, hown, hts⟩ (k_X6_shortRings l dC dI cI cN s0 sc0 kp0 ta0 km rf a0 q0 d0 c0 h0 h1 K f ta length (by first | assumption | omega | exact Int32.le_refl _ | decide) _) (cwV 1 hts gX6_mendByRounds_X6_shortRings rfl rfl rfl (by decide +kernel) ⟨Nat.le_of_ble_eq_true rfl, Nat.le_of_ble_eq_true rfl⟩) (kU_V hP hK hD hN (ci := 5) (q0 := 0) rfl rfl [0, 1, 2, 5] rfl rfl rfl) rfl rfl hl.1 rfl (lv_room (Nat.le_of_ble_eq_true rfl)) dX6_mendByRounds_22 ⟨Nat.zero_le _, Nat.zero_le _⟩) hP hD hS hA [0, 1, 2, 5] [3, 4] rfl rfl rfl rfl (by decide) rfl (fun H locs hP hD hS => ?_)
    obtain ⟨r_3, er_3⟩ : ∃ y : Int32 × (Nat → Int32), y = (P_shortRings K f ta length) := ⟨_, rfl⟩
    rw [← er_3]
    try rw [← er_3] at hP hD
    have hr := bd_to hr er_3
    have hP : va_P (dC, dI) kCl [(s0, .inr (5, [.ref h0, .ref sc0, .ref kp0, .ref a0, .ref q0, .ref d0, .ref c0, .ref ta0, .int km, .int rf])), (h0, .inr (3, [.ref h1, .int (nI K)])), (h1, .inl (cI, 16, .inl f)), (sc0, .inr (3, [.ref sc1, .int (nI KS)])), (sc1, .inl (cI, 16, .inl fs)), (ta0, .inl (cI, 8, .inl r_3.2))] H := hP.sub [2, 3, 4, 0, 1, 5] rfl
    have hD : va_D A [(s0, .inr (5, [.ref h0, .ref sc0, .ref kp0, .ref a0, .ref q0, .ref d0, .ref c0, .ref ta0, .int km, .int rf])), (h0, .inr (3, [.ref h1, .int (nI K)])), (h1, .inl (cI, 16, .inl f)), (sc0, .inr (3, [.ref sc1, .int (nI KS)])), (sc1, .inl (cI, 16, .inl fs)), (ta0, .inl (cI, 8, .inl r_3.2))] := hD.sub [2, 3, 4, 0, 1, 5] (by decide) rfl
    refine lv_topi (fun shorts_4 eshorts_4 => ?_)
    have hr := bd_to hr eshorts_4
    refine lv_istore (lv' := [(6, .int shorts_4), (5, .int 0), (4, .int edges_1), (0, .ref s0), (1, .int length), (2, .int seed), (3, .int rounds)]) hx hb dX6_mendByRounds_25 hl (by decide) rfl (fun ls hl => ?_)
    refine lv_iload_n hx hb dX6_mendByRounds_27 rfl (lv_at hl 5 rfl) ?_
    refine lv_istore (lv' := [(7, .int seed), (6, .int shorts_4), (5, .int 0), (4, .int edges_1), (0, .ref s0), (1, .int length), (2, .int seed), (3, .int rounds)]) hx hb dX6_mendByRounds_28 hl (by decide) rfl (fun ls hl => ?_)
    refine lv_iconst (v := 0) hx hb dX6_mendByRounds_30 (by decide) ?_
    refine lv_istore (lv' := [(8, .int 0), (7, .int seed), (6, .int shorts_4), (5, .int 0), (4, .int edges_1), (0, .ref s0), (1, .int length), (2, .int seed), (3, .int rounds)]) hx hb dX6_mendByRounds_31 hl (by decide) rfl (fun ls hl => ?_)
    have ex_33 : ∀ (edges : Int32) (swaps : Int32) (shorts : Int32) (z : Int32) (fa : Nat → Int32) (kz : Nat) (fb : Nat → Int32) (tz : Nat → Int32) (H : Heap) (locs : List Loc) (ls : Array Slot), ((swaps, fa, kz, fb, tz)) = ρ → va_P (dC, dI) kCl [(s0, .inr (5, [.ref h0, .ref sc0, .ref kp0, .ref a0, .ref q0, .ref d0, .ref c0, .ref ta0, .int km, .int rf])), (h0, .inr (3, [.ref h1, .int (nI K)])), (h1, .inl (cI, 16, .inl fa)), (sc0, .inr (3, [.ref sc1, .int (nI kz)])), (sc1, .inl (cI, 16, .inl fb)), (ta0, .inl (cI, 8, .inl tz))] H → va_D A [(s0, .inr (5, [.ref h0, .ref sc0, .ref kp0, .ref a0, .ref q0, .ref d0, .ref c0, .ref ta0, .int km, .int rf])), (h0, .inr (3, [.ref h1, .int (nI K)])), (h1, .inl (cI, 16, .inl fa)), (sc0, .inr (3, [.ref sc1, .int (nI kz)])), (sc1, .inl (cI, 16, .inl fb)), (ta0, .inl (cI, 8, .inl tz))] → va_S A s.heap H locs → lv_has ls 12 [(4, .int edges), (5, .int swaps), (6, .int shorts), (7, .int z), (0, .ref s0), (1, .int length), (3, .int rounds)] → W p l e (headSpec wsX6_mendByRounds rm_X6_mendByRounds).room s m (([.ref s0, .int length, .int seed, .int rounds] : List Value).toArray) below meth c H locs 0 0 (MQ below (kVi dC dI (P_mendByRounds K f KS fs ta length seed rounds).1 [(s0, .inr (5, [.ref h0, .ref sc0, .ref kp0, .ref a0, .ref q0, .ref d0, .ref c0, .ref ta0, .int km, .int rf])), (h0, .inr (3, [.ref h1, .int (nI K)])), (h1, .inl (cI, 16, .inl ((P_mendByRounds K f KS fs ta length seed rounds).2.1))), (sc0, .inr (3, [.ref sc1, .int (nI ((P_mendByRounds K f KS fs ta length seed rounds).2.2.1))])), (sc1, .inl (cI, 16, .inl ((P_mendByRounds K f KS fs ta length seed rounds).2.2.2.1))), (ta0, .inl (cI, 8, .inl ((P_mendByRounds K f KS fs ta length seed rounds).2.2.2.2)))] A) (([.ref s0, .int length, .int seed, .int rounds] : List Value).toArray) s 0 0 A) (F0 m 177 ls []) := by
      intro edges swaps shorts z fa kz fb tz H locs ls hr hP hD hS hl
      refine lv_iload hx hb dX6_mendByRounds_177 (lv_at hl 1 rfl) ?_
      have he := hr.trans hρ
      exact W.iret (v := swaps) hx hb hr0 (fun t ht hW => kVi_end (by rw [← he]) (by rw [← he]; exact hP) hS ht) hS.2.2 dX6_mendByRounds_179
    have lp_33 : ∀ (n_33 round : Nat) (edges : Int32) (swaps : Int32) (shorts : Int32) (z : Int32) (fa : Nat → Int32) (kz : Nat) (fb : Nat → Int32) (tz : Nat → Int32) (H : Heap) (locs : List Loc) (ls : Array Slot), round + n_33 = rounds.toNatClampNeg → (¬ edges = 0) → L_mendByRounds_33 K length rounds (fun edges swaps shorts z fa kz fb tz => (swaps, fa, kz, fb, tz)) n_33 round edges swaps shorts z fa kz fb tz = ρ → va_P (dC, dI) kCl [(s0, .inr (5, [.ref h0, .ref sc0, .ref kp0, .ref a0, .ref q0, .ref d0, .ref c0, .ref ta0, .int km, .int rf])), (h0, .inr (3, [.ref h1, .int (nI K)])), (h1, .inl (cI, 16, .inl fa)), (sc0, .inr (3, [.ref sc1, .int (nI kz)])), (sc1, .inl (cI, 16, .inl fb)), (ta0, .inl (cI, 8, .inl tz))] H → va_D A [(s0, .inr (5, [.ref h0, .ref sc0, .ref kp0, .ref a0, .ref q0, .ref d0, .ref c0, .ref ta0, .int km, .int rf])), (h0, .inr (3, [.ref h1, .int (nI K)])), (h1, .inl (cI, 16, .inl fa)), (sc0, .inr (3, [.ref sc1, .int (nI kz)])), (sc1, .inl (cI, 16, .inl fb)), (ta0, .inl (cI, 8, .inl tz))] → va_S A s.heap H locs → lv_has ls 12 [(8, .int (nI round)), (4, .int edges), (5, .int swaps), (6, .int shorts), (7, .int z), (0, .ref s0), (1, .int length), (3, .int rounds)] → W p l e (headSpec wsX6_mendByRounds rm_X6_mendByRounds).room s m (([.ref s0, .int length, .int seed, .int rounds] : List Value).toArray) below meth c H locs 0 0 (MQ below (kVi dC dI (P_mendByRounds K f KS fs ta length seed rounds).1 [(s0, .inr (5, [.ref h0, .ref sc0, .ref kp0, .ref a0, .ref q0, .ref d0, .ref c0, .ref ta0, .int km, .int rf])), (h0, .inr (3, [.ref h1, .int (nI K)])), (h1, .inl (cI, 16, .inl ((P_mendByRounds K f KS fs ta length seed rounds).2.1))), (sc0, .inr (3, [.ref sc1, .int (nI ((P_mendByRounds K f KS fs ta length seed rounds).2.2.1))])), (sc1, .inl (cI, 16, .inl ((P_mendByRounds K f KS fs ta length seed rounds).2.2.2.1))), (ta0, .inl (cI, 8, .inl ((P_mendByRounds K f KS fs ta length seed rounds).2.2.2.2)))] A) (([.ref s0, .int length, .int seed, .int rounds] : List Value).toArray) s 0 0 A) (F0 m 33 ls []) := by
      intro n_33
      induction n_33 with
      | zero =>
        intro round edges swaps shorts z fa kz fb tz H locs ls hi hed hr hP hD hS hl
        rewrite [L_mendByRounds_33] at hr
        refine lv_iload hx hb dX6_mendByRounds_33 (lv_at hl 0 rfl) ?_
        refine lv_iload_n hx hb dX6_mendByRounds_35 rfl (lv_at hl 7 rfl) ?_
        refine lv_icmp_ge (tgt := 177) hx hb dX6_mendByRounds_36 (by decide) (fun c_5 => ?_) (fun c_5 => ?_)
        · exact ex_33 edges swaps shorts z fa kz fb tz _ _ _ hr hP hD hS (lv_sub hl [1, 2, 3, 4, 5, 6, 7] rfl)
        · exact absurd (kTopC (i := round) (by omega)) c_5
      | succ n_33 ih_33 =>
        intro round edges swaps shorts z fa kz fb tz H locs ls hi hed hr hP hD hS hl
        rewrite [L_mendByRounds_33] at hr
        refine lv_iload hx hb dX6_mendByRounds_33 (lv_at hl 0 rfl) ?_
        refine lv_iload_n hx hb dX6_mendByRounds_35 rfl (lv_at hl 7 rfl) ?_
        refine lv_icmp_ge (tgt := 177) hx hb dX6_mendByRounds_36 (by decide) (fun c_6 => ?_) (fun c_6 => ?_)
        · exact absurd c_6 (kLowC (i := round) (by omega))
        · refine lv_iload hx hb dX6_mendByRounds_39 (lv_at hl 4 rfl) ?_
          refine lv_ldcw (v := 1103515245) hx hb hown (hts (.constant RX6 395 (1103515245)) (by decide +kernel)) dX6_mendByRounds_41 ?_
          refine lv_imul hx hb dX6_mendByRounds_44 ?_
          refine lv_sipush (v := 12345) hx hb dX6_mendByRounds_45 (by decide) ?_
          refine lv_iadd hx hb dX6_mendByRounds_48 ?_
          refine lv_ldcw (v := 2147483647) hx hb hown (hts (.constant RX6 396 (2147483647)) (by decide +kernel)) dX6_mendByRounds_49 ?_
          refine lv_iand hx hb dX6_mendByRounds_52 ?_
          refine lv_topi (fun z_7 ez_7 => ?_)
          have hr := bd_to hr ez_7
          refine lv_istore (lv' := [(7, .int z_7), (8, .int (nI round)), (4, .int edges), (5, .int swaps), (6, .int shorts), (0, .ref s0), (1, .int length), (3, .int rounds)]) hx hb dX6_mendByRounds_53 hl (by decide) rfl (fun ls hl => ?_)
          refine lv_aload_n hx hb dX6_mendByRounds_55 rfl (lv_at hl 5 rfl) ?_
          refine va_get (D := (dC, dI)) (ci := 5) (v := .ref h0) (C := RX6) (T := TX6) (N := 10) hx hb hts (by decide +kernel) hown hK hP 0 rfl rfl 0 (by decide) (hts (.fieldLink RX6 12 "Shortring" "net" "LShortring$Net;") (by decide +kernel)) (fun _ h9 => h9) rfl dX6_mendByRounds_56 ?_
          refine lv_iload hx hb dX6_mendByRounds_59 (lv_at hl 0 rfl) ?_
          refine lv_bipush (v := 7) hx hb dX6_mendByRounds_61 (by decide) ?_
          refine lv_idiv hx hb dX6_mendByRounds_63 (by decide) ?_
          refine lv_iload hx hb dX6_mendByRounds_64 (lv_at hl 2 rfl) ?_
          refine lv_irem hx hb dX6_mendByRounds_66 hed ?_
          refine kCall (va_runVN (As := [.int ((z_7 / (7 : Int32)) - (z_7 / (7 : Int32)) / edges * edges)]) (rest := []) ⟨hx, hb, hml, hown, hts⟩ (k_X3_edgeAt l dC dI cI cN h0 h1 K fa ((z_7 / (7 : Int32)) - (z_7 / (7 : Int32)) / edges * edges) (by first | assumption | omega | exact Int32.le_refl _ | decide)) ⟨va_cnB 1 hts gX6_mendByRounds_X3_edgeAt_n153 rfl rfl rfl (hN.1 16 _ rfl) (hts (.initialized RX3) (by decide +kernel)) (by decide +kernel) ⟨Nat.le_of_ble_eq_true rfl, Nat.le_of_ble_eq_true rfl⟩, hts (.instanceMethod yX3_edgeAt) (by decide +kernel), hts (.selects RX3 yX3_edgeAt yX3_edgeAt) (by decide +kernel)⟩ (kW_V hP hK hD hN (ci := 3) (q0 := 1) rfl rfl [1, 2] rfl rfl rfl) rfl rfl hl.1 rfl (lv_room (Nat.le_of_ble_eq_true rfl)) dX6_mendByRounds_67 ⟨Nat.zero_le _, Nat.zero_le _⟩) hP hS (fun H locs hP hS => ?_)
          refine lv_topi (fun pair_8 epair_8 => ?_)
          have hr := bd_to hr epair_8
          refine lv_istore (lv' := [(9, .int pair_8), (7, .int z_7), (8, .int (nI round)), (4, .int edges), (5, .int swaps), (6, .int shorts), (0, .ref s0), (1, .int length), (3, .int rounds)]) hx hb dX6_mendByRounds_70 hl (by decide) rfl (fun ls hl => ?_)
          refine lv_aload_n hx hb dX6_mendByRounds_72 rfl (lv_at hl 6 rfl) ?_
          refine va_get (D := (dC, dI)) (ci := 5) (v := .ref h0) (C := RX6) (T := TX6) (N := 10) hx hb hts (by decide +kernel) hown hK hP 0 rfl rfl 0 (by decide) (hts (.fieldLink RX6 12 "Shortring" "net" "LShortring$Net;") (by decide +kernel)) (fun _ h9 => h9) rfl dX6_mendByRounds_73 ?_
          refine lv_iload hx hb dX6_mendByRounds_76 (lv_at hl 1 rfl) ?_
          refine lv_sipush (v := 1024) hx hb dX6_mendByRounds_78 (by decide) ?_
          refine lv_idiv hx hb dX6_mendByRounds_81 (by decide) ?_
          refine lv_iload hx hb dX6_mendByRounds_82 (lv_at hl 3 rfl) ?_
          refine lv_irem hx hb dX6_mendByRounds_84 hed ?_
          refine kCall (va_runVN (As := [.int ((z_7 / (1024 : Int32)) - (z_7 / (1024 : Int32)) / edges * edges)]) (rest := []) ⟨hx, hb, hml, hown, hts⟩ (k_X3_edgeAt l dC dI cI cN h0 h1 K fa ((z_7 / (1024 : Int32)) - (z_7 / (1024 : Int32)) / edges * edges) (by first | assumption | omega | exact Int32.le_refl _ | decide)) ⟨va_cnB 1 hts gX6_mendByRounds_X3_edgeAt_n153 rfl rfl rfl (hN.1 16 _ rfl) (hts (.initialized RX3) (by decide +kernel)) (by decide +kernel) ⟨Nat.le_of_ble_eq_true rfl, Nat.le_of_ble_eq_true rfl⟩, hts (.instanceMethod yX3_edgeAt) (by decide +kernel), hts (.selects RX3 yX3_edgeAt yX3_edgeAt) (by decide +kernel)⟩ (kW_V hP hK hD hN (ci := 3) (q0 := 1) rfl rfl [1, 2] rfl rfl rfl) rfl rfl hl.1 rfl (lv_room (Nat.le_of_ble_eq_true rfl)) dX6_mendByRounds_85 ⟨Nat.zero_le _, Nat.zero_le _⟩) hP hS (fun H locs hP hS => ?_)
          refine lv_iload hx hb dX6_mendByRounds_88 (lv_at hl 1 rfl) ?_
          refine lv_iconst (v := 2) hx hb dX6_mendByRounds_90 (by decide) ?_
          refine lv_irem hx hb dX6_mendByRounds_91 (by decide) ?_
          refine lv_iconst (v := 1) hx hb dX6_mendByRounds_92 (by decide) ?_
          refine lv_icmp_ne (tgt := 100) hx hb dX6_mendByRounds_93 (by decide) (fun c_9 => ?_) (fun c_9 => ?_)
          · have hr := if_no hr c_9
            refine lv_iconst (v := 0) hx hb dX6_mendByRounds_100 (by decide) ?_
            refine kCall (va_runS (As := [.int (P_edgeAt K fa ((z_7 / (1024 : Int32)) - (z_7 / (1024 : Int32)) / edges * edges)), .int 0]) (rest := []) ⟨hx, hb, hml, hown, hts⟩ (k_X6_turned l dC dI cI cN (P_edgeAt K fa ((z_7 / (1024 : Int32)) - (z_7 / (1024 : Int32)) / edges * edges)) 0) (va_cwS 2 hts gX6_mendByRounds_X6_turned rfl rfl rfl (by decide +kernel) ⟨Nat.le_of_ble_eq_true rfl, Nat.le_of_ble_eq_true rfl⟩) (kW_S hP hK hD hN [] rfl rfl rfl) rfl rfl hl.1 rfl (lv_room (Nat.le_of_ble_eq_true rfl)) dX6_mendByRounds_101 ⟨Nat.zero_le _, Nat.zero_le _⟩) hP hS (fun H locs hP hS => ?_)
            refine lv_topi (fun pairToo_10 epairToo_10 => ?_)
            have hr := bd_to hr epairToo_10
            refine lv_istore (lv' := [(10, .int pairToo_10), (9, .int pair_8), (7, .int z_7), (8, .int (nI round)), (4, .int edges), (5, .int swaps), (6, .int shorts), (0, .ref s0), (1, .int length), (3, .int rounds)]) hx hb dX6_mendByRounds_104 hl (by decide) rfl (fun ls hl => ?_)
            refine lv_aload_n hx hb dX6_mendByRounds_106 rfl (lv_at hl 7 rfl) ?_
            refine lv_iload hx hb dX6_mendByRounds_107 (lv_at hl 1 rfl) ?_
            refine lv_iload hx hb dX6_mendByRounds_109 (lv_at hl 0 rfl) ?_
            refine kCall (va_runV (As := [.int pair_8, .int pairToo_10]) (rest := []) ⟨hx, hb, hml, hown, hts⟩ (k_X6_canExchange l dC dI cI cN s0 sc0 kp0 ta0 km rf a0 q0 d0 c0 h0 h1 K fa pair_8 pairToo_10 (by first | assumption | omega | exact Int32.le_refl _ | decide)) (cwV 2 hts gX6_mendByRounds_X6_canExchange rfl rfl rfl (by decide +kernel) ⟨Nat.le_of_ble_eq_true rfl, Nat.le_of_ble_eq_true rfl⟩) (kW_V hP hK hD hN (ci := 5) (q0 := 0) rfl rfl [0, 1, 2] rfl rfl rfl) rfl rfl hl.1 rfl (lv_room (Nat.le_of_ble_eq_true rfl)) dX6_mendByRounds_111 ⟨Nat.zero_le _, Nat.zero_le _⟩) hP hS (fun H locs hP hS => ?_)
            refine lv_if_eq (tgt := 171) hx hb dX6_mendByRounds_114 (by decide) (fun c_11 => ?_) (fun c_11 => ?_)
            · have hr := if_to hr c_11
              refine lv_iinc (v := nI (round + 1)) (lv' := [(8, .int (nI (round + 1))), (10, .int pairToo_10), (9, .int pair_8), (7, .int z_7), (4, .int edges), (5, .int swaps), (6, .int shorts), (0, .ref s0), (1, .int length), (3, .int rounds)]) hx hb dX6_mendByRounds_171 hl (k := 3) rfl (nI_1 _) (by decide) rfl (fun ls hl => ?_)
              refine lv_goto (tgt := 33) hx hb dX6_mendByRounds_174 (by decide) ?_
              exact ih_33 (round + 1) edges swaps shorts z_7 fa kz fb tz _ _ _ (by omega) hed hr hP hD hS (lv_sub hl [0, 4, 5, 6, 3, 7, 8, 9] rfl)
            · have hr := if_no hr c_11
              refine lv_aload_n hx hb dX6_mendByRounds_117 rfl (lv_at hl 7 rfl) ?_
              refine va_get (D := (dC, dI)) (ci := 5) (v := .ref sc0) (C := RX6) (T := TX6) (N := 10) hx hb hts (by decide +kernel) hown hK hP 0 rfl rfl 1 (by decide) (hts (.fieldLink RX6 16 "Shortring" "scratch" "LShortring$Net;") (by decide +kernel)) (fun _ h9 => h9) rfl dX6_mendByRounds_118 ?_
              refine lv_aload_n hx hb dX6_mendByRounds_121 rfl (lv_at hl 7 rfl) ?_
              refine va_get (D := (dC, dI)) (ci := 5) (v := .ref h0) (C := RX6) (T := TX6) (N := 10) hx hb hts (by decide +kernel) hown hK hP 0 rfl rfl 0 (by decide) (hts (.fieldLink RX6 12 "Shortring" "net" "LShortring$Net;") (by decide +kernel)) (fun _ h9 => h9) rfl dX6_mendByRounds_122 ?_
              refine kCallV (wr := [(s0, .inr (5, [.ref h0, .ref sc0, .ref kp0, .ref a0, .ref q0, .ref d0, .ref c0, .ref ta0, .int km, .int rf])), (ta0, .inl (cI, 8, .inl tz))]) (va_runVN (As := [.ref h0]) (rest := []) ⟨hx, hb, hml, hown, hts⟩ (k_X3_take l dC dI cI cN sc0 sc1 kz fb h0 h1 K fa (by first | assumption | omega | exact Int32.le_refl _ | decide) _) ⟨va_cnB 1 hts gX6_mendByRounds_X3_take_n144 rfl rfl rfl (hN.1 14 _ rfl) (hts (.initialized RX3) (by decide +kernel)) (by decide +kernel) ⟨Nat.le_of_ble_eq_true rfl, Nat.le_of_ble_eq_true rfl⟩, hts (.instanceMethod yX3_take) (by decide +kernel), hts (.selects RX3 yX3_take yX3_take) (by decide +kernel)⟩ (kU_V hP hK hD hN (ci := 3) (q0 := 3) rfl rfl [3, 4, 1, 2] rfl rfl rfl) rfl rfl hl.1 rfl (lv_room (Nat.le_of_ble_eq_true rfl)) dX6_mendByRounds_125 ⟨Nat.zero_le _, Nat.zero_le _⟩) hP hD hS hA [3, 4, 1, 2] [0, 5] rfl rfl rfl rfl (by decide) rfl (fun H locs hP hD hS => ?_)
              obtain ⟨r_12, er_12⟩ : ∃ y : Nat → Int32, y = (P_take fb fa) := ⟨_, rfl⟩
              try rw [← er_12] at hP hD
              have hr := bd_to hr er_12
              have hP : va_P (dC, dI) kCl [(s0, .inr (5, [.ref h0, .ref sc0, .ref kp0, .ref a0, .ref q0, .ref d0, .ref c0, .ref ta0, .int km, .int rf])), (h0, .inr (3, [.ref h1, .int (nI K)])), (h1, .inl (cI, 16, .inl fa)), (sc0, .inr (3, [.ref sc1, .int (nI K)])), (sc1, .inl (cI, 16, .inl r_12)), (ta0, .inl (cI, 8, .inl tz))] H := hP.sub [0, 4, 5, 2, 3, 1] rfl
              have hD : va_D A [(s0, .inr (5, [.ref h0, .ref sc0, .ref kp0, .ref a0, .ref q0, .ref d0, .ref c0, .ref ta0, .int km, .int rf])), (h0, .inr (3, [.ref h1, .int (nI K)])), (h1, .inl (cI, 16, .inl fa)), (sc0, .inr (3, [.ref sc1, .int (nI K)])), (sc1, .inl (cI, 16, .inl r_12)), (ta0, .inl (cI, 8, .inl tz))] := hD.sub [0, 4, 5, 2, 3, 1] (by decide) rfl
              refine lv_aload_n hx hb dX6_mendByRounds_128 rfl (lv_at hl 7 rfl) ?_
              refine lv_iload hx hb dX6_mendByRounds_129 (lv_at hl 1 rfl) ?_
              refine lv_iload hx hb dX6_mendByRounds_131 (lv_at hl 0 rfl) ?_
              refine kCallV (wr := [(sc0, .inr (3, [.ref sc1, .int (nI K)])), (sc1, .inl (cI, 16, .inl r_12)), (ta0, .inl (cI, 8, .inl tz))]) (va_runV (As := [.int pair_8, .int pairToo_10]) (rest := []) ⟨hx, hb, hml, hown, hts⟩ (k_X6_exchange l dC dI cI cN s0 sc0 kp0 ta0 km rf a0 q0 d0 c0 h0 h1 K fa pair_8 pairToo_10 (by first | assumption | omega | exact Int32.le_refl _ | decide) _) (cwV 2 hts gX6_mendByRounds_X6_exchange rfl rfl rfl (by decide +kernel) ⟨Nat.le_of_ble_eq_true rfl, Nat.le_of_ble_eq_true rfl⟩) (kU_V hP hK hD hN (ci := 5) (q0 := 0) rfl rfl [0, 1, 2] rfl rfl rfl) rfl rfl hl.1 rfl (lv_room (Nat.le_of_ble_eq_true rfl)) dX6_mendByRounds_133 ⟨Nat.zero_le _, Nat.zero_le _⟩) hP hD hS hA [0, 1, 2] [3, 4, 5] rfl rfl rfl rfl (by decide) rfl (fun H locs hP hD hS => ?_)
              obtain ⟨r_13, er_13⟩ : ∃ y : Nat → Int32, y = (P_exchange K fa pair_8 pairToo_10) := ⟨_, rfl⟩
              try rw [← er_13] at hP hD
              have hr := bd_to hr er_13
              have hP : va_P (dC, dI) kCl [(s0, .inr (5, [.ref h0, .ref sc0, .ref kp0, .ref a0, .ref q0, .ref d0, .ref c0, .ref ta0, .int km, .int rf])), (h0, .inr (3, [.ref h1, .int (nI K)])), (h1, .inl (cI, 16, .inl r_13)), (sc0, .inr (3, [.ref sc1, .int (nI K)])), (sc1, .inl (cI, 16, .inl r_12)), (ta0, .inl (cI, 8, .inl tz))] H := hP.sub [3, 4, 5, 0, 1, 2] rfl
              have hD : va_D A [(s0, .inr (5, [.ref h0, .ref sc0, .ref kp0, .ref a0, .ref q0, .ref d0, .ref c0, .ref ta0, .int km, .int rf])), (h0, .inr (3, [.ref h1, .int (nI K)])), (h1, .inl (cI, 16, .inl r_13)), (sc0, .inr (3, [.ref sc1, .int (nI K)])), (sc1, .inl (cI, 16, .inl r_12)), (ta0, .inl (cI, 8, .inl tz))] := hD.sub [3, 4, 5, 0, 1, 2] (by decide) rfl
              refine lv_aload_n hx hb dX6_mendByRounds_136 rfl (lv_at hl 7 rfl) ?_
              refine lv_iload_n hx hb dX6_mendByRounds_137 rfl (lv_at hl 8 rfl) ?_
              refine kCallVi (wr := [(sc0, .inr (3, [.ref sc1, .int (nI K)])), (sc1, .inl (cI, 16, .inl r_12))]) (va_runV (As := [.int length]) (rest := []) ⟨hx, hb, hml, hown, hts⟩ (k_X6_shortRings l dC dI cI cN s0 sc0 kp0 ta0 km rf a0 q0 d0 c0 h0 h1 K r_13 tz length (by first | assumption | omega | exact Int32.le_refl _ | decide) _) (cwV 1 hts gX6_mendByRounds_X6_shortRings rfl rfl rfl (by decide +kernel) ⟨Nat.le_of_ble_eq_true rfl, Nat.le_of_ble_eq_true rfl⟩) (kU_V hP hK hD hN (ci := 5) (q0 := 0) rfl rfl [0, 1, 2, 5] rfl rfl rfl) rfl rfl hl.1 rfl (lv_room (Nat.le_of_ble_eq_true rfl)) dX6_mendByRounds_138 ⟨Nat.zero_le _, Nat.zero_le _⟩) hP hD hS hA [0, 1, 2, 5] [3, 4] rfl rfl rfl rfl (by decide) rfl (fun H locs hP hD hS => ?_)
              obtain ⟨r_14, er_14⟩ : ∃ y : Int32 × (Nat → Int32), y = (P_shortRings K r_13 tz length) := ⟨_, rfl⟩
              rw [← er_14]
              try rw [← er_14] at hP hD
              have hr := bd_to hr er_14
              have hP : va_P (dC, dI) kCl [(s0, .inr (5, [.ref h0, .ref sc0, .ref kp0, .ref a0, .ref q0, .ref d0, .ref c0, .ref ta0, .int km, .int rf])), (h0, .inr (3, [.ref h1, .int (nI K)])), (h1, .inl (cI, 16, .inl r_13)), (sc0, .inr (3, [.ref sc1, .int (nI K)])), (sc1, .inl (cI, 16, .inl r_12)), (ta0, .inl (cI, 8, .inl r_14.2))] H := hP.sub [2, 3, 4, 0, 1, 5] rfl
              have hD : va_D A [(s0, .inr (5, [.ref h0, .ref sc0, .ref kp0, .ref a0, .ref q0, .ref d0, .ref c0, .ref ta0, .int km, .int rf])), (h0, .inr (3, [.ref h1, .int (nI K)])), (h1, .inl (cI, 16, .inl r_13)), (sc0, .inr (3, [.ref sc1, .int (nI K)])), (sc1, .inl (cI, 16, .inl r_12)), (ta0, .inl (cI, 8, .inl r_14.2))] := hD.sub [2, 3, 4, 0, 1, 5] (by decide) rfl
              refine lv_topi (fun then__15 ethen__15 => ?_)
              have hr := bd_to hr ethen__15
              refine lv_istore (lv' := [(11, .int then__15), (10, .int pairToo_10), (9, .int pair_8), (7, .int z_7), (8, .int (nI round)), (4, .int edges), (5, .int swaps), (6, .int shorts), (0, .ref s0), (1, .int length), (3, .int rounds)]) hx hb dX6_mendByRounds_141 hl (by decide) rfl (fun ls hl => ?_)
              refine lv_iload hx hb dX6_mendByRounds_143 (lv_at hl 0 rfl) ?_
              refine lv_iload hx hb dX6_mendByRounds_145 (lv_at hl 7 rfl) ?_
              refine lv_icmp_ge (tgt := 160) hx hb dX6_mendByRounds_147 (by decide) (fun c_16 => ?_) (fun c_16 => ?_)
              · have hr := if_to hr c_16
                refine lv_aload_n hx hb dX6_mendByRounds_160 rfl (lv_at hl 8 rfl) ?_
                refine va_get (D := (dC, dI)) (ci := 5) (v := .ref h0) (C := RX6) (T := TX6) (N := 10) hx hb hts (by decide +kernel) hown hK hP 0 rfl rfl 0 (by decide) (hts (.fieldLink RX6 12 "Shortring" "net" "LShortring$Net;") (by decide +kernel)) (fun _ h9 => h9) rfl dX6_mendByRounds_161 ?_
                refine lv_aload_n hx hb dX6_mendByRounds_164 rfl (lv_at hl 8 rfl) ?_
                refine va_get (D := (dC, dI)) (ci := 5) (v := .ref sc0) (C := RX6) (T := TX6) (N := 10) hx hb hts (by decide +kernel) hown hK hP 0 rfl rfl 1 (by decide) (hts (.fieldLink RX6 16 "Shortring" "scratch" "LShortring$Net;") (by decide +kernel)) (fun _ h9 => h9) rfl dX6_mendByRounds_165 ?_
                refine kCallV (wr := [(s0, .inr (5, [.ref h0, .ref sc0, .ref kp0, .ref a0, .ref q0, .ref d0, .ref c0, .ref ta0, .int km, .int rf])), (ta0, .inl (cI, 8, .inl r_14.2))]) (va_runVN (As := [.ref sc0]) (rest := []) ⟨hx, hb, hml, hown, hts⟩ (k_X3_take l dC dI cI cN h0 h1 K r_13 sc0 sc1 K r_12 (by first | assumption | omega | exact Int32.le_refl _ | decide) _) ⟨va_cnB 1 hts gX6_mendByRounds_X3_take_n144 rfl rfl rfl (hN.1 14 _ rfl) (hts (.initialized RX3) (by decide +kernel)) (by decide +kernel) ⟨Nat.le_of_ble_eq_true rfl, Nat.le_of_ble_eq_true rfl⟩, hts (.instanceMethod yX3_take) (by decide +kernel), hts (.selects RX3 yX3_take yX3_take) (by decide +kernel)⟩ (kU_V hP hK hD hN (ci := 3) (q0 := 1) rfl rfl [1, 2, 3, 4] rfl rfl rfl) rfl rfl hl.1 rfl (lv_room (Nat.le_of_ble_eq_true rfl)) dX6_mendByRounds_168 ⟨Nat.zero_le _, Nat.zero_le _⟩) hP hD hS hA [1, 2, 3, 4] [0, 5] rfl rfl rfl rfl (by decide) rfl (fun H locs hP hD hS => ?_)
                obtain ⟨r_17, er_17⟩ : ∃ y : Nat → Int32, y = (P_take r_13 r_12) := ⟨_, rfl⟩
                try rw [← er_17] at hP hD
                have hr := bd_to hr er_17
                have hP : va_P (dC, dI) kCl [(s0, .inr (5, [.ref h0, .ref sc0, .ref kp0, .ref a0, .ref q0, .ref d0, .ref c0, .ref ta0, .int km, .int rf])), (h0, .inr (3, [.ref h1, .int (nI K)])), (h1, .inl (cI, 16, .inl r_17)), (sc0, .inr (3, [.ref sc1, .int (nI K)])), (sc1, .inl (cI, 16, .inl r_12)), (ta0, .inl (cI, 8, .inl r_14.2))] H := hP.sub [0, 2, 3, 4, 5, 1] rfl
                have hD : va_D A [(s0, .inr (5, [.ref h0, .ref sc0, .ref kp0, .ref a0, .ref q0, .ref d0, .ref c0, .ref ta0, .int km, .int rf])), (h0, .inr (3, [.ref h1, .int (nI K)])), (h1, .inl (cI, 16, .inl r_17)), (sc0, .inr (3, [.ref sc1, .int (nI K)])), (sc1, .inl (cI, 16, .inl r_12)), (ta0, .inl (cI, 8, .inl r_14.2))] := hD.sub [0, 2, 3, 4, 5, 1] (by decide) rfl
                refine lv_iinc (v := nI (round + 1)) (lv' := [(8, .int (nI (round + 1))), (11, .int then__15), (10, .int pairToo_10), (9, .int pair_8), (7, .int z_7), (4, .int edges), (5, .int swaps), (6, .int shorts), (0, .ref s0), (1, .int length), (3, .int rounds)]) hx hb dX6_mendByRounds_171 hl (k := 4) rfl (nI_1 _) (by decide) rfl (fun ls hl => ?_)
                refine lv_goto (tgt := 33) hx hb dX6_mendByRounds_174 (by decide) ?_
                exact ih_33 (round + 1) edges swaps shorts z_7 r_17 K r_12 r_14.2 _ _ _ (by omega) hed hr hP hD hS (lv_sub hl [0, 5, 6, 7, 4, 8, 9, 10] rfl)
              · have hr := if_no hr c_16
                refine lv_iload hx hb dX6_mendByRounds_150 (lv_at hl 0 rfl) ?_
                refine lv_istore (lv' := [(6, .int then__15), (11, .int then__15), (10, .int pairToo_10), (9, .int pair_8), (7, .int z_7), (8, .int (nI round)), (4, .int edges), (5, .int swaps), (0, .ref s0), (1, .int length), (3, .int rounds)]) hx hb dX6_mendByRounds_152 hl (by decide) rfl (fun ls hl => ?_)
                refine lv_iinc (v := swaps + 1) (lv' := [(5, .int (swaps + 1)), (6, .int then__15), (11, .int then__15), (10, .int pairToo_10), (9, .int pair_8), (7, .int z_7), (8, .int (nI round)), (4, .int edges), (0, .ref s0), (1, .int length), (3, .int rounds)]) hx hb dX6_mendByRounds_154 hl (k := 7) rfl rfl (by decide) rfl (fun ls hl => ?_)
                refine lv_goto (tgt := 171) hx hb dX6_mendByRounds_157 (by decide) ?_
                refine lv_iinc (v := nI (round + 1)) (lv' := [(8, .int (nI (round + 1))), (5, .int (swaps + 1)), (6, .int then__15), (11, .int then__15), (10, .int pairToo_10), (9, .int pair_8), (7, .int z_7), (4, .int edges), (0, .ref s0), (1, .int length), (3, .int rounds)]) hx hb dX6_mendByRounds_171 hl (k := 6) rfl (nI_1 _) (by decide) rfl (fun ls hl => ?_)
                refine lv_goto (tgt := 33) hx hb dX6_mendByRounds_174 (by decide) ?_
                exact ih_33 (round + 1) edges (swaps + 1) then__15 z_7 r_13 K r_12 r_14.2 _ _ _ (by omega) hed hr hP hD hS (lv_sub hl [0, 7, 1, 2, 6, 8, 9, 10] rfl)
          · have hr := if_to hr c_9
            refine lv_iconst (v := 1) hx hb dX6_mendByRounds_96 (by decide) ?_
            refine lv_goto (tgt := 101) hx hb dX6_mendByRounds_97 (by decide) ?_
            refine kCall (va_runS (As := [.int (P_edgeAt K fa ((z_7 / (1024 : Int32)) - (z_7 / (1024 : Int32)) / edges * edges)), .int 1]) (rest := []) ⟨hx, hb, hml, hown, hts⟩ (k_X6_turned l dC dI cI cN (P_edgeAt K fa ((z_7 / (1024 : Int32)) - (z_7 / (1024 : Int32)) / edges * edges)) 1) (va_cwS 2 hts gX6_mendByRounds_X6_turned rfl rfl rfl (by decide +kernel) ⟨Nat.le_of_ble_eq_true rfl, Nat.le_of_ble_eq_true rfl⟩) (kW_S hP hK hD hN [] rfl rfl rfl) rfl rfl hl.1 rfl (lv_room (Nat.le_of_ble_eq_true rfl)) dX6_mendByRounds_101 ⟨Nat.zero_le _, Nat.zero_le _⟩) hP hS (fun H locs hP hS => ?_)
            refine lv_topi (fun pairToo_18 epairToo_18 => ?_)
            have hr := bd_to hr epairToo_18
            refine lv_istore (lv' := [(10, .int pairToo_18), (9, .int pair_8), (7, .int z_7), (8, .int (nI round)), (4, .int edges), (5, .int swaps), (6, .int shorts), (0, .ref s0), (1, .int length), (3, .int rounds)]) hx hb dX6_mendByRounds_104 hl (by decide) rfl (fun ls hl => ?_)
            refine lv_aload_n hx hb dX6_mendByRounds_106 rfl (lv_at hl 7 rfl) ?_
            refine lv_iload hx hb dX6_mendByRounds_107 (lv_at hl 1 rfl) ?_
            refine lv_iload hx hb dX6_mendByRounds_109 (lv_at hl 0 rfl) ?_
            refine kCall (va_runV (As := [.int pair_8, .int pairToo_18]) (rest := []) ⟨hx, hb, hml, hown, hts⟩ (k_X6_canExchange l dC dI cI cN s0 sc0 kp0 ta0 km rf a0 q0 d0 c0 h0 h1 K fa pair_8 pairToo_18 (by first | assumption | omega | exact Int32.le_refl _ | decide)) (cwV 2 hts gX6_mendByRounds_X6_canExchange rfl rfl rfl (by decide +kernel) ⟨Nat.le_of_ble_eq_true rfl, Nat.le_of_ble_eq_true rfl⟩) (kW_V hP hK hD hN (ci := 5) (q0 := 0) rfl rfl [0, 1, 2] rfl rfl rfl) rfl rfl hl.1 rfl (lv_room (Nat.le_of_ble_eq_true rfl)) dX6_mendByRounds_111 ⟨Nat.zero_le _, Nat.zero_le _⟩) hP hS (fun H locs hP hS => ?_)
            refine lv_if_eq (tgt := 171) hx hb dX6_mendByRounds_114 (by decide) (fun c_19 => ?_) (fun c_19 => ?_)
            · have hr := if_to hr c_19
              refine lv_iinc (v := nI (round + 1)) (lv' := [(8, .int (nI (round + 1))), (10, .int pairToo_18), (9, .int pair_8), (7, .int z_7), (4, .int edges), (5, .int swaps), (6, .int shorts), (0, .ref s0), (1, .int length), (3, .int rounds)]) hx hb dX6_mendByRounds_171 hl (k := 3) rfl (nI_1 _) (by decide) rfl (fun ls hl => ?_)
              refine lv_goto (tgt := 33) hx hb dX6_mendByRounds_174 (by decide) ?_
              exact ih_33 (round + 1) edges swaps shorts z_7 fa kz fb tz _ _ _ (by omega) hed hr hP hD hS (lv_sub hl [0, 4, 5, 6, 3, 7, 8, 9] rfl)
            · have hr := if_no hr c_19
              refine lv_aload_n hx hb dX6_mendByRounds_117 rfl (lv_at hl 7 rfl) ?_
              refine va_get (D := (dC, dI)) (ci := 5) (v := .ref sc0) (C := RX6) (T := TX6) (N := 10) hx hb hts (by decide +kernel) hown hK hP 0 rfl rfl 1 (by decide) (hts (.fieldLink RX6 16 "Shortring" "scratch" "LShortring$Net;") (by decide +kernel)) (fun _ h9 => h9) rfl dX6_mendByRounds_118 ?_
              refine lv_aload_n hx hb dX6_mendByRounds_121 rfl (lv_at hl 7 rfl) ?_
              refine va_get (D := (dC, dI)) (ci := 5) (v := .ref h0) (C := RX6) (T := TX6) (N := 10) hx hb hts (by decide +kernel) hown hK hP 0 rfl rfl 0 (by decide) (hts (.fieldLink RX6 12 "Shortring" "net" "LShortring$Net;") (by decide +kernel)) (fun _ h9 => h9) rfl dX6_mendByRounds_122 ?_
              refine kCallV (wr := [(s0, .inr (5, [.ref h0, .ref sc0, .ref kp0, .ref a0, .ref q0, .ref d0, .ref c0, .ref ta0, .int km, .int rf])), (ta0, .inl (cI, 8, .inl tz))]) (va_runVN (As := [.ref h0]) (rest := []) ⟨hx, hb, hml, hown, hts⟩ (k_X3_take l dC dI cI cN sc0 sc1 kz fb h0 h1 K fa (by first | assumption | omega | exact Int32.le_refl _ | decide) _) ⟨va_cnB 1 hts gX6_mendByRounds_X3_take_n144 rfl rfl rfl (hN.1 14 _ rfl) (hts (.initialized RX3) (by decide +kernel)) (by decide +kernel) ⟨Nat.le_of_ble_eq_true rfl, Nat.le_of_ble_eq_true rfl⟩, hts (.instanceMethod yX3_take) (by decide +kernel), hts (.selects RX3 yX3_take yX3_take) (by decide +kernel)⟩ (kU_V hP hK hD hN (ci := 3) (q0 := 3) rfl rfl [3, 4, 1, 2] rfl rfl rfl) rfl rfl hl.1 rfl (lv_room (Nat.le_of_ble_eq_true rfl)) dX6_mendByRounds_125 ⟨Nat.zero_le _, Nat.zero_le _⟩) hP hD hS hA [3, 4, 1, 2] [0, 5] rfl rfl rfl rfl (by decide) rfl (fun H locs hP hD hS => ?_)
              obtain ⟨r_20, er_20⟩ : ∃ y : Nat → Int32, y = (P_take fb fa) := ⟨_, rfl⟩
              try rw [← er_20] at hP hD
              have hr := bd_to hr er_20
              have hP : va_P (dC, dI) kCl [(s0, .inr (5, [.ref h0, .ref sc0, .ref kp0, .ref a0, .ref q0, .ref d0, .ref c0, .ref ta0, .int km, .int rf])), (h0, .inr (3, [.ref h1, .int (nI K)])), (h1, .inl (cI, 16, .inl fa)), (sc0, .inr (3, [.ref sc1, .int (nI K)])), (sc1, .inl (cI, 16, .inl r_20)), (ta0, .inl (cI, 8, .inl tz))] H := hP.sub [0, 4, 5, 2, 3, 1] rfl
              have hD : va_D A [(s0, .inr (5, [.ref h0, .ref sc0, .ref kp0, .ref a0, .ref q0, .ref d0, .ref c0, .ref ta0, .int km, .int rf])), (h0, .inr (3, [.ref h1, .int (nI K)])), (h1, .inl (cI, 16, .inl fa)), (sc0, .inr (3, [.ref sc1, .int (nI K)])), (sc1, .inl (cI, 16, .inl r_20)), (ta0, .inl (cI, 8, .inl tz))] := hD.sub [0, 4, 5, 2, 3, 1] (by decide) rfl
              refine lv_aload_n hx hb dX6_mendByRounds_128 rfl (lv_at hl 7 rfl) ?_
              refine lv_iload hx hb dX6_mendByRounds_129 (lv_at hl 1 rfl) ?_
              refine lv_iload hx hb dX6_mendByRounds_131 (lv_at hl 0 rfl) ?_
              refine kCallV (wr := [(sc0, .inr (3, [.ref sc1, .int (nI K)])), (sc1, .inl (cI, 16, .inl r_20)), (ta0, .inl (cI, 8, .inl tz))]) (va_runV (As := [.int pair_8, .int pairToo_18]) (rest := []) ⟨hx, hb, hml, hown, hts⟩ (k_X6_exchange l dC dI cI cN s0 sc0 kp0 ta0 km rf a0 q0 d0 c0 h0 h1 K fa pair_8 pairToo_18 (by first | assumption | omega | exact Int32.le_refl _ | decide) _) (cwV 2 hts gX6_mendByRounds_X6_exchange rfl rfl rfl (by decide +kernel) ⟨Nat.le_of_ble_eq_true rfl, Nat.le_of_ble_eq_true rfl⟩) (kU_V hP hK hD hN (ci := 5) (q0 := 0) rfl rfl [0, 1, 2] rfl rfl rfl) rfl rfl hl.1 rfl (lv_room (Nat.le_of_ble_eq_true rfl)) dX6_mendByRounds_133 ⟨Nat.zero_le _, Nat.zero_le _⟩) hP hD hS hA [0, 1, 2] [3, 4, 5] rfl rfl rfl rfl (by decide) rfl (fun H locs hP hD hS => ?_)
              obtain ⟨r_21, er_21⟩ : ∃ y : Nat → Int32, y = (P_exchange K fa pair_8 pairToo_18) := ⟨_, rfl⟩
              try rw [← er_21] at hP hD
              have hr := bd_to hr er_21
              have hP : va_P (dC, dI) kCl [(s0, .inr (5, [.ref h0, .ref sc0, .ref kp0, .ref a0, .ref q0, .ref d0, .ref c0, .ref ta0, .int km, .int rf])), (h0, .inr (3, [.ref h1, .int (nI K)])), (h1, .inl (cI, 16, .inl r_21)), (sc0, .inr (3, [.ref sc1, .int (nI K)])), (sc1, .inl (cI, 16, .inl r_20)), (ta0, .inl (cI, 8, .inl tz))] H := hP.sub [3, 4, 5, 0, 1, 2] rfl
              have hD : va_D A [(s0, .inr (5, [.ref h0, .ref sc0, .ref kp0, .ref a0, .ref q0, .ref d0, .ref c0, .ref ta0, .int km, .int rf])), (h0, .inr (3, [.ref h1, .int (nI K)])), (h1, .inl (cI, 16, .inl r_21)), (sc0, .inr (3, [.ref sc1, .int (nI K)])), (sc1, .inl (cI, 16, .inl r_20)), (ta0, .inl (cI, 8, .inl tz))] := hD.sub [3, 4, 5, 0, 1, 2] (by decide) rfl
              refine lv_aload_n hx hb dX6_mendByRounds_136 rfl (lv_at hl 7 rfl) ?_
              refine lv_iload_n hx hb dX6_mendByRounds_137 rfl (lv_at hl 8 rfl) ?_
              refine kCallVi (wr := [(sc0, .inr (3, [.ref sc1, .int (nI K)])), (sc1, .inl (cI, 16, .inl r_20))]) (va_runV (As := [.int length]) (rest := []) ⟨hx, hb, hml, hown, hts⟩ (k_X6_shortRings l dC dI cI cN s0 sc0 kp0 ta0 km rf a0 q0 d0 c0 h0 h1 K r_21 tz length (by first | assumption | omega | exact Int32.le_refl _ | decide) _) (cwV 1 hts gX6_mendByRounds_X6_shortRings rfl rfl rfl (by decide +kernel) ⟨Nat.le_of_ble_eq_true rfl, Nat.le_of_ble_eq_true rfl⟩) (kU_V hP hK hD hN (ci := 5) (q0 := 0) rfl rfl [0, 1, 2, 5] rfl rfl rfl) rfl rfl hl.1 rfl (lv_room (Nat.le_of_ble_eq_true rfl)) dX6_mendByRounds_138 ⟨Nat.zero_le _, Nat.zero_le _⟩) hP hD hS hA [0, 1, 2, 5] [3, 4] rfl rfl rfl rfl (by decide) rfl (fun H locs hP hD hS => ?_)
              obtain ⟨r_22, er_22⟩ : ∃ y : Int32 × (Nat → Int32), y = (P_shortRings K r_21 tz length) := ⟨_, rfl⟩
              rw [← er_22]
              try rw [← er_22] at hP hD
              have hr := bd_to hr er_22
              have hP : va_P (dC, dI) kCl [(s0, .inr (5, [.ref h0, .ref sc0, .ref kp0, .ref a0, .ref q0, .ref d0, .ref c0, .ref ta0, .int km, .int rf])), (h0, .inr (3, [.ref h1, .int (nI K)])), (h1, .inl (cI, 16, .inl r_21)), (sc0, .inr (3, [.ref sc1, .int (nI K)])), (sc1, .inl (cI, 16, .inl r_20)), (ta0, .inl (cI, 8, .inl r_22.2))] H := hP.sub [2, 3, 4, 0, 1, 5] rfl
              have hD : va_D A [(s0, .inr (5, [.ref h0, .ref sc0, .ref kp0, .ref a0, .ref q0, .ref d0, .ref c0, .ref ta0, .int km, .int rf])), (h0, .inr (3, [.ref h1, .int (nI K)])), (h1, .inl (cI, 16, .inl r_21)), (sc0, .inr (3, [.ref sc1, .int (nI K)])), (sc1, .inl (cI, 16, .inl r_20)), (ta0, .inl (cI, 8, .inl r_22.2))] := hD.sub [2, 3, 4, 0, 1, 5] (by decide) rfl
              refine lv_topi (fun then__23 ethen__23 => ?_)
              have hr := bd_to hr ethen__23
              refine lv_istore (lv' := [(11, .int then__23), (10, .int pairToo_18), (9, .int pair_8), (7, .int z_7), (8, .int (nI round)), (4, .int edges), (5, .int swaps), (6, .int shorts), (0, .ref s0), (1, .int length), (3, .int rounds)]) hx hb dX6_mendByRounds_141 hl (by decide) rfl (fun ls hl => ?_)
              refine lv_iload hx hb dX6_mendByRounds_143 (lv_at hl 0 rfl) ?_
              refine lv_iload hx hb dX6_mendByRounds_145 (lv_at hl 7 rfl) ?_
              refine lv_icmp_ge (tgt := 160) hx hb dX6_mendByRounds_147 (by decide) (fun c_24 => ?_) (fun c_24 => ?_)
              · have hr := if_to hr c_24
                refine lv_aload_n hx hb dX6_mendByRounds_160 rfl (lv_at hl 8 rfl) ?_
                refine va_get (D := (dC, dI)) (ci := 5) (v := .ref h0) (C := RX6) (T := TX6) (N := 10) hx hb hts (by decide +kernel) hown hK hP 0 rfl rfl 0 (by decide) (hts (.fieldLink RX6 12 "Shortring" "net" "LShortring$Net;") (by decide +kernel)) (fun _ h9 => h9) rfl dX6_mendByRounds_161 ?_
                refine lv_aload_n hx hb dX6_mendByRounds_164 rfl (lv_at hl 8 rfl) ?_
                refine va_get (D := (dC, dI)) (ci := 5) (v := .ref sc0) (C := RX6) (T := TX6) (N := 10) hx hb hts (by decide +kernel) hown hK hP 0 rfl rfl 1 (by decide) (hts (.fieldLink RX6 16 "Shortring" "scratch" "LShortring$Net;") (by decide +kernel)) (fun _ h9 => h9) rfl dX6_mendByRounds_165 ?_
                refine kCallV (wr := [(s0, .inr (5, [.ref h0, .ref sc0, .ref kp0, .ref a0, .ref q0, .ref d0, .ref c0, .ref ta0, .int km, .int rf])), (ta0, .inl (cI, 8, .inl r_22.2))]) (va_runVN (As := [.ref sc0]) (rest := []) ⟨hx, hb, hml, hown, hts⟩ (k_X3_take l dC dI cI cN h0 h1 K r_21 sc0 sc1 K r_20 (by first | assumption | omega | exact Int32.le_refl _ | decide) _) ⟨va_cnB 1 hts gX6_mendByRounds_X3_take_n144 rfl rfl rfl (hN.1 14 _ rfl) (hts (.initialized RX3) (by decide +kernel)) (by decide +kernel) ⟨Nat.le_of_ble_eq_true rfl, Nat.le_of_ble_eq_true rfl⟩, hts (.instanceMethod yX3_take) (by decide +kernel), hts (.selects RX3 yX3_take yX3_take) (by decide +kernel)⟩ (kU_V hP hK hD hN (ci := 3) (q0 := 1) rfl rfl [1, 2, 3, 4] rfl rfl rfl) rfl rfl hl.1 rfl (lv_room (Nat.le_of_ble_eq_true rfl)) dX6_mendByRounds_168 ⟨Nat.zero_le _, Nat.zero_le _⟩) hP hD hS hA [1, 2, 3, 4] [0, 5] rfl rfl rfl rfl (by decide) rfl (fun H locs hP hD hS => ?_)
                obtain ⟨r_25, er_25⟩ : ∃ y : Nat → Int32, y = (P_take r_21 r_20) := ⟨_, rfl⟩
                try rw [← er_25] at hP hD
                have hr := bd_to hr er_25
                have hP : va_P (dC, dI) kCl [(s0, .inr (5, [.ref h0, .ref sc0, .ref kp0, .ref a0, .ref q0, .ref d0, .ref c0, .ref ta0, .int km, .int rf])), (h0, .inr (3, [.ref h1, .int (nI K)])), (h1, .inl (cI, 16, .inl r_25)), (sc0, .inr (3, [.ref sc1, .int (nI K)])), (sc1, .inl (cI, 16, .inl r_20)), (ta0, .inl (cI, 8, .inl r_22.2))] H := hP.sub [0, 2, 3, 4, 5, 1] rfl
                have hD : va_D A [(s0, .inr (5, [.ref h0, .ref sc0, .ref kp0, .ref a0, .ref q0, .ref d0, .ref c0, .ref ta0, .int km, .int rf])), (h0, .inr (3, [.ref h1, .int (nI K)])), (h1, .inl (cI, 16, .inl r_25)), (sc0, .inr (3, [.ref sc1, .int (nI K)])), (sc1, .inl (cI, 16, .inl r_20)), (ta0, .inl (cI, 8, .inl r_22.2))] := hD.sub [0, 2, 3, 4, 5, 1] (by decide) rfl
                refine lv_iinc (v := nI (round + 1)) (lv' := [(8, .int (nI (round + 1))), (11, .int then__23), (10, .int pairToo_18), (9, .int pair_8), (7, .int z_7), (4, .int edges), (5, .int swaps), (6, .int shorts), (0, .ref s0), (1, .int length), (3, .int rounds)]) hx hb dX6_mendByRounds_171 hl (k := 4) rfl (nI_1 _) (by decide) rfl (fun ls hl => ?_)
                refine lv_goto (tgt := 33) hx hb dX6_mendByRounds_174 (by decide) ?_
                exact ih_33 (round + 1) edges swaps shorts z_7 r_25 K r_20 r_22.2 _ _ _ (by omega) hed hr hP hD hS (lv_sub hl [0, 5, 6, 7, 4, 8, 9, 10] rfl)
              · have hr := if_no hr c_24
                refine lv_iload hx hb dX6_mendByRounds_150 (lv_at hl 0 rfl) ?_
                refine lv_istore (lv' := [(6, .int then__23), (11, .int then__23), (10, .int pairToo_18), (9, .int pair_8), (7, .int z_7), (8, .int (nI round)), (4, .int edges), (5, .int swaps), (0, .ref s0), (1, .int length), (3, .int rounds)]) hx hb dX6_mendByRounds_152 hl (by decide) rfl (fun ls hl => ?_)
                refine lv_iinc (v := swaps + 1) (lv' := [(5, .int (swaps + 1)), (6, .int then__23), (11, .int then__23), (10, .int pairToo_18), (9, .int pair_8), (7, .int z_7), (8, .int (nI round)), (4, .int edges), (0, .ref s0), (1, .int length), (3, .int rounds)]) hx hb dX6_mendByRounds_154 hl (k := 7) rfl rfl (by decide) rfl (fun ls hl => ?_)
                refine lv_goto (tgt := 171) hx hb dX6_mendByRounds_157 (by decide) ?_
                refine lv_iinc (v := nI (round + 1)) (lv' := [(8, .int (nI (round + 1))), (5, .int (swaps + 1)), (6, .int then__23), (11, .int then__23), (10, .int pairToo_18), (9, .int pair_8), (7, .int z_7), (4, .int edges), (0, .ref s0), (1, .int length), (3, .int rounds)]) hx hb dX6_mendByRounds_171 hl (k := 6) rfl (nI_1 _) (by decide) rfl (fun ls hl => ?_)
                refine lv_goto (tgt := 33) hx hb dX6_mendByRounds_174 (by decide) ?_
                exact ih_33 (round + 1) edges (swaps + 1) then__23 z_7 r_21 K r_20 r_22.2 _ _ _ (by omega) hed hr hP hD hS (lv_sub hl [0, 7, 1, 2, 6, 8, 9, 10] rfl)
    exact lp_33 rounds.toNatClampNeg 0 edges_1 0 shorts_4 seed f KS fs r_3.2 _ _ _ (by omega) (kNz2 (by assumption)) hr hP hD hS (lv_sub hl [0, 4, 3, 2, 1, 5, 6, 8] rfl)
  · have hr := if_no hr c_2
    refine lv_iconst (v := 0) hx hb dX6_mendByRounds_15 (by decide) ?_
    have he := hr.trans hρ
    exact W.iret (v := 0) hx hb hr0 (fun t ht hW => kVi_end (by rw [← he]) (by rw [← he]; exact hP) hS ht) hS.2.2 dX6_mendByRounds_16
