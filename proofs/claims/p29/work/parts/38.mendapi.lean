/-! the object: mended, with its refusals (printed by wip/gen) -/
def P_mend (K : Nat) (f : Nat → Int32) (KS : Nat) (fs : Nat → Int32) (ta : Nat → Int32) (t : Nat → Int32) (length : Int32) (seed : Int32) (rounds : Int32) : (Int32 × (Nat → Int32) × Nat × (Nat → Int32) × (Nat → Int32) × (Nat → Int32)) ⊕ Nat :=
  if (P_isWithin length 4 8) = 0 then
    Sum.inr 1
  else
    if (P_isWithin seed 0 9999) = 0 then
      Sum.inr 1
    else
      if (P_isWithin rounds 1 20) = 0 then
        Sum.inr 1
      else
        if (2 : Int32) ≤ (P_edgesInAll K f) then
          bd (P_mendByRounds K f KS fs ta length seed rounds) (fun r_5 =>
            bd (r_5.1) (fun swaps_6 =>
              bd (P_look t K r_5.2.1) (fun r_7 =>
                Sum.inl (swaps_6, r_5.2.1, r_5.2.2.1, r_5.2.2.2.1, r_5.2.2.2.2, r_7))))
        else
          Sum.inr 3
abbrev rm_X6_mend : Room := { frames := 12, cells := 0, slots := 0, locals := 321 }
set_option maxHeartbeats 4000000 in
set_option maxRecDepth 100000 in
theorem k_X6_mend (l : Launch) (dC : Nat → ClassId) (dI : Nat → Nat → Nat) (cI cN : ClassId) (s0 : Nat) (kp0 : Nat) (ta0 : Nat) (km : Int32) (rf : Int32) (d0 : Nat) (c0 : Nat) (h0 : Nat) (h1 : Nat) (K : Nat) (f : Nat → Int32) (sc0 : Nat) (sc1 : Nat) (KS : Nat) (fs : Nat → Int32) (a0 : Nat) (a1 : Nat) (a2 : Nat) (a3 : Nat) (a4 : Nat) (isOn : Int32) (cnt : Int32) (len : Int32) (stp : Int32) (sta : Int32) (pm : Int32) (bm : Int32) (bw : Nat → Int32) (bars : Nat → Int32) (puts : Nat → Int32) (bap : Nat → Int32) (q0 : Nat) (q1 : Nat) (q2 : Nat) (g : Nat → Int32) (t : Nat → Int32) (ta : Nat → Int32) (length : Int32) (seed : Int32) (rounds : Int32) (hK : K ≤ 16) (sz : Nat) (v : Int32 × (Nat → Int32) × Nat × (Nat → Int32) × (Nat → Int32) × (Nat → Int32)) (hok : P_mend K f KS fs ta t length seed rounds = .inl v) : Met l yX6_mend wsX6_mend rm_X6_mend (va_Pc [.ref s0, .int length, .int seed, .int rounds] (kU dC dI cI cN [(s0, .inr (5, [.ref h0, .ref sc0, .ref kp0, .ref a0, .ref q0, .ref d0, .ref c0, .ref ta0, .int km, .int rf])), (h0, .inr (3, [.ref h1, .int (nI K)])), (h1, .inl (cI, 16, .inl f)), (sc0, .inr (3, [.ref sc1, .int (nI KS)])), (sc1, .inl (cI, 16, .inl fs)), (a0, .inr (0, [.ref a1, .ref a2, .ref a3, .ref a4, .int isOn, .int cnt, .int len, .int stp, .int sta, .int pm, .int bm])), (a1, .inl (cI, 16, .inl bw)), (a2, .inl (cI, 120, .inl bars)), (a3, .inl (cI, 40, .inl puts)), (a4, .inl (cI, 40, .inl bap)), (q0, .inr (1, [.ref q1, .ref q2])), (q1, .inl (cI, 102, .inl g)), (q2, .inl (cI, 54, .inl t)), (ta0, .inl (cI, 8, .inl ta))] sz)) (kVi dC dI v.1 [(s0, .inr (5, [.ref h0, .ref sc0, .ref kp0, .ref a0, .ref q0, .ref d0, .ref c0, .ref ta0, .int km, .int rf])), (h0, .inr (3, [.ref h1, .int (nI K)])), (h1, .inl (cI, 16, .inl (v.2.1))), (sc0, .inr (3, [.ref sc1, .int (nI (v.2.2.1))])), (sc1, .inl (cI, 16, .inl (v.2.2.2.1))), (a0, .inr (0, [.ref a1, .ref a2, .ref a3, .ref a4, .int 0, .int cnt, .int len, .int stp, .int sta, .int pm, .int bm])), (a1, .inl (cI, 16, .inl bw)), (a2, .inl (cI, 120, .inl bars)), (a3, .inl (cI, 40, .inl puts)), (a4, .inl (cI, 40, .inl bap)), (q0, .inr (1, [.ref q1, .ref q2])), (q1, .inl (cI, 102, .inl g)), (q2, .inl (cI, 54, .inl (v.2.2.2.2.2))), (ta0, .inl (cI, 8, .inl (v.2.2.2.2.1)))] (va_A [(s0, .inr (5, [.ref h0, .ref sc0, .ref kp0, .ref a0, .ref q0, .ref d0, .ref c0, .ref ta0, .int km, .int rf])), (h0, .inr (3, [.ref h1, .int (nI K)])), (h1, .inl (cI, 16, .inl f)), (sc0, .inr (3, [.ref sc1, .int (nI KS)])), (sc1, .inl (cI, 16, .inl fs)), (a0, .inr (0, [.ref a1, .ref a2, .ref a3, .ref a4, .int isOn, .int cnt, .int len, .int stp, .int sta, .int pm, .int bm])), (a1, .inl (cI, 16, .inl bw)), (a2, .inl (cI, 120, .inl bars)), (a3, .inl (cI, 40, .inl puts)), (a4, .inl (cI, 40, .inl bap)), (q0, .inr (1, [.ref q1, .ref q2])), (q1, .inl (cI, 102, .inl g)), (q2, .inl (cI, 54, .inl t)), (ta0, .inl (cI, 8, .inl ta))] sz)) 0 0 (va_A [(s0, .inr (5, [.ref h0, .ref sc0, .ref kp0, .ref a0, .ref q0, .ref d0, .ref c0, .ref ta0, .int km, .int rf])), (h0, .inr (3, [.ref h1, .int (nI K)])), (h1, .inl (cI, 16, .inl f)), (sc0, .inr (3, [.ref sc1, .int (nI KS)])), (sc1, .inl (cI, 16, .inl fs)), (a0, .inr (0, [.ref a1, .ref a2, .ref a3, .ref a4, .int isOn, .int cnt, .int len, .int stp, .int sta, .int pm, .int bm])), (a1, .inl (cI, 16, .inl bw)), (a2, .inl (cI, 120, .inl bars)), (a3, .inl (cI, 40, .inl puts)), (a4, .inl (cI, 40, .inl bap)), (q0, .inr (1, [.ref q1, .ref q2])), (q1, .inl (cI, 102, .inl g)), (q2, .inl (cI, 54, .inl t)), (ta0, .inl (cI, 8, .inl ta))] sz) := by
  refine Met.ofW (cc := cX6_mend) (maxL := 5) (ret := (some .int)) (by decide) rfl ?_
  intro p e s m args below meth c s₁ B hml hv
  obtain ⟨rfl, hsz, hP, hK, hD0, hN⟩ := hv
  have hx := B.exec
  have hb := B.bytes
  have hr0 := B.returns
  have hts := atoms_spec (ws := wsX6_mend) B.pre
  have hown : s.vm.findClass RX6 = some m.cls := findClass_of_methodNamed B.named
  have hlocks := B.notSynchronized
  subst hsz
  have hD := hD0.self (sz := s.heap.size)
  generalize hAe : va_A [(s0, .inr (5, [.ref h0, .ref sc0, .ref kp0, .ref a0, .ref q0, .ref d0, .ref c0, .ref ta0, .int km, .int rf])), (h0, .inr (3, [.ref h1, .int (nI K)])), (h1, .inl (cI, 16, .inl f)), (sc0, .inr (3, [.ref sc1, .int (nI KS)])), (sc1, .inl (cI, 16, .inl fs)), (a0, .inr (0, [.ref a1, .ref a2, .ref a3, .ref a4, .int isOn, .int cnt, .int len, .int stp, .int sta, .int pm, .int bm])), (a1, .inl (cI, 16, .inl bw)), (a2, .inl (cI, 120, .inl bars)), (a3, .inl (cI, 40, .inl puts)), (a4, .inl (cI, 40, .inl bap)), (q0, .inr (1, [.ref q1, .ref q2])), (q1, .inl (cI, 102, .inl g)), (q2, .inl (cI, 54, .inl t)), (ta0, .inl (cI, 8, .inl ta))] s.heap.size = A at hD ⊢
  have hA : ∀ q : Nat, s.heap.size ≤ q → A q := fun q h => by rw [← hAe]; exact Or.inr h
  have hS : va_S A s.heap s.heap [] := va_S.rf
  have hl := lv_entry ([.ref s0, .int length, .int seed, .int rounds]) (n := 5) (Nat.le_of_ble_eq_true rfl)
  rw [lg_entry_eq]
  generalize (lg_sl ([.ref s0, .int length, .int seed, .int rounds]) ++ List.replicate (5 - (lg_sl ([.ref s0, .int length, .int seed, .int rounds])).length) Slot.unset).toArray = ls at hl ⊢
  have hl : lv_has ls 5 [(0, .ref s0), (1, .int length), (2, .int seed), (3, .int rounds)] := hl
  obtain ⟨ρ, hρ⟩ : ∃ ρ : (Int32 × (Nat → Int32) × Nat × (Nat → Int32) × (Nat → Int32) × (Nat → Int32)) ⊕ Nat, ρ = P_mend K f KS fs ta t length seed rounds := ⟨_, rfl⟩
  have hr : P_mend K f KS fs ta t length seed rounds = ρ := hρ.symm
  rewrite [P_mend] at hr
  refine lv_iload_n hx hb dX6_mend_0 rfl (lv_at hl 1 rfl) ?_
  refine lv_iconst (v := 4) hx hb dX6_mend_1 (by decide) ?_
  refine lv_bipush (v := 8) hx hb dX6_mend_2 (by decide) ?_
  refine kCall (va_runS (As := [.int length, .int 4, .int 8]) (rest := []) ⟨hx, hb, hml, hown, hts⟩ (k_X6_isWithin l dC dI cI cN length 4 8) (va_cwS 3 hts gX6_mend_X6_isWithin rfl rfl rfl (by decide +kernel) ⟨Nat.le_of_ble_eq_true rfl, Nat.le_of_ble_eq_true rfl⟩) (kW_S hP hK hD hN [] rfl rfl rfl) rfl rfl hl.1 rfl (lv_room (Nat.le_of_ble_eq_true rfl)) dX6_mend_4 ⟨Nat.zero_le _, Nat.zero_le _⟩) hP hS (fun H locs hP hS => ?_)
  refine lv_if_ne (tgt := 20) hx hb dX6_mend_7 (by decide) (fun c_1 => ?_) (fun c_1 => ?_)
  · have hr := if_no hr c_1
    refine lv_iload_n hx hb dX6_mend_20 rfl (lv_at hl 2 rfl) ?_
    refine lv_iconst (v := 0) hx hb dX6_mend_21 (by decide) ?_
    refine lv_sipush (v := 9999) hx hb dX6_mend_22 (by decide) ?_
    refine kCall (va_runS (As := [.int seed, .int 0, .int 9999]) (rest := []) ⟨hx, hb, hml, hown, hts⟩ (k_X6_isWithin l dC dI cI cN seed 0 9999) (va_cwS 3 hts gX6_mend_X6_isWithin rfl rfl rfl (by decide +kernel) ⟨Nat.le_of_ble_eq_true rfl, Nat.le_of_ble_eq_true rfl⟩) (kW_S hP hK hD hN [] rfl rfl rfl) rfl rfl hl.1 rfl (lv_room (Nat.le_of_ble_eq_true rfl)) dX6_mend_25 ⟨Nat.zero_le _, Nat.zero_le _⟩) hP hS (fun H locs hP hS => ?_)
    refine lv_if_ne (tgt := 41) hx hb dX6_mend_28 (by decide) (fun c_2 => ?_) (fun c_2 => ?_)
    · have hr := if_no hr c_2
      refine lv_iload_n hx hb dX6_mend_41 rfl (lv_at hl 3 rfl) ?_
      refine lv_iconst (v := 1) hx hb dX6_mend_42 (by decide) ?_
      refine lv_bipush (v := 20) hx hb dX6_mend_43 (by decide) ?_
      refine kCall (va_runS (As := [.int rounds, .int 1, .int 20]) (rest := []) ⟨hx, hb, hml, hown, hts⟩ (k_X6_isWithin l dC dI cI cN rounds 1 20) (va_cwS 3 hts gX6_mend_X6_isWithin rfl rfl rfl (by decide +kernel) ⟨Nat.le_of_ble_eq_true rfl, Nat.le_of_ble_eq_true rfl⟩) (kW_S hP hK hD hN [] rfl rfl rfl) rfl rfl hl.1 rfl (lv_room (Nat.le_of_ble_eq_true rfl)) dX6_mend_45 ⟨Nat.zero_le _, Nat.zero_le _⟩) hP hS (fun H locs hP hS => ?_)
      refine lv_if_ne (tgt := 61) hx hb dX6_mend_48 (by decide) (fun c_3 => ?_) (fun c_3 => ?_)
      · have hr := if_no hr c_3
        refine lv_aload_n hx hb dX6_mend_61 rfl (lv_at hl 0 rfl) ?_
        refine va_get (D := (dC, dI)) (ci := 5) (v := .ref h0) (C := RX6) (T := TX6) (N := 10) hx hb hts (by decide +kernel) hown hK hP 0 rfl rfl 0 (by decide) (hts (.fieldLink RX6 12 "Shortring" "net" "LShortring$Net;") (by decide +kernel)) (fun _ h9 => h9) rfl dX6_mend_62 ?_
        refine kCall (va_runVN (As := []) (rest := []) ⟨hx, hb, hml, hown, hts⟩ (k_X3_edgesInAll l dC dI cI cN h0 h1 K f (by first | assumption | omega | exact Int32.le_refl _ | decide)) ⟨va_cnB 0 hts gX6_mend_X3_edgesInAll_n130 rfl rfl rfl (hN.1 13 _ rfl) (hts (.initialized RX3) (by decide +kernel)) (by decide +kernel) ⟨Nat.le_of_ble_eq_true rfl, Nat.le_of_ble_eq_true rfl⟩, hts (.instanceMethod yX3_edgesInAll) (by decide +kernel), hts (.selects RX3 yX3_edgesInAll yX3_edgesInAll) (by decide +kernel)⟩ (kW_V hP hK hD hN (ci := 3) (q0 := 1) rfl rfl [1, 2] rfl rfl rfl) rfl rfl hl.1 rfl (lv_room (Nat.le_of_ble_eq_true rfl)) dX6_mend_65 ⟨Nat.zero_le _, Nat.zero_le _⟩) hP hS (fun H locs hP hS => ?_)
        refine lv_iconst (v := 2) hx hb dX6_mend_68 (by decide) ?_
        refine lv_icmp_ge (tgt := 82) hx hb dX6_mend_69 (by decide) (fun c_4 => ?_) (fun c_4 => ?_)
        · have hr := if_to hr c_4
          refine lv_aload_n hx hb dX6_mend_82 rfl (lv_at hl 0 rfl) ?_
          refine lv_iload_n hx hb dX6_mend_83 rfl (lv_at hl 1 rfl) ?_
          refine lv_iload_n hx hb dX6_mend_84 rfl (lv_at hl 2 rfl) ?_
          refine lv_iload_n hx hb dX6_mend_85 rfl (lv_at hl 3 rfl) ?_
          refine kCallVi (wr := [(a0, .inr (0, [.ref a1, .ref a2, .ref a3, .ref a4, .int isOn, .int cnt, .int len, .int stp, .int sta, .int pm, .int bm])), (a1, .inl (cI, 16, .inl bw)), (a2, .inl (cI, 120, .inl bars)), (a3, .inl (cI, 40, .inl puts)), (a4, .inl (cI, 40, .inl bap)), (q0, .inr (1, [.ref q1, .ref q2])), (q1, .inl (cI, 102, .inl g)), (q2, .inl (cI, 54, .inl t))]) (va_runV (As := [.int length, .int seed, .int rounds]) (rest := []) ⟨hx, hb, hml, hown, hts⟩ (k_X6_mendByRounds l dC dI cI cN s0 kp0 ta0 km rf a0 q0 d0 c0 h0 h1 K f sc0 sc1 KS fs ta length seed rounds (by first | assumption | omega | exact Int32.le_refl _ | decide) _) (cwV 3 hts gX6_mend_X6_mendByRounds rfl rfl rfl (by decide +kernel) ⟨Nat.le_of_ble_eq_true rfl, Nat.le_of_ble_eq_true rfl⟩) (kU_V hP hK hD hN (ci := 5) (q0 := 0) rfl rfl [0, 1, 2, 3, 4, 13] rfl rfl rfl) rfl rfl hl.1 rfl (lv_room (Nat.le_of_ble_eq_true rfl)) dX6_mend_86 ⟨Nat.zero_le _, Nat.zero_le _⟩) hP hD hS hA [0, 1, 2, 3, 4, 13] [5, 6, 7, 8, 9, 10, 11, 12] rfl rfl rfl rfl (by decide) rfl (fun H locs hP hD hS => ?_)
          obtain ⟨r_5, er_5⟩ : ∃ y : Int32 × (Nat → Int32) × Nat × (Nat → Int32) × (Nat → Int32), y = (P_mendByRounds K f KS fs ta length seed rounds) := ⟨_, rfl⟩
          rw [← er_5]
          try rw [← er_5] at hP hD
          have hr := bd_to hr er_5
          have hP : va_P (dC, dI) kCl [(s0, .inr (5, [.ref h0, .ref sc0, .ref kp0, .ref a0, .ref q0, .ref d0, .ref c0, .ref ta0, .int km, .int rf])), (h0, .inr (3, [.ref h1, .int (nI K)])), (h1, .inl (cI, 16, .inl r_5.2.1)), (sc0, .inr (3, [.ref sc1, .int (nI r_5.2.2.1)])), (sc1, .inl (cI, 16, .inl r_5.2.2.2.1)), (a0, .inr (0, [.ref a1, .ref a2, .ref a3, .ref a4, .int isOn, .int cnt, .int len, .int stp, .int sta, .int pm, .int bm])), (a1, .inl (cI, 16, .inl bw)), (a2, .inl (cI, 120, .inl bars)), (a3, .inl (cI, 40, .inl puts)), (a4, .inl (cI, 40, .inl bap)), (q0, .inr (1, [.ref q1, .ref q2])), (q1, .inl (cI, 102, .inl g)), (q2, .inl (cI, 54, .inl t)), (ta0, .inl (cI, 8, .inl r_5.2.2.2.2))] H := hP.sub [8, 9, 10, 11, 12, 0, 1, 2, 3, 4, 5, 6, 7, 13] rfl
          have hD : va_D A [(s0, .inr (5, [.ref h0, .ref sc0, .ref kp0, .ref a0, .ref q0, .ref d0, .ref c0, .ref ta0, .int km, .int rf])), (h0, .inr (3, [.ref h1, .int (nI K)])), (h1, .inl (cI, 16, .inl r_5.2.1)), (sc0, .inr (3, [.ref sc1, .int (nI r_5.2.2.1)])), (sc1, .inl (cI, 16, .inl r_5.2.2.2.1)), (a0, .inr (0, [.ref a1, .ref a2, .ref a3, .ref a4, .int isOn, .int cnt, .int len, .int stp, .int sta, .int pm, .int bm])), (a1, .inl (cI, 16, .inl bw)), (a2, .inl (cI, 120, .inl bars)), (a3, .inl (cI, 40, .inl puts)), (a4, .inl (cI, 40, .inl bap)), (q0, .inr (1, [.ref q1, .ref q2])), (q1, .inl (cI, 102, .inl g)), (q2, .inl (cI, 54, .inl t)), (ta0, .inl (cI, 8, .inl r_5.2.2.2.2))] := hD.sub [8, 9, 10, 11, 12, 0, 1, 2, 3, 4, 5, 6, 7, 13] (by decide) rfl
          refine lv_topi (fun swaps_6 eswaps_6 => ?_)
          have hr := bd_to hr eswaps_6
          refine lv_istore (lv' := [(4, .int swaps_6), (0, .ref s0), (1, .int length), (2, .int seed), (3, .int rounds)]) hx hb dX6_mend_89 hl (by decide) rfl (fun ls hl => ?_)
          refine lv_aload_n hx hb dX6_mend_91 rfl (lv_at hl 1 rfl) ?_
          refine va_get (D := (dC, dI)) (ci := 5) (v := .ref a0) (C := RX6) (T := TX6) (N := 10) hx hb hts (by decide +kernel) hown hK hP 0 rfl rfl 3 (by decide) (hts (.fieldLink RX6 26 "Shortring" "hunt" "LShortring$Hunt;") (by decide +kernel)) (fun _ h9 => h9) rfl dX6_mend_92 ?_
          refine kCallV (wr := [(s0, .inr (5, [.ref h0, .ref sc0, .ref kp0, .ref a0, .ref q0, .ref d0, .ref c0, .ref ta0, .int km, .int rf])), (h0, .inr (3, [.ref h1, .int (nI K)])), (h1, .inl (cI, 16, .inl r_5.2.1)), (sc0, .inr (3, [.ref sc1, .int (nI r_5.2.2.1)])), (sc1, .inl (cI, 16, .inl r_5.2.2.2.1)), (q0, .inr (1, [.ref q1, .ref q2])), (q1, .inl (cI, 102, .inl g)), (q2, .inl (cI, 54, .inl t)), (ta0, .inl (cI, 8, .inl r_5.2.2.2.2))]) (va_runVN (As := []) (rest := []) ⟨hx, hb, hml, hown, hts⟩ (k_X0_end l dC dI cI cN a0 a1 a2 a3 a4 isOn cnt len stp sta pm bm bw bars puts bap _) ⟨va_cnB 0 hts gX6_mend_X0_end_n80 rfl rfl rfl (hN.1 6 _ rfl) (hts (.initialized RX0) (by decide +kernel)) (by decide +kernel) ⟨Nat.le_of_ble_eq_true rfl, Nat.le_of_ble_eq_true rfl⟩, hts (.instanceMethod yX0_end) (by decide +kernel), hts (.selects RX0 yX0_end yX0_end) (by decide +kernel)⟩ (kU_V hP hK hD hN (ci := 0) (q0 := 5) rfl rfl [5, 6, 7, 8, 9] rfl rfl rfl) rfl rfl hl.1 rfl (lv_room (Nat.le_of_ble_eq_true rfl)) dX6_mend_95 ⟨Nat.zero_le _, Nat.zero_le _⟩) hP hD hS hA [5, 6, 7, 8, 9] [0, 1, 2, 3, 4, 10, 11, 12, 13] rfl rfl rfl rfl (by decide) rfl (fun H locs hP hD hS => ?_)
          have hP : va_P (dC, dI) kCl [(s0, .inr (5, [.ref h0, .ref sc0, .ref kp0, .ref a0, .ref q0, .ref d0, .ref c0, .ref ta0, .int km, .int rf])), (h0, .inr (3, [.ref h1, .int (nI K)])), (h1, .inl (cI, 16, .inl r_5.2.1)), (sc0, .inr (3, [.ref sc1, .int (nI r_5.2.2.1)])), (sc1, .inl (cI, 16, .inl r_5.2.2.2.1)), (a0, .inr (0, [.ref a1, .ref a2, .ref a3, .ref a4, .int 0, .int cnt, .int len, .int stp, .int sta, .int pm, .int bm])), (a1, .inl (cI, 16, .inl bw)), (a2, .inl (cI, 120, .inl bars)), (a3, .inl (cI, 40, .inl puts)), (a4, .inl (cI, 40, .inl bap)), (q0, .inr (1, [.ref q1, .ref q2])), (q1, .inl (cI, 102, .inl g)), (q2, .inl (cI, 54, .inl t)), (ta0, .inl (cI, 8, .inl r_5.2.2.2.2))] H := hP.sub [0, 1, 2, 3, 4, 9, 10, 11, 12, 13, 5, 6, 7, 8] rfl
          have hD : va_D A [(s0, .inr (5, [.ref h0, .ref sc0, .ref kp0, .ref a0, .ref q0, .ref d0, .ref c0, .ref ta0, .int km, .int rf])), (h0, .inr (3, [.ref h1, .int (nI K)])), (h1, .inl (cI, 16, .inl r_5.2.1)), (sc0, .inr (3, [.ref sc1, .int (nI r_5.2.2.1)])), (sc1, .inl (cI, 16, .inl r_5.2.2.2.1)), (a0, .inr (0, [.ref a1, .ref a2, .ref a3, .ref a4, .int 0, .int cnt, .int len, .int stp, .int sta, .int pm, .int bm])), (a1, .inl (cI, 16, .inl bw)), (a2, .inl (cI, 120, .inl bars)), (a3, .inl (cI, 40, .inl puts)), (a4, .inl (cI, 40, .inl bap)), (q0, .inr (1, [.ref q1, .ref q2])), (q1, .inl (cI, 102, .inl g)), (q2, .inl (cI, 54, .inl t)), (ta0, .inl (cI, 8, .inl r_5.2.2.2.2))] := hD.sub [0, 1, 2, 3, 4, 9, 10, 11, 12, 13, 5, 6, 7, 8] (by decide) rfl
          refine lv_aload_n hx hb dX6_mend_98 rfl (lv_at hl 1 rfl) ?_
          refine va_get (D := (dC, dI)) (ci := 5) (v := .ref q0) (C := RX6) (T := TX6) (N := 10) hx hb hts (by decide +kernel) hown hK hP 0 rfl rfl 4 (by decide) (hts (.fieldLink RX6 33 "Shortring" "ledger" "LShortring$Ledger;") (by decide +kernel)) (fun _ h9 => h9) rfl dX6_mend_99 ?_
          refine lv_aload_n hx hb dX6_mend_102 rfl (lv_at hl 1 rfl) ?_
          refine va_get (D := (dC, dI)) (ci := 5) (v := .ref h0) (C := RX6) (T := TX6) (N := 10) hx hb hts (by decide +kernel) hown hK hP 0 rfl rfl 0 (by decide) (hts (.fieldLink RX6 12 "Shortring" "net" "LShortring$Net;") (by decide +kernel)) (fun _ h9 => h9) rfl dX6_mend_103 ?_
          refine kCallV (wr := [(s0, .inr (5, [.ref h0, .ref sc0, .ref kp0, .ref a0, .ref q0, .ref d0, .ref c0, .ref ta0, .int km, .int rf])), (sc0, .inr (3, [.ref sc1, .int (nI r_5.2.2.1)])), (sc1, .inl (cI, 16, .inl r_5.2.2.2.1)), (a0, .inr (0, [.ref a1, .ref a2, .ref a3, .ref a4, .int 0, .int cnt, .int len, .int stp, .int sta, .int pm, .int bm])), (a1, .inl (cI, 16, .inl bw)), (a2, .inl (cI, 120, .inl bars)), (a3, .inl (cI, 40, .inl puts)), (a4, .inl (cI, 40, .inl bap)), (ta0, .inl (cI, 8, .inl r_5.2.2.2.2))]) (va_runVN (As := [.ref h0]) (rest := []) ⟨hx, hb, hml, hown, hts⟩ (k_X1_look l dC dI cI cN q0 q1 q2 g t h0 h1 K r_5.2.1 (by first | assumption | omega | exact Int32.le_refl _ | decide) _) ⟨va_cnB 1 hts gX6_mend_X1_look_n83 rfl rfl rfl (hN.1 7 _ rfl) (hts (.initialized RX1) (by decide +kernel)) (by decide +kernel) ⟨Nat.le_of_ble_eq_true rfl, Nat.le_of_ble_eq_true rfl⟩, hts (.instanceMethod yX1_look) (by decide +kernel), hts (.selects RX1 yX1_look yX1_look) (by decide +kernel)⟩ (kU_V hP hK hD hN (ci := 1) (q0 := 10) rfl rfl [10, 11, 12, 1, 2] rfl rfl rfl) rfl rfl hl.1 rfl (lv_room (Nat.le_of_ble_eq_true rfl)) dX6_mend_106 ⟨Nat.zero_le _, Nat.zero_le _⟩) hP hD hS hA [10, 11, 12, 1, 2] [0, 3, 4, 5, 6, 7, 8, 9, 13] rfl rfl rfl rfl (by decide) rfl (fun H locs hP hD hS => ?_)
          obtain ⟨r_7, er_7⟩ : ∃ y : Nat → Int32, y = (P_look t K r_5.2.1) := ⟨_, rfl⟩
          try rw [← er_7] at hP hD
          have hr := bd_to hr er_7
          have hP : va_P (dC, dI) kCl [(s0, .inr (5, [.ref h0, .ref sc0, .ref kp0, .ref a0, .ref q0, .ref d0, .ref c0, .ref ta0, .int km, .int rf])), (h0, .inr (3, [.ref h1, .int (nI K)])), (h1, .inl (cI, 16, .inl r_5.2.1)), (sc0, .inr (3, [.ref sc1, .int (nI r_5.2.2.1)])), (sc1, .inl (cI, 16, .inl r_5.2.2.2.1)), (a0, .inr (0, [.ref a1, .ref a2, .ref a3, .ref a4, .int 0, .int cnt, .int len, .int stp, .int sta, .int pm, .int bm])), (a1, .inl (cI, 16, .inl bw)), (a2, .inl (cI, 120, .inl bars)), (a3, .inl (cI, 40, .inl puts)), (a4, .inl (cI, 40, .inl bap)), (q0, .inr (1, [.ref q1, .ref q2])), (q1, .inl (cI, 102, .inl g)), (q2, .inl (cI, 54, .inl r_7)), (ta0, .inl (cI, 8, .inl r_5.2.2.2.2))] H := hP.sub [0, 12, 13, 1, 2, 3, 4, 5, 6, 7, 9, 10, 11, 8] rfl
          have hD : va_D A [(s0, .inr (5, [.ref h0, .ref sc0, .ref kp0, .ref a0, .ref q0, .ref d0, .ref c0, .ref ta0, .int km, .int rf])), (h0, .inr (3, [.ref h1, .int (nI K)])), (h1, .inl (cI, 16, .inl r_5.2.1)), (sc0, .inr (3, [.ref sc1, .int (nI r_5.2.2.1)])), (sc1, .inl (cI, 16, .inl r_5.2.2.2.1)), (a0, .inr (0, [.ref a1, .ref a2, .ref a3, .ref a4, .int 0, .int cnt, .int len, .int stp, .int sta, .int pm, .int bm])), (a1, .inl (cI, 16, .inl bw)), (a2, .inl (cI, 120, .inl bars)), (a3, .inl (cI, 40, .inl puts)), (a4, .inl (cI, 40, .inl bap)), (q0, .inr (1, [.ref q1, .ref q2])), (q1, .inl (cI, 102, .inl g)), (q2, .inl (cI, 54, .inl r_7)), (ta0, .inl (cI, 8, .inl r_5.2.2.2.2))] := hD.sub [0, 12, 13, 1, 2, 3, 4, 5, 6, 7, 9, 10, 11, 8] (by decide) rfl
          refine lv_iload hx hb dX6_mend_109 (lv_at hl 0 rfl) ?_
          have he := Sum.inl.inj (hr.trans (hρ.trans hok))
          subst he
          exact W.iret (v := swaps_6) hx hb hr0 (fun t ht hW => kVi_end rfl hP hS ht) hS.2.2 dX6_mend_111
        · have hr := if_no hr c_4
          cases hr.trans (hρ.trans hok)
      · have hr := if_to hr c_3
        cases hr.trans (hρ.trans hok)
    · have hr := if_to hr c_2
      cases hr.trans (hρ.trans hok)
  · have hr := if_to hr c_1
    cases hr.trans (hρ.trans hok)
theorem gfX6_mend_1 : ∀ w ∈ (vx_atS RX6 70 (kCls 1) kNs).filter goodWord, w ∈ wsX6_mend := fun w h => List.mem_cons_of_mem _ (List.mem_append_left _ (List.mem_append_right _ h))
theorem gfX6_mend_3 : ∀ w ∈ (vx_atS RX6 110 (kCls 3) kNs).filter goodWord, w ∈ wsX6_mend := fun w h => List.mem_cons_of_mem _ (List.mem_append_right _ h)
abbrev rx_X6_mend : Room := { frames := 12, cells := 1, slots := 6, locals := 321 }
set_option maxHeartbeats 4000000 in
set_option maxRecDepth 100000 in
theorem e_X6_mend (l : Launch) (hl9 : l.stackTraces = false) (dC : Nat → ClassId) (dI : Nat → Nat → Nat) (cI cN : ClassId) (s0 : Nat) (kp0 : Nat) (ta0 : Nat) (km : Int32) (rf : Int32) (d0 : Nat) (c0 : Nat) (h0 : Nat) (h1 : Nat) (K : Nat) (f : Nat → Int32) (sc0 : Nat) (sc1 : Nat) (KS : Nat) (fs : Nat → Int32) (a0 : Nat) (a1 : Nat) (a2 : Nat) (a3 : Nat) (a4 : Nat) (isOn : Int32) (cnt : Int32) (len : Int32) (stp : Int32) (sta : Int32) (pm : Int32) (bm : Int32) (bw : Nat → Int32) (bars : Nat → Int32) (puts : Nat → Int32) (bap : Nat → Int32) (q0 : Nat) (q1 : Nat) (q2 : Nat) (g : Nat → Int32) (t : Nat → Int32) (ta : Nat → Int32) (length : Int32) (seed : Int32) (rounds : Int32) (hK : K ≤ 16) (kx : Nat) (hex : P_mend K f KS fs ta t length seed rounds = .inr kx) : vx_Met l yX6_mend wsX6_mend rx_X6_mend (va_Pc [.ref s0, .int length, .int seed, .int rounds] (kWE dC dI cI cN [(s0, .inr (5, [.ref h0, .ref sc0, .ref kp0, .ref a0, .ref q0, .ref d0, .ref c0, .ref ta0, .int km, .int rf])), (h0, .inr (3, [.ref h1, .int (nI K)])), (h1, .inl (cI, 16, .inl f)), (sc0, .inr (3, [.ref sc1, .int (nI KS)])), (sc1, .inl (cI, 16, .inl fs)), (a0, .inr (0, [.ref a1, .ref a2, .ref a3, .ref a4, .int isOn, .int cnt, .int len, .int stp, .int sta, .int pm, .int bm])), (a1, .inl (cI, 16, .inl bw)), (a2, .inl (cI, 120, .inl bars)), (a3, .inl (cI, 40, .inl puts)), (a4, .inl (cI, 40, .inl bap)), (q0, .inr (1, [.ref q1, .ref q2])), (q1, .inl (cI, 102, .inl g)), (q2, .inl (cI, 54, .inl t)), (ta0, .inl (cI, 8, .inl ta))])) kNoi (kX kx) 1 6 (fun _ => False) := by
  refine vx_ofW (cc := cX6_mend) (maxL := 5) (ret := (some .int)) (by decide) rfl ?_
  intro p e s m args below meth c s₁ B hml hxt hv
  obtain ⟨rfl, ⟨hP, hK, hD, hN⟩, hE⟩ := hv
  have hx := B.exec
  have hb := B.bytes
  have hr0 := B.returns
  have hts := atoms_spec (ws := wsX6_mend) B.pre
  have hown : s.vm.findClass RX6 = some m.cls := findClass_of_methodNamed B.named
  have hlocks := B.notSynchronized
  have hS : va_S (fun _ => False) s.heap s.heap [] := va_S.rf
  have hl := lv_entry ([.ref s0, .int length, .int seed, .int rounds]) (n := 5) (Nat.le_of_ble_eq_true rfl)
  rw [lg_entry_eq]
  generalize (lg_sl ([.ref s0, .int length, .int seed, .int rounds]) ++ List.replicate (5 - (lg_sl ([.ref s0, .int length, .int seed, .int rounds])).length) Slot.unset).toArray = ls at hl ⊢
  have hl : lv_has ls 5 [(0, .ref s0), (1, .int length), (2, .int seed), (3, .int rounds)] := hl
  obtain ⟨ρ, hρ⟩ : ∃ ρ : (Int32 × (Nat → Int32) × Nat × (Nat → Int32) × (Nat → Int32) × (Nat → Int32)) ⊕ Nat, ρ = P_mend K f KS fs ta t length seed rounds := ⟨_, rfl⟩
  have hr : P_mend K f KS fs ta t length seed rounds = ρ := hρ.symm
  rewrite [P_mend] at hr
  refine lv_iload_n hx hb dX6_mend_0 rfl (lv_at hl 1 rfl) ?_
  refine lv_iconst (v := 4) hx hb dX6_mend_1 (by decide) ?_
  refine lv_bipush (v := 8) hx hb dX6_mend_2 (by decide) ?_
  refine kCall (va_runS (As := [.int length, .int 4, .int 8]) (rest := []) ⟨hx, hb, hml, hown, hts⟩ (k_X6_isWithin l dC dI cI cN length 4 8) (va_cwS 3 hts gX6_mend_X6_isWithin rfl rfl rfl (by decide +kernel) ⟨Nat.le_of_ble_eq_true rfl, Nat.le_of_ble_eq_true rfl⟩) (kW_S hP hK hD hN [] rfl rfl rfl) rfl rfl hl.1 rfl (lv_room (Nat.le_of_ble_eq_true rfl)) dX6_mend_4 ⟨Nat.zero_le _, Nat.zero_le _⟩) hP hS (fun H locs hP hS => ?_)
  refine lv_if_ne (tgt := 20) hx hb dX6_mend_7 (by decide) (fun c_1 => ?_) (fun c_1 => ?_)
  · have hr := if_no hr c_1
    refine lv_iload_n hx hb dX6_mend_20 rfl (lv_at hl 2 rfl) ?_
    refine lv_iconst (v := 0) hx hb dX6_mend_21 (by decide) ?_
    refine lv_sipush (v := 9999) hx hb dX6_mend_22 (by decide) ?_
    refine kCall (va_runS (As := [.int seed, .int 0, .int 9999]) (rest := []) ⟨hx, hb, hml, hown, hts⟩ (k_X6_isWithin l dC dI cI cN seed 0 9999) (va_cwS 3 hts gX6_mend_X6_isWithin rfl rfl rfl (by decide +kernel) ⟨Nat.le_of_ble_eq_true rfl, Nat.le_of_ble_eq_true rfl⟩) (kW_S hP hK hD hN [] rfl rfl rfl) rfl rfl hl.1 rfl (lv_room (Nat.le_of_ble_eq_true rfl)) dX6_mend_25 ⟨Nat.zero_le _, Nat.zero_le _⟩) hP hS (fun H locs hP hS => ?_)
    refine lv_if_ne (tgt := 41) hx hb dX6_mend_28 (by decide) (fun c_2 => ?_) (fun c_2 => ?_)
    · have hr := if_no hr c_2
      refine lv_iload_n hx hb dX6_mend_41 rfl (lv_at hl 3 rfl) ?_
      refine lv_iconst (v := 1) hx hb dX6_mend_42 (by decide) ?_
      refine lv_bipush (v := 20) hx hb dX6_mend_43 (by decide) ?_
      refine kCall (va_runS (As := [.int rounds, .int 1, .int 20]) (rest := []) ⟨hx, hb, hml, hown, hts⟩ (k_X6_isWithin l dC dI cI cN rounds 1 20) (va_cwS 3 hts gX6_mend_X6_isWithin rfl rfl rfl (by decide +kernel) ⟨Nat.le_of_ble_eq_true rfl, Nat.le_of_ble_eq_true rfl⟩) (kW_S hP hK hD hN [] rfl rfl rfl) rfl rfl hl.1 rfl (lv_room (Nat.le_of_ble_eq_true rfl)) dX6_mend_45 ⟨Nat.zero_le _, Nat.zero_le _⟩) hP hS (fun H locs hP hS => ?_)
      refine lv_if_ne (tgt := 61) hx hb dX6_mend_48 (by decide) (fun c_3 => ?_) (fun c_3 => ?_)
      · have hr := if_no hr c_3
        refine lv_aload_n hx hb dX6_mend_61 rfl (lv_at hl 0 rfl) ?_
        refine va_get (D := (dC, dI)) (ci := 5) (v := .ref h0) (C := RX6) (T := TX6) (N := 10) hx hb hts (by decide +kernel) hown hK hP 0 rfl rfl 0 (by decide) (hts (.fieldLink RX6 12 "Shortring" "net" "LShortring$Net;") (by decide +kernel)) (fun _ h9 => h9) rfl dX6_mend_62 ?_
        refine kCall (va_runVN (As := []) (rest := []) ⟨hx, hb, hml, hown, hts⟩ (k_X3_edgesInAll l dC dI cI cN h0 h1 K f (by first | assumption | omega | exact Int32.le_refl _ | decide)) ⟨va_cnB 0 hts gX6_mend_X3_edgesInAll_n130 rfl rfl rfl (hN.1 13 _ rfl) (hts (.initialized RX3) (by decide +kernel)) (by decide +kernel) ⟨Nat.le_of_ble_eq_true rfl, Nat.le_of_ble_eq_true rfl⟩, hts (.instanceMethod yX3_edgesInAll) (by decide +kernel), hts (.selects RX3 yX3_edgesInAll yX3_edgesInAll) (by decide +kernel)⟩ (kW_V hP hK hD hN (ci := 3) (q0 := 1) rfl rfl [1, 2] rfl rfl rfl) rfl rfl hl.1 rfl (lv_room (Nat.le_of_ble_eq_true rfl)) dX6_mend_65 ⟨Nat.zero_le _, Nat.zero_le _⟩) hP hS (fun H locs hP hS => ?_)
        refine lv_iconst (v := 2) hx hb dX6_mend_68 (by decide) ?_
        refine lv_icmp_ge (tgt := 82) hx hb dX6_mend_69 (by decide) (fun c_4 => ?_) (fun c_4 => ?_)
        · have hr := if_to hr c_4
          refine lv_aload_n hx hb dX6_mend_82 rfl (lv_at hl 0 rfl) ?_
          refine lv_iload_n hx hb dX6_mend_83 rfl (lv_at hl 1 rfl) ?_
          refine lv_iload_n hx hb dX6_mend_84 rfl (lv_at hl 2 rfl) ?_
          refine lv_iload_n hx hb dX6_mend_85 rfl (lv_at hl 3 rfl) ?_
          exact kNoway (hr.trans (hρ.trans hex)) (by simp only [bd]; (repeat' split) <;> exact ⟨_, rfl⟩)
        · have hr := if_no hr c_4
          exact kThrowS hx hb hl9 hown 3 (ik := 106) (is := 174) (ic := 110) (Sum.inr.inj (hr.trans (hρ.trans hex))) (by decide +kernel) (hts (.classLink RX6 106 "java/lang/IllegalStateException") (by decide +kernel)) (hts (.initialized "java/lang/IllegalStateException") (by decide +kernel)) 11 rfl (fun w h => hts w (gfX6_mend_3 w h)) kBad3 (kHg kOt3) hE hS (hl.1.trans hml.symm) dX6_mend_72 dX6_mend_75 dX6_mend_76 dX6_mend_78 dX6_mend_81 hxt (Nat.le_of_ble_eq_true rfl) (Nat.le_of_ble_eq_true rfl) (Nat.le_of_ble_eq_true rfl) (Nat.le_of_ble_eq_true rfl) hlocks
      · have hr := if_to hr c_3
        exact kThrowS hx hb hl9 hown 1 (ik := 66) (is := 172) (ic := 70) (Sum.inr.inj (hr.trans (hρ.trans hex))) (by decide +kernel) (hts (.classLink RX6 66 "java/lang/IllegalArgumentException") (by decide +kernel)) (hts (.initialized "java/lang/IllegalArgumentException") (by decide +kernel)) 10 rfl (fun w h => hts w (gfX6_mend_1 w h)) kBad1 (kHg kOt1) hE hS (hl.1.trans hml.symm) dX6_mend_51 dX6_mend_54 dX6_mend_55 dX6_mend_57 dX6_mend_60 hxt (Nat.le_of_ble_eq_true rfl) (Nat.le_of_ble_eq_true rfl) (Nat.le_of_ble_eq_true rfl) (Nat.le_of_ble_eq_true rfl) hlocks
    · have hr := if_to hr c_2
      exact kThrowS hx hb hl9 hown 1 (ik := 66) (is := 170) (ic := 70) (Sum.inr.inj (hr.trans (hρ.trans hex))) (by decide +kernel) (hts (.classLink RX6 66 "java/lang/IllegalArgumentException") (by decide +kernel)) (hts (.initialized "java/lang/IllegalArgumentException") (by decide +kernel)) 9 rfl (fun w h => hts w (gfX6_mend_1 w h)) kBad1 (kHg kOt1) hE hS (hl.1.trans hml.symm) dX6_mend_31 dX6_mend_34 dX6_mend_35 dX6_mend_37 dX6_mend_40 hxt (Nat.le_of_ble_eq_true rfl) (Nat.le_of_ble_eq_true rfl) (Nat.le_of_ble_eq_true rfl) (Nat.le_of_ble_eq_true rfl) hlocks
  · have hr := if_to hr c_1
    exact kThrowS hx hb hl9 hown 1 (ik := 66) (is := 168) (ic := 70) (Sum.inr.inj (hr.trans (hρ.trans hex))) (by decide +kernel) (hts (.classLink RX6 66 "java/lang/IllegalArgumentException") (by decide +kernel)) (hts (.initialized "java/lang/IllegalArgumentException") (by decide +kernel)) 8 rfl (fun w h => hts w (gfX6_mend_1 w h)) kBad1 (kHg kOt1) hE hS (hl.1.trans hml.symm) dX6_mend_10 dX6_mend_13 dX6_mend_14 dX6_mend_16 dX6_mend_19 hxt (Nat.le_of_ble_eq_true rfl) (Nat.le_of_ble_eq_true rfl) (Nat.le_of_ble_eq_true rfl) (Nat.le_of_ble_eq_true rfl) hlocks
