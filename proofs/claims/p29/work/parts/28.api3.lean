/-! the object: what may throw (printed by wip/gen) -/
def P_swap (K : Nat) (f : Nat → Int32) (t : Nat → Int32) (isOn : Int32) (first : Int32) (second : Int32) (isTurned : Int32) : (Int32 × (Nat → Int32) × (Nat → Int32) × Int32) ⊕ Nat :=
  bd (P_edgeAt K f first) (fun pair_1 =>
    bd (P_edgeAt K f second) (fun pairToo_2 =>
      if pair_1 = (-1 : Int32) then
        Sum.inr 2
      else
        if pairToo_2 = (-1 : Int32) then
          Sum.inr 2
        else
          if (P_canExchange f pair_1 (P_turned pairToo_2 isTurned)) = 0 then
            Sum.inl (0, f, t, isOn)
          else
            bd (P_exchange K f pair_1 (P_turned pairToo_2 isTurned)) (fun r_6 =>
              bd (P_look t K r_6) (fun r_7 =>
                Sum.inl (1, r_6, r_7, 0)))))
abbrev rm_X6_swap : Room := { frames := 6, cells := 0, slots := 0, locals := 139 }
set_option maxHeartbeats 4000000 in
set_option maxRecDepth 100000 in
theorem k_X6_swap (l : Launch) (dC : Nat → ClassId) (dI : Nat → Nat → Nat) (cI cN : ClassId) (s0 : Nat) (sc0 : Nat) (kp0 : Nat) (ta0 : Nat) (km : Int32) (rf : Int32) (d0 : Nat) (c0 : Nat) (h0 : Nat) (h1 : Nat) (K : Nat) (f : Nat → Int32) (a0 : Nat) (a1 : Nat) (a2 : Nat) (a3 : Nat) (a4 : Nat) (isOn : Int32) (cnt : Int32) (len : Int32) (stp : Int32) (sta : Int32) (pm : Int32) (bm : Int32) (bw : Nat → Int32) (bars : Nat → Int32) (puts : Nat → Int32) (bap : Nat → Int32) (q0 : Nat) (q1 : Nat) (q2 : Nat) (g : Nat → Int32) (t : Nat → Int32) (first : Int32) (second : Int32) (isTurned : Int32) (hK : K ≤ 16) (sz : Nat) (v : Int32 × (Nat → Int32) × (Nat → Int32) × Int32) (hok : P_swap K f t isOn first second isTurned = .inl v) : Met l yX6_swap wsX6_swap rm_X6_swap (va_Pc [.ref s0, .int first, .int second, .int isTurned] (kU dC dI cI cN [(s0, .inr (5, [.ref h0, .ref sc0, .ref kp0, .ref a0, .ref q0, .ref d0, .ref c0, .ref ta0, .int km, .int rf])), (h0, .inr (3, [.ref h1, .int (nI K)])), (h1, .inl (cI, 16, .inl f)), (a0, .inr (0, [.ref a1, .ref a2, .ref a3, .ref a4, .int isOn, .int cnt, .int len, .int stp, .int sta, .int pm, .int bm])), (a1, .inl (cI, 16, .inl bw)), (a2, .inl (cI, 120, .inl bars)), (a3, .inl (cI, 40, .inl puts)), (a4, .inl (cI, 40, .inl bap)), (q0, .inr (1, [.ref q1, .ref q2])), (q1, .inl (cI, 102, .inl g)), (q2, .inl (cI, 54, .inl t))] sz)) (kVi dC dI v.1 [(s0, .inr (5, [.ref h0, .ref sc0, .ref kp0, .ref a0, .ref q0, .ref d0, .ref c0, .ref ta0, .int km, .int rf])), (h0, .inr (3, [.ref h1, .int (nI K)])), (h1, .inl (cI, 16, .inl (v.2.1))), (a0, .inr (0, [.ref a1, .ref a2, .ref a3, .ref a4, .int (v.2.2.2), .int cnt, .int len, .int stp, .int sta, .int pm, .int bm])), (a1, .inl (cI, 16, .inl bw)), (a2, .inl (cI, 120, .inl bars)), (a3, .inl (cI, 40, .inl puts)), (a4, .inl (cI, 40, .inl bap)), (q0, .inr (1, [.ref q1, .ref q2])), (q1, .inl (cI, 102, .inl g)), (q2, .inl (cI, 54, .inl (v.2.2.1)))] (va_A [(s0, .inr (5, [.ref h0, .ref sc0, .ref kp0, .ref a0, .ref q0, .ref d0, .ref c0, .ref ta0, .int km, .int rf])), (h0, .inr (3, [.ref h1, .int (nI K)])), (h1, .inl (cI, 16, .inl f)), (a0, .inr (0, [.ref a1, .ref a2, .ref a3, .ref a4, .int isOn, .int cnt, .int len, .int stp, .int sta, .int pm, .int bm])), (a1, .inl (cI, 16, .inl bw)), (a2, .inl (cI, 120, .inl bars)), (a3, .inl (cI, 40, .inl puts)), (a4, .inl (cI, 40, .inl bap)), (q0, .inr (1, [.ref q1, .ref q2])), (q1, .inl (cI, 102, .inl g)), (q2, .inl (cI, 54, .inl t))] sz)) 0 0 (va_A [(s0, .inr (5, [.ref h0, .ref sc0, .ref kp0, .ref a0, .ref q0, .ref d0, .ref c0, .ref ta0, .int km, .int rf])), (h0, .inr (3, [.ref h1, .int (nI K)])), (h1, .inl (cI, 16, .inl f)), (a0, .inr (0, [.ref a1, .ref a2, .ref a3, .ref a4, .int isOn, .int cnt, .int len, .int stp, .int sta, .int pm, .int bm])), (a1, .inl (cI, 16, .inl bw)), (a2, .inl (cI, 120, .inl bars)), (a3, .inl (cI, 40, .inl puts)), (a4, .inl (cI, 40, .inl bap)), (q0, .inr (1, [.ref q1, .ref q2])), (q1, .inl (cI, 102, .inl g)), (q2, .inl (cI, 54, .inl t))] sz) := by
  refine Met.ofW (cc := cX6_swap) (maxL := 6) (ret := (some .boolean)) (by decide) rfl ?_
  intro p e s m args below meth c s₁ B hml hv
  obtain ⟨rfl, hsz, hP, hK, hD0, hN⟩ := hv
  have hx := B.exec
  have hb := B.bytes
  have hr0 := B.returns
  have hts := atoms_spec (ws := wsX6_swap) B.pre
  have hown : s.vm.findClass RX6 = some m.cls := findClass_of_methodNamed B.named
  have hlocks := B.notSynchronized
  subst hsz
  have hD := hD0.self (sz := s.heap.size)
  generalize hAe : va_A [(s0, .inr (5, [.ref h0, .ref sc0, .ref kp0, .ref a0, .ref q0, .ref d0, .ref c0, .ref ta0, .int km, .int rf])), (h0, .inr (3, [.ref h1, .int (nI K)])), (h1, .inl (cI, 16, .inl f)), (a0, .inr (0, [.ref a1, .ref a2, .ref a3, .ref a4, .int isOn, .int cnt, .int len, .int stp, .int sta, .int pm, .int bm])), (a1, .inl (cI, 16, .inl bw)), (a2, .inl (cI, 120, .inl bars)), (a3, .inl (cI, 40, .inl puts)), (a4, .inl (cI, 40, .inl bap)), (q0, .inr (1, [.ref q1, .ref q2])), (q1, .inl (cI, 102, .inl g)), (q2, .inl (cI, 54, .inl t))] s.heap.size = A at hD ⊢
  have hA : ∀ q : Nat, s.heap.size ≤ q → A q := fun q h => by rw [← hAe]; exact Or.inr h
  have hS : va_S A s.heap s.heap [] := va_S.rf
  have hl := lv_entry ([.ref s0, .int first, .int second, .int isTurned]) (n := 6) (Nat.le_of_ble_eq_true rfl)
  rw [lg_entry_eq]
  generalize (lg_sl ([.ref s0, .int first, .int second, .int isTurned]) ++ List.replicate (6 - (lg_sl ([.ref s0, .int first, .int second, .int isTurned])).length) Slot.unset).toArray = ls at hl ⊢
  have hl : lv_has ls 6 [(0, .ref s0), (1, .int first), (2, .int second), (3, .int isTurned)] := hl
  obtain ⟨ρ, hρ⟩ : ∃ ρ : (Int32 × (Nat → Int32) × (Nat → Int32) × Int32) ⊕ Nat, ρ = P_swap K f t isOn first second isTurned := ⟨_, rfl⟩
  have hr : P_swap K f t isOn first second isTurned = ρ := hρ.symm
  rewrite [P_swap] at hr
  refine lv_aload_n hx hb dX6_swap_0 rfl (lv_at hl 0 rfl) ?_
  refine va_get (D := (dC, dI)) (ci := 5) (v := .ref h0) (C := RX6) (T := TX6) (N := 10) hx hb hts (by decide +kernel) hown hK hP 0 rfl rfl 0 (by decide) (hts (.fieldLink RX6 12 "Shortring" "net" "LShortring$Net;") (by decide +kernel)) (fun _ h9 => h9) rfl dX6_swap_1 ?_
  refine lv_iload_n hx hb dX6_swap_4 rfl (lv_at hl 1 rfl) ?_
  refine kCall (va_runVN (As := [.int first]) (rest := []) ⟨hx, hb, hml, hown, hts⟩ (k_X3_edgeAt l dC dI cI cN h0 h1 K f first (by first | assumption | omega | exact Int32.le_refl _ | decide)) ⟨va_cnB 1 hts gX6_swap_X3_edgeAt_n153 rfl rfl rfl (hN.1 16 _ rfl) (hts (.initialized RX3) (by decide +kernel)) (by decide +kernel) ⟨Nat.le_of_ble_eq_true rfl, Nat.le_of_ble_eq_true rfl⟩, hts (.instanceMethod yX3_edgeAt) (by decide +kernel), hts (.selects RX3 yX3_edgeAt yX3_edgeAt) (by decide +kernel)⟩ (kW_V hP hK hD hN (ci := 3) (q0 := 1) rfl rfl [1, 2] rfl rfl rfl) rfl rfl hl.1 rfl (lv_room (Nat.le_of_ble_eq_true rfl)) dX6_swap_5 ⟨Nat.zero_le _, Nat.zero_le _⟩) hP hS (fun H locs hP hS => ?_)
  refine lv_topi (fun pair_1 epair_1 => ?_)
  have hr := bd_to hr epair_1
  refine lv_istore (lv' := [(4, .int pair_1), (0, .ref s0), (1, .int first), (2, .int second), (3, .int isTurned)]) hx hb dX6_swap_8 hl (by decide) rfl (fun ls hl => ?_)
  refine lv_aload_n hx hb dX6_swap_10 rfl (lv_at hl 1 rfl) ?_
  refine va_get (D := (dC, dI)) (ci := 5) (v := .ref h0) (C := RX6) (T := TX6) (N := 10) hx hb hts (by decide +kernel) hown hK hP 0 rfl rfl 0 (by decide) (hts (.fieldLink RX6 12 "Shortring" "net" "LShortring$Net;") (by decide +kernel)) (fun _ h9 => h9) rfl dX6_swap_11 ?_
  refine lv_iload_n hx hb dX6_swap_14 rfl (lv_at hl 3 rfl) ?_
  refine kCall (va_runVN (As := [.int second]) (rest := []) ⟨hx, hb, hml, hown, hts⟩ (k_X3_edgeAt l dC dI cI cN h0 h1 K f second (by first | assumption | omega | exact Int32.le_refl _ | decide)) ⟨va_cnB 1 hts gX6_swap_X3_edgeAt_n153 rfl rfl rfl (hN.1 16 _ rfl) (hts (.initialized RX3) (by decide +kernel)) (by decide +kernel) ⟨Nat.le_of_ble_eq_true rfl, Nat.le_of_ble_eq_true rfl⟩, hts (.instanceMethod yX3_edgeAt) (by decide +kernel), hts (.selects RX3 yX3_edgeAt yX3_edgeAt) (by decide +kernel)⟩ (kW_V hP hK hD hN (ci := 3) (q0 := 1) rfl rfl [1, 2] rfl rfl rfl) rfl rfl hl.1 rfl (lv_room (Nat.le_of_ble_eq_true rfl)) dX6_swap_15 ⟨Nat.zero_le _, Nat.zero_le _⟩) hP hS (fun H locs hP hS => ?_)
  refine lv_topi (fun pairToo_2 epairToo_2 => ?_)
  have hr := bd_to hr epairToo_2
  refine lv_istore (lv' := [(5, .int pairToo_2), (4, .int pair_1), (0, .ref s0), (1, .int first), (2, .int second), (3, .int isTurned)]) hx hb dX6_swap_18 hl (by decide) rfl (fun ls hl => ?_)
  refine lv_iload hx hb dX6_swap_20 (lv_at hl 1 rfl) ?_
  refine lv_iconst (v := (-1)) hx hb dX6_swap_22 (by decide) ?_
  refine lv_icmp_eq (tgt := 32) hx hb dX6_swap_23 (by decide) (fun c_3 => ?_) (fun c_3 => ?_)
  · have hr := if_to hr c_3
    cases hr.trans (hρ.trans hok)
  · have hr := if_no hr c_3
    refine lv_iload hx hb dX6_swap_26 (lv_at hl 0 rfl) ?_
    refine lv_iconst (v := (-1)) hx hb dX6_swap_28 (by decide) ?_
    refine lv_icmp_ne (tgt := 42) hx hb dX6_swap_29 (by decide) (fun c_4 => ?_) (fun c_4 => ?_)
    · have hr := if_no hr c_4
      refine lv_aload_n hx hb dX6_swap_42 rfl (lv_at hl 2 rfl) ?_
      refine lv_iload hx hb dX6_swap_43 (lv_at hl 1 rfl) ?_
      refine lv_iload hx hb dX6_swap_45 (lv_at hl 0 rfl) ?_
      refine lv_iload_n hx hb dX6_swap_47 rfl (lv_at hl 5 rfl) ?_
      refine kCall (va_runS (As := [.int pairToo_2, .int isTurned]) (rest := [.int pair_1, .ref s0]) ⟨hx, hb, hml, hown, hts⟩ (k_X6_turned l dC dI cI cN pairToo_2 isTurned) (va_cwS 2 hts gX6_swap_X6_turned rfl rfl rfl (by decide +kernel) ⟨Nat.le_of_ble_eq_true rfl, Nat.le_of_ble_eq_true rfl⟩) (kW_S hP hK hD hN [] rfl rfl rfl) rfl rfl hl.1 rfl (lv_room (Nat.le_of_ble_eq_true rfl)) dX6_swap_48 ⟨Nat.zero_le _, Nat.zero_le _⟩) hP hS (fun H locs hP hS => ?_)
      refine kCall (va_runV (As := [.int pair_1, .int (P_turned pairToo_2 isTurned)]) (rest := []) ⟨hx, hb, hml, hown, hts⟩ (k_X6_canExchange l dC dI cI cN s0 sc0 kp0 ta0 km rf a0 q0 d0 c0 h0 h1 K f pair_1 (P_turned pairToo_2 isTurned) (by first | assumption | omega | exact Int32.le_refl _ | decide)) (cwV 2 hts gX6_swap_X6_canExchange rfl rfl rfl (by decide +kernel) ⟨Nat.le_of_ble_eq_true rfl, Nat.le_of_ble_eq_true rfl⟩) (kW_V hP hK hD hN (ci := 5) (q0 := 0) rfl rfl [0, 1, 2] rfl rfl rfl) rfl rfl hl.1 rfl (lv_room (Nat.le_of_ble_eq_true rfl)) dX6_swap_51 ⟨Nat.zero_le _, Nat.zero_le _⟩) hP hS (fun H locs hP hS => ?_)
      refine lv_if_ne (tgt := 59) hx hb dX6_swap_54 (by decide) (fun c_5 => ?_) (fun c_5 => ?_)
      · have hr := if_no hr c_5
        refine lv_aload_n hx hb dX6_swap_59 rfl (lv_at hl 2 rfl) ?_
        refine lv_iload hx hb dX6_swap_60 (lv_at hl 1 rfl) ?_
        refine lv_iload hx hb dX6_swap_62 (lv_at hl 0 rfl) ?_
        refine lv_iload_n hx hb dX6_swap_64 rfl (lv_at hl 5 rfl) ?_
        refine kCall (va_runS (As := [.int pairToo_2, .int isTurned]) (rest := [.int pair_1, .ref s0]) ⟨hx, hb, hml, hown, hts⟩ (k_X6_turned l dC dI cI cN pairToo_2 isTurned) (va_cwS 2 hts gX6_swap_X6_turned rfl rfl rfl (by decide +kernel) ⟨Nat.le_of_ble_eq_true rfl, Nat.le_of_ble_eq_true rfl⟩) (kW_S hP hK hD hN [] rfl rfl rfl) rfl rfl hl.1 rfl (lv_room (Nat.le_of_ble_eq_true rfl)) dX6_swap_65 ⟨Nat.zero_le _, Nat.zero_le _⟩) hP hS (fun H locs hP hS => ?_)
        refine kCallV (wr := [(a0, .inr (0, [.ref a1, .ref a2, .ref a3, .ref a4, .int isOn, .int cnt, .int len, .int stp, .int sta, .int pm, .int bm])), (a1, .inl (cI, 16, .inl bw)), (a2, .inl (cI, 120, .inl bars)), (a3, .inl (cI, 40, .inl puts)), (a4, .inl (cI, 40, .inl bap)), (q0, .inr (1, [.ref q1, .ref q2])), (q1, .inl (cI, 102, .inl g)), (q2, .inl (cI, 54, .inl t))]) (va_runV (As := [.int pair_1, .int (P_turned pairToo_2 isTurned)]) (rest := []) ⟨hx, hb, hml, hown, hts⟩ (k_X6_exchange l dC dI cI cN s0 sc0 kp0 ta0 km rf a0 q0 d0 c0 h0 h1 K f pair_1 (P_turned pairToo_2 isTurned) (by first | assumption | omega | exact Int32.le_refl _ | decide) _) (cwV 2 hts gX6_swap_X6_exchange rfl rfl rfl (by decide +kernel) ⟨Nat.le_of_ble_eq_true rfl, Nat.le_of_ble_eq_true rfl⟩) (kU_V hP hK hD hN (ci := 5) (q0 := 0) rfl rfl [0, 1, 2] rfl rfl rfl) rfl rfl hl.1 rfl (lv_room (Nat.le_of_ble_eq_true rfl)) dX6_swap_68 ⟨Nat.zero_le _, Nat.zero_le _⟩) hP hD hS hA [0, 1, 2] [3, 4, 5, 6, 7, 8, 9, 10] rfl rfl rfl rfl (by decide) rfl (fun H locs hP hD hS => ?_)
        obtain ⟨r_6, er_6⟩ : ∃ y : Nat → Int32, y = (P_exchange K f pair_1 (P_turned pairToo_2 isTurned)) := ⟨_, rfl⟩
        try rw [← er_6] at hP hD
        have hr := bd_to hr er_6
        have hP : va_P (dC, dI) kCl [(s0, .inr (5, [.ref h0, .ref sc0, .ref kp0, .ref a0, .ref q0, .ref d0, .ref c0, .ref ta0, .int km, .int rf])), (h0, .inr (3, [.ref h1, .int (nI K)])), (h1, .inl (cI, 16, .inl r_6)), (a0, .inr (0, [.ref a1, .ref a2, .ref a3, .ref a4, .int isOn, .int cnt, .int len, .int stp, .int sta, .int pm, .int bm])), (a1, .inl (cI, 16, .inl bw)), (a2, .inl (cI, 120, .inl bars)), (a3, .inl (cI, 40, .inl puts)), (a4, .inl (cI, 40, .inl bap)), (q0, .inr (1, [.ref q1, .ref q2])), (q1, .inl (cI, 102, .inl g)), (q2, .inl (cI, 54, .inl t))] H := hP.sub [8, 9, 10, 0, 1, 2, 3, 4, 5, 6, 7] rfl
        have hD : va_D A [(s0, .inr (5, [.ref h0, .ref sc0, .ref kp0, .ref a0, .ref q0, .ref d0, .ref c0, .ref ta0, .int km, .int rf])), (h0, .inr (3, [.ref h1, .int (nI K)])), (h1, .inl (cI, 16, .inl r_6)), (a0, .inr (0, [.ref a1, .ref a2, .ref a3, .ref a4, .int isOn, .int cnt, .int len, .int stp, .int sta, .int pm, .int bm])), (a1, .inl (cI, 16, .inl bw)), (a2, .inl (cI, 120, .inl bars)), (a3, .inl (cI, 40, .inl puts)), (a4, .inl (cI, 40, .inl bap)), (q0, .inr (1, [.ref q1, .ref q2])), (q1, .inl (cI, 102, .inl g)), (q2, .inl (cI, 54, .inl t))] := hD.sub [8, 9, 10, 0, 1, 2, 3, 4, 5, 6, 7] (by decide) rfl
        refine lv_aload_n hx hb dX6_swap_71 rfl (lv_at hl 2 rfl) ?_
        refine va_get (D := (dC, dI)) (ci := 5) (v := .ref a0) (C := RX6) (T := TX6) (N := 10) hx hb hts (by decide +kernel) hown hK hP 0 rfl rfl 3 (by decide) (hts (.fieldLink RX6 26 "Shortring" "hunt" "LShortring$Hunt;") (by decide +kernel)) (fun _ h9 => h9) rfl dX6_swap_72 ?_
        refine kCallV (wr := [(s0, .inr (5, [.ref h0, .ref sc0, .ref kp0, .ref a0, .ref q0, .ref d0, .ref c0, .ref ta0, .int km, .int rf])), (h0, .inr (3, [.ref h1, .int (nI K)])), (h1, .inl (cI, 16, .inl r_6)), (q0, .inr (1, [.ref q1, .ref q2])), (q1, .inl (cI, 102, .inl g)), (q2, .inl (cI, 54, .inl t))]) (va_runVN (As := []) (rest := []) ⟨hx, hb, hml, hown, hts⟩ (k_X0_end l dC dI cI cN a0 a1 a2 a3 a4 isOn cnt len stp sta pm bm bw bars puts bap _) ⟨va_cnB 0 hts gX6_swap_X0_end_n80 rfl rfl rfl (hN.1 6 _ rfl) (hts (.initialized RX0) (by decide +kernel)) (by decide +kernel) ⟨Nat.le_of_ble_eq_true rfl, Nat.le_of_ble_eq_true rfl⟩, hts (.instanceMethod yX0_end) (by decide +kernel), hts (.selects RX0 yX0_end yX0_end) (by decide +kernel)⟩ (kU_V hP hK hD hN (ci := 0) (q0 := 3) rfl rfl [3, 4, 5, 6, 7] rfl rfl rfl) rfl rfl hl.1 rfl (lv_room (Nat.le_of_ble_eq_true rfl)) dX6_swap_75 ⟨Nat.zero_le _, Nat.zero_le _⟩) hP hD hS hA [3, 4, 5, 6, 7] [0, 1, 2, 8, 9, 10] rfl rfl rfl rfl (by decide) rfl (fun H locs hP hD hS => ?_)
        have hP : va_P (dC, dI) kCl [(s0, .inr (5, [.ref h0, .ref sc0, .ref kp0, .ref a0, .ref q0, .ref d0, .ref c0, .ref ta0, .int km, .int rf])), (h0, .inr (3, [.ref h1, .int (nI K)])), (h1, .inl (cI, 16, .inl r_6)), (a0, .inr (0, [.ref a1, .ref a2, .ref a3, .ref a4, .int 0, .int cnt, .int len, .int stp, .int sta, .int pm, .int bm])), (a1, .inl (cI, 16, .inl bw)), (a2, .inl (cI, 120, .inl bars)), (a3, .inl (cI, 40, .inl puts)), (a4, .inl (cI, 40, .inl bap)), (q0, .inr (1, [.ref q1, .ref q2])), (q1, .inl (cI, 102, .inl g)), (q2, .inl (cI, 54, .inl t))] H := hP.sub [0, 1, 2, 6, 7, 8, 9, 10, 3, 4, 5] rfl
        have hD : va_D A [(s0, .inr (5, [.ref h0, .ref sc0, .ref kp0, .ref a0, .ref q0, .ref d0, .ref c0, .ref ta0, .int km, .int rf])), (h0, .inr (3, [.ref h1, .int (nI K)])), (h1, .inl (cI, 16, .inl r_6)), (a0, .inr (0, [.ref a1, .ref a2, .ref a3, .ref a4, .int 0, .int cnt, .int len, .int stp, .int sta, .int pm, .int bm])), (a1, .inl (cI, 16, .inl bw)), (a2, .inl (cI, 120, .inl bars)), (a3, .inl (cI, 40, .inl puts)), (a4, .inl (cI, 40, .inl bap)), (q0, .inr (1, [.ref q1, .ref q2])), (q1, .inl (cI, 102, .inl g)), (q2, .inl (cI, 54, .inl t))] := hD.sub [0, 1, 2, 6, 7, 8, 9, 10, 3, 4, 5] (by decide) rfl
        refine lv_aload_n hx hb dX6_swap_78 rfl (lv_at hl 2 rfl) ?_
        refine va_get (D := (dC, dI)) (ci := 5) (v := .ref q0) (C := RX6) (T := TX6) (N := 10) hx hb hts (by decide +kernel) hown hK hP 0 rfl rfl 4 (by decide) (hts (.fieldLink RX6 33 "Shortring" "ledger" "LShortring$Ledger;") (by decide +kernel)) (fun _ h9 => h9) rfl dX6_swap_79 ?_
        refine lv_aload_n hx hb dX6_swap_82 rfl (lv_at hl 2 rfl) ?_
        refine va_get (D := (dC, dI)) (ci := 5) (v := .ref h0) (C := RX6) (T := TX6) (N := 10) hx hb hts (by decide +kernel) hown hK hP 0 rfl rfl 0 (by decide) (hts (.fieldLink RX6 12 "Shortring" "net" "LShortring$Net;") (by decide +kernel)) (fun _ h9 => h9) rfl dX6_swap_83 ?_
        refine kCallV (wr := [(s0, .inr (5, [.ref h0, .ref sc0, .ref kp0, .ref a0, .ref q0, .ref d0, .ref c0, .ref ta0, .int km, .int rf])), (a0, .inr (0, [.ref a1, .ref a2, .ref a3, .ref a4, .int 0, .int cnt, .int len, .int stp, .int sta, .int pm, .int bm])), (a1, .inl (cI, 16, .inl bw)), (a2, .inl (cI, 120, .inl bars)), (a3, .inl (cI, 40, .inl puts)), (a4, .inl (cI, 40, .inl bap))]) (va_runVN (As := [.ref h0]) (rest := []) ⟨hx, hb, hml, hown, hts⟩ (k_X1_look l dC dI cI cN q0 q1 q2 g t h0 h1 K r_6 (by first | assumption | omega | exact Int32.le_refl _ | decide) _) ⟨va_cnB 1 hts gX6_swap_X1_look_n83 rfl rfl rfl (hN.1 7 _ rfl) (hts (.initialized RX1) (by decide +kernel)) (by decide +kernel) ⟨Nat.le_of_ble_eq_true rfl, Nat.le_of_ble_eq_true rfl⟩, hts (.instanceMethod yX1_look) (by decide +kernel), hts (.selects RX1 yX1_look yX1_look) (by decide +kernel)⟩ (kU_V hP hK hD hN (ci := 1) (q0 := 8) rfl rfl [8, 9, 10, 1, 2] rfl rfl rfl) rfl rfl hl.1 rfl (lv_room (Nat.le_of_ble_eq_true rfl)) dX6_swap_86 ⟨Nat.zero_le _, Nat.zero_le _⟩) hP hD hS hA [8, 9, 10, 1, 2] [0, 3, 4, 5, 6, 7] rfl rfl rfl rfl (by decide) rfl (fun H locs hP hD hS => ?_)
        obtain ⟨r_7, er_7⟩ : ∃ y : Nat → Int32, y = (P_look t K r_6) := ⟨_, rfl⟩
        try rw [← er_7] at hP hD
        have hr := bd_to hr er_7
        have hP : va_P (dC, dI) kCl [(s0, .inr (5, [.ref h0, .ref sc0, .ref kp0, .ref a0, .ref q0, .ref d0, .ref c0, .ref ta0, .int km, .int rf])), (h0, .inr (3, [.ref h1, .int (nI K)])), (h1, .inl (cI, 16, .inl r_6)), (a0, .inr (0, [.ref a1, .ref a2, .ref a3, .ref a4, .int 0, .int cnt, .int len, .int stp, .int sta, .int pm, .int bm])), (a1, .inl (cI, 16, .inl bw)), (a2, .inl (cI, 120, .inl bars)), (a3, .inl (cI, 40, .inl puts)), (a4, .inl (cI, 40, .inl bap)), (q0, .inr (1, [.ref q1, .ref q2])), (q1, .inl (cI, 102, .inl g)), (q2, .inl (cI, 54, .inl r_7))] H := hP.sub [0, 9, 10, 1, 2, 3, 4, 5, 6, 7, 8] rfl
        have hD : va_D A [(s0, .inr (5, [.ref h0, .ref sc0, .ref kp0, .ref a0, .ref q0, .ref d0, .ref c0, .ref ta0, .int km, .int rf])), (h0, .inr (3, [.ref h1, .int (nI K)])), (h1, .inl (cI, 16, .inl r_6)), (a0, .inr (0, [.ref a1, .ref a2, .ref a3, .ref a4, .int 0, .int cnt, .int len, .int stp, .int sta, .int pm, .int bm])), (a1, .inl (cI, 16, .inl bw)), (a2, .inl (cI, 120, .inl bars)), (a3, .inl (cI, 40, .inl puts)), (a4, .inl (cI, 40, .inl bap)), (q0, .inr (1, [.ref q1, .ref q2])), (q1, .inl (cI, 102, .inl g)), (q2, .inl (cI, 54, .inl r_7))] := hD.sub [0, 9, 10, 1, 2, 3, 4, 5, 6, 7, 8] (by decide) rfl
        refine lv_iconst (v := 1) hx hb dX6_swap_89 (by decide) ?_
        have he := Sum.inl.inj (hr.trans (hρ.trans hok))
        subst he
        exact W.zret (v := 1) hx hb hr0 rfl (fun t ht hW => kVi_end rfl hP hS ht) hS.2.2 dX6_swap_90
      · have hr := if_to hr c_5
        refine lv_iconst (v := 0) hx hb dX6_swap_57 (by decide) ?_
        have he := Sum.inl.inj (hr.trans (hρ.trans hok))
        subst he
        exact W.zret (v := 0) hx hb hr0 rfl (fun t ht hW => kVi_end rfl hP hS ht) hS.2.2 dX6_swap_58
    · have hr := if_to hr c_4
      cases hr.trans (hρ.trans hok)
theorem gfX6_swap_2 : ∀ w ∈ (vx_atS RX6 95 (kCls 2) kNs).filter goodWord, w ∈ wsX6_swap := fun w h => List.mem_cons_of_mem _ (List.mem_append_right _ h)
abbrev rx_X6_swap : Room := { frames := 6, cells := 1, slots := 6, locals := 88 }
set_option maxHeartbeats 4000000 in
set_option maxRecDepth 100000 in
theorem e_X6_swap (l : Launch) (hl9 : l.stackTraces = false) (dC : Nat → ClassId) (dI : Nat → Nat → Nat) (cI cN : ClassId) (s0 : Nat) (sc0 : Nat) (kp0 : Nat) (ta0 : Nat) (km : Int32) (rf : Int32) (d0 : Nat) (c0 : Nat) (h0 : Nat) (h1 : Nat) (K : Nat) (f : Nat → Int32) (a0 : Nat) (a1 : Nat) (a2 : Nat) (a3 : Nat) (a4 : Nat) (isOn : Int32) (cnt : Int32) (len : Int32) (stp : Int32) (sta : Int32) (pm : Int32) (bm : Int32) (bw : Nat → Int32) (bars : Nat → Int32) (puts : Nat → Int32) (bap : Nat → Int32) (q0 : Nat) (q1 : Nat) (q2 : Nat) (g : Nat → Int32) (t : Nat → Int32) (first : Int32) (second : Int32) (isTurned : Int32) (hK : K ≤ 16) (kx : Nat) (hex : P_swap K f t isOn first second isTurned = .inr kx) : vx_Met l yX6_swap wsX6_swap rx_X6_swap (va_Pc [.ref s0, .int first, .int second, .int isTurned] (kWE dC dI cI cN [(s0, .inr (5, [.ref h0, .ref sc0, .ref kp0, .ref a0, .ref q0, .ref d0, .ref c0, .ref ta0, .int km, .int rf])), (h0, .inr (3, [.ref h1, .int (nI K)])), (h1, .inl (cI, 16, .inl f)), (a0, .inr (0, [.ref a1, .ref a2, .ref a3, .ref a4, .int isOn, .int cnt, .int len, .int stp, .int sta, .int pm, .int bm])), (a1, .inl (cI, 16, .inl bw)), (a2, .inl (cI, 120, .inl bars)), (a3, .inl (cI, 40, .inl puts)), (a4, .inl (cI, 40, .inl bap)), (q0, .inr (1, [.ref q1, .ref q2])), (q1, .inl (cI, 102, .inl g)), (q2, .inl (cI, 54, .inl t))])) kNoi (kX kx) 1 6 (fun _ => False) := by
  refine vx_ofW (cc := cX6_swap) (maxL := 6) (ret := (some .boolean)) (by decide) rfl ?_
  intro p e s m args below meth c s₁ B hml hxt hv
  obtain ⟨rfl, ⟨hP, hK, hD, hN⟩, hE⟩ := hv
  have hx := B.exec
  have hb := B.bytes
  have hr0 := B.returns
  have hts := atoms_spec (ws := wsX6_swap) B.pre
  have hown : s.vm.findClass RX6 = some m.cls := findClass_of_methodNamed B.named
  have hlocks := B.notSynchronized
  have hS : va_S (fun _ => False) s.heap s.heap [] := va_S.rf
  have hl := lv_entry ([.ref s0, .int first, .int second, .int isTurned]) (n := 6) (Nat.le_of_ble_eq_true rfl)
  rw [lg_entry_eq]
  generalize (lg_sl ([.ref s0, .int first, .int second, .int isTurned]) ++ List.replicate (6 - (lg_sl ([.ref s0, .int first, .int second, .int isTurned])).length) Slot.unset).toArray = ls at hl ⊢
  have hl : lv_has ls 6 [(0, .ref s0), (1, .int first), (2, .int second), (3, .int isTurned)] := hl
  obtain ⟨ρ, hρ⟩ : ∃ ρ : (Int32 × (Nat → Int32) × (Nat → Int32) × Int32) ⊕ Nat, ρ = P_swap K f t isOn first second isTurned := ⟨_, rfl⟩
  have hr : P_swap K f t isOn first second isTurned = ρ := hρ.symm
  rewrite [P_swap] at hr
  refine lv_aload_n hx hb dX6_swap_0 rfl (lv_at hl 0 rfl) ?_
  refine va_get (D := (dC, dI)) (ci := 5) (v := .ref h0) (C := RX6) (T := TX6) (N := 10) hx hb hts (by decide +kernel) hown hK hP 0 rfl rfl 0 (by decide) (hts (.fieldLink RX6 12 "Shortring" "net" "LShortring$Net;") (by decide +kernel)) (fun _ h9 => h9) rfl dX6_swap_1 ?_
  refine lv_iload_n hx hb dX6_swap_4 rfl (lv_at hl 1 rfl) ?_
  refine kCall (va_runVN (As := [.int first]) (rest := []) ⟨hx, hb, hml, hown, hts⟩ (k_X3_edgeAt l dC dI cI cN h0 h1 K f first (by first | assumption | omega | exact Int32.le_refl _ | decide)) ⟨va_cnB 1 hts gX6_swap_X3_edgeAt_n153 rfl rfl rfl (hN.1 16 _ rfl) (hts (.initialized RX3) (by decide +kernel)) (by decide +kernel) ⟨Nat.le_of_ble_eq_true rfl, Nat.le_of_ble_eq_true rfl⟩, hts (.instanceMethod yX3_edgeAt) (by decide +kernel), hts (.selects RX3 yX3_edgeAt yX3_edgeAt) (by decide +kernel)⟩ (kW_V hP hK hD hN (ci := 3) (q0 := 1) rfl rfl [1, 2] rfl rfl rfl) rfl rfl hl.1 rfl (lv_room (Nat.le_of_ble_eq_true rfl)) dX6_swap_5 ⟨Nat.zero_le _, Nat.zero_le _⟩) hP hS (fun H locs hP hS => ?_)
  refine lv_topi (fun pair_1 epair_1 => ?_)
  have hr := bd_to hr epair_1
  refine lv_istore (lv' := [(4, .int pair_1), (0, .ref s0), (1, .int first), (2, .int second), (3, .int isTurned)]) hx hb dX6_swap_8 hl (by decide) rfl (fun ls hl => ?_)
  refine lv_aload_n hx hb dX6_swap_10 rfl (lv_at hl 1 rfl) ?_
  refine va_get (D := (dC, dI)) (ci := 5) (v := .ref h0) (C := RX6) (T := TX6) (N := 10) hx hb hts (by decide +kernel) hown hK hP 0 rfl rfl 0 (by decide) (hts (.fieldLink RX6 12 "Shortring" "net" "LShortring$Net;") (by decide +kernel)) (fun _ h9 => h9) rfl dX6_swap_11 ?_
  refine lv_iload_n hx hb dX6_swap_14 rfl (lv_at hl 3 rfl) ?_
  refine kCall (va_runVN (As := [.int second]) (rest := []) ⟨hx, hb, hml, hown, hts⟩ (k_X3_edgeAt l dC dI cI cN h0 h1 K f second (by first | assumption | omega | exact Int32.le_refl _ | decide)) ⟨va_cnB 1 hts gX6_swap_X3_edgeAt_n153 rfl rfl rfl (hN.1 16 _ rfl) (hts (.initialized RX3) (by decide +kernel)) (by decide +kernel) ⟨Nat.le_of_ble_eq_true rfl, Nat.le_of_ble_eq_true rfl⟩, hts (.instanceMethod yX3_edgeAt) (by decide +kernel), hts (.selects RX3 yX3_edgeAt yX3_edgeAt) (by decide +kernel)⟩ (kW_V hP hK hD hN (ci := 3) (q0 := 1) rfl rfl [1, 2] rfl rfl rfl) rfl rfl hl.1 rfl (lv_room (Nat.le_of_ble_eq_true rfl)) dX6_swap_15 ⟨Nat.zero_le _, Nat.zero_le _⟩) hP hS (fun H locs hP hS => ?_)
  refine lv_topi (fun pairToo_2 epairToo_2 => ?_)
  have hr := bd_to hr epairToo_2
  refine lv_istore (lv' := [(5, .int pairToo_2), (4, .int pair_1), (0, .ref s0), (1, .int first), (2, .int second), (3, .int isTurned)]) hx hb dX6_swap_18 hl (by decide) rfl (fun ls hl => ?_)
  refine lv_iload hx hb dX6_swap_20 (lv_at hl 1 rfl) ?_
  refine lv_iconst (v := (-1)) hx hb dX6_swap_22 (by decide) ?_
  refine lv_icmp_eq (tgt := 32) hx hb dX6_swap_23 (by decide) (fun c_3 => ?_) (fun c_3 => ?_)
  · have hr := if_to hr c_3
    exact kThrowS hx hb hl9 hown 2 (ik := 91) (is := 156) (ic := 95) (Sum.inr.inj (hr.trans (hρ.trans hex))) (by decide +kernel) (hts (.classLink RX6 91 "java/lang/IndexOutOfBoundsException") (by decide +kernel)) (hts (.initialized "java/lang/IndexOutOfBoundsException") (by decide +kernel)) 7 rfl (fun w h => hts w (gfX6_swap_2 w h)) kBad2 (kHg kOt2) hE hS (hl.1.trans hml.symm) dX6_swap_32 dX6_swap_35 dX6_swap_36 dX6_swap_38 dX6_swap_41 hxt (Nat.le_of_ble_eq_true rfl) (Nat.le_of_ble_eq_true rfl) (Nat.le_of_ble_eq_true rfl) (Nat.le_of_ble_eq_true rfl) hlocks
  · have hr := if_no hr c_3
    refine lv_iload hx hb dX6_swap_26 (lv_at hl 0 rfl) ?_
    refine lv_iconst (v := (-1)) hx hb dX6_swap_28 (by decide) ?_
    refine lv_icmp_ne (tgt := 42) hx hb dX6_swap_29 (by decide) (fun c_4 => ?_) (fun c_4 => ?_)
    · have hr := if_no hr c_4
      refine lv_aload_n hx hb dX6_swap_42 rfl (lv_at hl 2 rfl) ?_
      refine lv_iload hx hb dX6_swap_43 (lv_at hl 1 rfl) ?_
      refine lv_iload hx hb dX6_swap_45 (lv_at hl 0 rfl) ?_
      refine lv_iload_n hx hb dX6_swap_47 rfl (lv_at hl 5 rfl) ?_
      refine kCall (va_runS (As := [.int pairToo_2, .int isTurned]) (rest := [.int pair_1, .ref s0]) ⟨hx, hb, hml, hown, hts⟩ (k_X6_turned l dC dI cI cN pairToo_2 isTurned) (va_cwS 2 hts gX6_swap_X6_turned rfl rfl rfl (by decide +kernel) ⟨Nat.le_of_ble_eq_true rfl, Nat.le_of_ble_eq_true rfl⟩) (kW_S hP hK hD hN [] rfl rfl rfl) rfl rfl hl.1 rfl (lv_room (Nat.le_of_ble_eq_true rfl)) dX6_swap_48 ⟨Nat.zero_le _, Nat.zero_le _⟩) hP hS (fun H locs hP hS => ?_)
      refine kCall (va_runV (As := [.int pair_1, .int (P_turned pairToo_2 isTurned)]) (rest := []) ⟨hx, hb, hml, hown, hts⟩ (k_X6_canExchange l dC dI cI cN s0 sc0 kp0 ta0 km rf a0 q0 d0 c0 h0 h1 K f pair_1 (P_turned pairToo_2 isTurned) (by first | assumption | omega | exact Int32.le_refl _ | decide)) (cwV 2 hts gX6_swap_X6_canExchange rfl rfl rfl (by decide +kernel) ⟨Nat.le_of_ble_eq_true rfl, Nat.le_of_ble_eq_true rfl⟩) (kW_V hP hK hD hN (ci := 5) (q0 := 0) rfl rfl [0, 1, 2] rfl rfl rfl) rfl rfl hl.1 rfl (lv_room (Nat.le_of_ble_eq_true rfl)) dX6_swap_51 ⟨Nat.zero_le _, Nat.zero_le _⟩) hP hS (fun H locs hP hS => ?_)
      refine lv_if_ne (tgt := 59) hx hb dX6_swap_54 (by decide) (fun c_5 => ?_) (fun c_5 => ?_)
      · have hr := if_no hr c_5
        refine lv_aload_n hx hb dX6_swap_59 rfl (lv_at hl 2 rfl) ?_
        refine lv_iload hx hb dX6_swap_60 (lv_at hl 1 rfl) ?_
        refine lv_iload hx hb dX6_swap_62 (lv_at hl 0 rfl) ?_
        refine lv_iload_n hx hb dX6_swap_64 rfl (lv_at hl 5 rfl) ?_
        refine kCall (va_runS (As := [.int pairToo_2, .int isTurned]) (rest := [.int pair_1, .ref s0]) ⟨hx, hb, hml, hown, hts⟩ (k_X6_turned l dC dI cI cN pairToo_2 isTurned) (va_cwS 2 hts gX6_swap_X6_turned rfl rfl rfl (by decide +kernel) ⟨Nat.le_of_ble_eq_true rfl, Nat.le_of_ble_eq_true rfl⟩) (kW_S hP hK hD hN [] rfl rfl rfl) rfl rfl hl.1 rfl (lv_room (Nat.le_of_ble_eq_true rfl)) dX6_swap_65 ⟨Nat.zero_le _, Nat.zero_le _⟩) hP hS (fun H locs hP hS => ?_)
        exact kNoway (hr.trans (hρ.trans hex)) (by simp only [bd]; (repeat' split) <;> exact ⟨_, rfl⟩)
      · have hr := if_to hr c_5
        refine lv_iconst (v := 0) hx hb dX6_swap_57 (by decide) ?_
        cases hr.trans (hρ.trans hex)
    · have hr := if_to hr c_4
      exact kThrowS hx hb hl9 hown 2 (ik := 91) (is := 156) (ic := 95) (Sum.inr.inj (hr.trans (hρ.trans hex))) (by decide +kernel) (hts (.classLink RX6 91 "java/lang/IndexOutOfBoundsException") (by decide +kernel)) (hts (.initialized "java/lang/IndexOutOfBoundsException") (by decide +kernel)) 7 rfl (fun w h => hts w (gfX6_swap_2 w h)) kBad2 (kHg kOt2) hE hS (hl.1.trans hml.symm) dX6_swap_32 dX6_swap_35 dX6_swap_36 dX6_swap_38 dX6_swap_41 hxt (Nat.le_of_ble_eq_true rfl) (Nat.le_of_ble_eq_true rfl) (Nat.le_of_ble_eq_true rfl) (Nat.le_of_ble_eq_true rfl) hlocks
def P_aim (K : Nat) (f : Nat → Int32) (bw : Nat → Int32) (bars : Nat → Int32) (bm : Int32) (g : Nat → Int32) (t : Nat → Int32) (cnt1 : Int32) (len1 : Int32) : (Int32 × (Nat → Int32) × (Nat → Int32) × Int32 × (Nat → Int32)) ⊕ Nat :=
  sb (P_requireTabled cnt1 len1) (fun v_2 =>
    if (nI K) = 0 then
      Sum.inr 3
    else
      bd (P_lay f) (fun r_5 =>
        bd (P_begin bw bars bm) (fun r_6 =>
          bd (P_look t K r_5) (fun r_7 =>
            Sum.inl (P_why g (nI K) cnt1 len1, r_5, r_6.1, r_6.2, r_7)))))
abbrev rm_X6_aim : Room := { frames := 6, cells := 0, slots := 0, locals := 139 }
set_option maxHeartbeats 4000000 in
set_option maxRecDepth 100000 in
theorem k_X6_aim (l : Launch) (dC : Nat → ClassId) (dI : Nat → Nat → Nat) (cI cN : ClassId) (s0 : Nat) (sc0 : Nat) (kp0 : Nat) (ta0 : Nat) (km : Int32) (rf : Int32) (d0 : Nat) (c0 : Nat) (h0 : Nat) (h1 : Nat) (K : Nat) (f : Nat → Int32) (a0 : Nat) (a1 : Nat) (a2 : Nat) (a3 : Nat) (a4 : Nat) (isOn : Int32) (cnt : Int32) (len : Int32) (stp : Int32) (sta : Int32) (pm : Int32) (bm : Int32) (bw : Nat → Int32) (bars : Nat → Int32) (puts : Nat → Int32) (bap : Nat → Int32) (q0 : Nat) (q1 : Nat) (q2 : Nat) (g : Nat → Int32) (t : Nat → Int32) (cnt1 : Int32) (len1 : Int32) (hK : K ≤ 16) (sz : Nat) (v : Int32 × (Nat → Int32) × (Nat → Int32) × Int32 × (Nat → Int32)) (hok : P_aim K f bw bars bm g t cnt1 len1 = .inl v) : Met l yX6_aim wsX6_aim rm_X6_aim (va_Pc [.ref s0, .int cnt1, .int len1] (kU dC dI cI cN [(s0, .inr (5, [.ref h0, .ref sc0, .ref kp0, .ref a0, .ref q0, .ref d0, .ref c0, .ref ta0, .int km, .int rf])), (h0, .inr (3, [.ref h1, .int (nI K)])), (h1, .inl (cI, 16, .inl f)), (a0, .inr (0, [.ref a1, .ref a2, .ref a3, .ref a4, .int isOn, .int cnt, .int len, .int stp, .int sta, .int pm, .int bm])), (a1, .inl (cI, 16, .inl bw)), (a2, .inl (cI, 120, .inl bars)), (a3, .inl (cI, 40, .inl puts)), (a4, .inl (cI, 40, .inl bap)), (q0, .inr (1, [.ref q1, .ref q2])), (q1, .inl (cI, 102, .inl g)), (q2, .inl (cI, 54, .inl t))] sz)) (kVi dC dI v.1 [(s0, .inr (5, [.ref h0, .ref sc0, .ref kp0, .ref a0, .ref q0, .ref d0, .ref c0, .ref ta0, .int km, .int rf])), (h0, .inr (3, [.ref h1, .int (nI K)])), (h1, .inl (cI, 16, .inl (v.2.1))), (a0, .inr (0, [.ref a1, .ref a2, .ref a3, .ref a4, .int 1, .int cnt1, .int len1, .int 0, .int 0, .int 0, .int (v.2.2.2.1)])), (a1, .inl (cI, 16, .inl (v.2.2.1))), (a2, .inl (cI, 120, .inl bars)), (a3, .inl (cI, 40, .inl puts)), (a4, .inl (cI, 40, .inl bap)), (q0, .inr (1, [.ref q1, .ref q2])), (q1, .inl (cI, 102, .inl g)), (q2, .inl (cI, 54, .inl (v.2.2.2.2)))] (va_A [(s0, .inr (5, [.ref h0, .ref sc0, .ref kp0, .ref a0, .ref q0, .ref d0, .ref c0, .ref ta0, .int km, .int rf])), (h0, .inr (3, [.ref h1, .int (nI K)])), (h1, .inl (cI, 16, .inl f)), (a0, .inr (0, [.ref a1, .ref a2, .ref a3, .ref a4, .int isOn, .int cnt, .int len, .int stp, .int sta, .int pm, .int bm])), (a1, .inl (cI, 16, .inl bw)), (a2, .inl (cI, 120, .inl bars)), (a3, .inl (cI, 40, .inl puts)), (a4, .inl (cI, 40, .inl bap)), (q0, .inr (1, [.ref q1, .ref q2])), (q1, .inl (cI, 102, .inl g)), (q2, .inl (cI, 54, .inl t))] sz)) 0 0 (va_A [(s0, .inr (5, [.ref h0, .ref sc0, .ref kp0, .ref a0, .ref q0, .ref d0, .ref c0, .ref ta0, .int km, .int rf])), (h0, .inr (3, [.ref h1, .int (nI K)])), (h1, .inl (cI, 16, .inl f)), (a0, .inr (0, [.ref a1, .ref a2, .ref a3, .ref a4, .int isOn, .int cnt, .int len, .int stp, .int sta, .int pm, .int bm])), (a1, .inl (cI, 16, .inl bw)), (a2, .inl (cI, 120, .inl bars)), (a3, .inl (cI, 40, .inl puts)), (a4, .inl (cI, 40, .inl bap)), (q0, .inr (1, [.ref q1, .ref q2])), (q1, .inl (cI, 102, .inl g)), (q2, .inl (cI, 54, .inl t))] sz) := by
  refine Met.ofW (cc := cX6_aim) (maxL := 3) (ret := (some .int)) (by decide) rfl ?_
  intro p e s m args below meth c s₁ B hml hv
  obtain ⟨rfl, hsz, hP, hK, hD0, hN⟩ := hv
  have hx := B.exec
  have hb := B.bytes
  have hr0 := B.returns
  have hts := atoms_spec (ws := wsX6_aim) B.pre
  have hown : s.vm.findClass RX6 = some m.cls := findClass_of_methodNamed B.named
  have hlocks := B.notSynchronized
  subst hsz
  have hD := hD0.self (sz := s.heap.size)
  generalize hAe : va_A [(s0, .inr (5, [.ref h0, .ref sc0, .ref kp0, .ref a0, .ref q0, .ref d0, .ref c0, .ref ta0, .int km, .int rf])), (h0, .inr (3, [.ref h1, .int (nI K)])), (h1, .inl (cI, 16, .inl f)), (a0, .inr (0, [.ref a1, .ref a2, .ref a3, .ref a4, .int isOn, .int cnt, .int len, .int stp, .int sta, .int pm, .int bm])), (a1, .inl (cI, 16, .inl bw)), (a2, .inl (cI, 120, .inl bars)), (a3, .inl (cI, 40, .inl puts)), (a4, .inl (cI, 40, .inl bap)), (q0, .inr (1, [.ref q1, .ref q2])), (q1, .inl (cI, 102, .inl g)), (q2, .inl (cI, 54, .inl t))] s.heap.size = A at hD ⊢
  have hA : ∀ q : Nat, s.heap.size ≤ q → A q := fun q h => by rw [← hAe]; exact Or.inr h
  have hS : va_S A s.heap s.heap [] := va_S.rf
  have hl := lv_entry ([.ref s0, .int cnt1, .int len1]) (n := 3) (Nat.le_of_ble_eq_true rfl)
  rw [lg_entry_eq]
  generalize (lg_sl ([.ref s0, .int cnt1, .int len1]) ++ List.replicate (3 - (lg_sl ([.ref s0, .int cnt1, .int len1])).length) Slot.unset).toArray = ls at hl ⊢
  have hl : lv_has ls 3 [(0, .ref s0), (1, .int cnt1), (2, .int len1)] := hl
  obtain ⟨ρ, hρ⟩ : ∃ ρ : (Int32 × (Nat → Int32) × (Nat → Int32) × Int32 × (Nat → Int32)) ⊕ Nat, ρ = P_aim K f bw bars bm g t cnt1 len1 := ⟨_, rfl⟩
  have hr : P_aim K f bw bars bm g t cnt1 len1 = ρ := hρ.symm
  rewrite [P_aim] at hr
  refine lv_aload_n hx hb dX6_aim_0 rfl (lv_at hl 0 rfl) ?_
  refine lv_iload_n hx hb dX6_aim_1 rfl (lv_at hl 1 rfl) ?_
  refine lv_iload_n hx hb dX6_aim_2 rfl (lv_at hl 2 rfl) ?_
  rcases hq_1 : P_requireTabled cnt1 len1 with v_2 | kk_3
  · have hr := sb_l hr hq_1
    refine kCall0 (va_runV (As := [.int cnt1, .int len1]) (rest := []) ⟨hx, hb, hml, hown, hts⟩ (k_X6_requireTabled l dC dI cI cN h0 s0 sc0 kp0 ta0 km rf a0 q0 d0 c0 cnt1 len1 v_2 hq_1) (cwV 2 hts gX6_aim_X6_requireTabled rfl rfl rfl (by decide +kernel) ⟨Nat.le_of_ble_eq_true rfl, Nat.le_of_ble_eq_true rfl⟩) (kW_V hP hK hD hN (ci := 5) (q0 := 0) rfl rfl [0] rfl rfl rfl) rfl rfl hl.1 rfl (lv_room (Nat.le_of_ble_eq_true rfl)) dX6_aim_3 ⟨Nat.zero_le _, Nat.zero_le _⟩) hP hS (fun H locs hP hS => ?_)
    refine lv_aload_n hx hb dX6_aim_6 rfl (lv_at hl 0 rfl) ?_
    refine va_get (D := (dC, dI)) (ci := 5) (v := .ref h0) (C := RX6) (T := TX6) (N := 10) hx hb hts (by decide +kernel) hown hK hP 0 rfl rfl 0 (by decide) (hts (.fieldLink RX6 12 "Shortring" "net" "LShortring$Net;") (by decide +kernel)) (fun _ h9 => h9) rfl dX6_aim_7 ?_
    refine va_getN (D := (dC, dI)) (ci := 3) (v := .int (nI K)) (C := RX3) (T := TX3) (N := 2) hx hb hts (by decide +kernel) hown hK hP 1 rfl rfl 1 (by decide) (va_Nw.use rfl (hN.2 0 _ rfl)) (fun _ h9 => h9) rfl dX6_aim_10 ?_
    refine lv_if_ne (tgt := 26) hx hb dX6_aim_13 (by decide) (fun c_4 => ?_) (fun c_4 => ?_)
    · have hr := if_no hr c_4
      refine lv_aload_n hx hb dX6_aim_26 rfl (lv_at hl 0 rfl) ?_
      refine va_get (D := (dC, dI)) (ci := 5) (v := .ref h0) (C := RX6) (T := TX6) (N := 10) hx hb hts (by decide +kernel) hown hK hP 0 rfl rfl 0 (by decide) (hts (.fieldLink RX6 12 "Shortring" "net" "LShortring$Net;") (by decide +kernel)) (fun _ h9 => h9) rfl dX6_aim_27 ?_
      refine lv_aload_n hx hb dX6_aim_30 rfl (lv_at hl 0 rfl) ?_
      refine va_get (D := (dC, dI)) (ci := 5) (v := .ref h0) (C := RX6) (T := TX6) (N := 10) hx hb hts (by decide +kernel) hown hK hP 0 rfl rfl 0 (by decide) (hts (.fieldLink RX6 12 "Shortring" "net" "LShortring$Net;") (by decide +kernel)) (fun _ h9 => h9) rfl dX6_aim_31 ?_
      refine va_getN (D := (dC, dI)) (ci := 3) (v := .int (nI K)) (C := RX3) (T := TX3) (N := 2) hx hb hts (by decide +kernel) hown hK hP 1 rfl rfl 1 (by decide) (va_Nw.use rfl (hN.2 0 _ rfl)) (fun _ h9 => h9) rfl dX6_aim_34 ?_
      refine kCallV (wr := [(s0, .inr (5, [.ref h0, .ref sc0, .ref kp0, .ref a0, .ref q0, .ref d0, .ref c0, .ref ta0, .int km, .int rf])), (a0, .inr (0, [.ref a1, .ref a2, .ref a3, .ref a4, .int isOn, .int cnt, .int len, .int stp, .int sta, .int pm, .int bm])), (a1, .inl (cI, 16, .inl bw)), (a2, .inl (cI, 120, .inl bars)), (a3, .inl (cI, 40, .inl puts)), (a4, .inl (cI, 40, .inl bap)), (q0, .inr (1, [.ref q1, .ref q2])), (q1, .inl (cI, 102, .inl g)), (q2, .inl (cI, 54, .inl t))]) (va_runVN (As := [.int (nI K)]) (rest := []) ⟨hx, hb, hml, hown, hts⟩ (k_X3_lay l dC dI cI cN h0 h1 K f K _) ⟨va_cnB 1 hts gX6_aim_X3_lay_n76 rfl rfl rfl (hN.1 5 _ rfl) (hts (.initialized RX3) (by decide +kernel)) (by decide +kernel) ⟨Nat.le_of_ble_eq_true rfl, Nat.le_of_ble_eq_true rfl⟩, hts (.instanceMethod yX3_lay) (by decide +kernel), hts (.selects RX3 yX3_lay yX3_lay) (by decide +kernel)⟩ (kU_V hP hK hD hN (ci := 3) (q0 := 1) rfl rfl [1, 2] rfl rfl rfl) rfl rfl hl.1 rfl (lv_room (Nat.le_of_ble_eq_true rfl)) dX6_aim_37 ⟨Nat.zero_le _, Nat.zero_le _⟩) hP hD hS hA [1, 2] [0, 3, 4, 5, 6, 7, 8, 9, 10] rfl rfl rfl rfl (by decide) rfl (fun H locs hP hD hS => ?_)
      obtain ⟨r_5, er_5⟩ : ∃ y : Nat → Int32, y = (P_lay f) := ⟨_, rfl⟩
      try rw [← er_5] at hP hD
      have hr := bd_to hr er_5
      have hP : va_P (dC, dI) kCl [(s0, .inr (5, [.ref h0, .ref sc0, .ref kp0, .ref a0, .ref q0, .ref d0, .ref c0, .ref ta0, .int km, .int rf])), (h0, .inr (3, [.ref h1, .int (nI K)])), (h1, .inl (cI, 16, .inl r_5)), (a0, .inr (0, [.ref a1, .ref a2, .ref a3, .ref a4, .int isOn, .int cnt, .int len, .int stp, .int sta, .int pm, .int bm])), (a1, .inl (cI, 16, .inl bw)), (a2, .inl (cI, 120, .inl bars)), (a3, .inl (cI, 40, .inl puts)), (a4, .inl (cI, 40, .inl bap)), (q0, .inr (1, [.ref q1, .ref q2])), (q1, .inl (cI, 102, .inl g)), (q2, .inl (cI, 54, .inl t))] H := hP.sub [0, 9, 10, 1, 2, 3, 4, 5, 6, 7, 8] rfl
      have hD : va_D A [(s0, .inr (5, [.ref h0, .ref sc0, .ref kp0, .ref a0, .ref q0, .ref d0, .ref c0, .ref ta0, .int km, .int rf])), (h0, .inr (3, [.ref h1, .int (nI K)])), (h1, .inl (cI, 16, .inl r_5)), (a0, .inr (0, [.ref a1, .ref a2, .ref a3, .ref a4, .int isOn, .int cnt, .int len, .int stp, .int sta, .int pm, .int bm])), (a1, .inl (cI, 16, .inl bw)), (a2, .inl (cI, 120, .inl bars)), (a3, .inl (cI, 40, .inl puts)), (a4, .inl (cI, 40, .inl bap)), (q0, .inr (1, [.ref q1, .ref q2])), (q1, .inl (cI, 102, .inl g)), (q2, .inl (cI, 54, .inl t))] := hD.sub [0, 9, 10, 1, 2, 3, 4, 5, 6, 7, 8] (by decide) rfl
      refine lv_aload_n hx hb dX6_aim_40 rfl (lv_at hl 0 rfl) ?_
      refine va_get (D := (dC, dI)) (ci := 5) (v := .ref a0) (C := RX6) (T := TX6) (N := 10) hx hb hts (by decide +kernel) hown hK hP 0 rfl rfl 3 (by decide) (hts (.fieldLink RX6 26 "Shortring" "hunt" "LShortring$Hunt;") (by decide +kernel)) (fun _ h9 => h9) rfl dX6_aim_41 ?_
      refine lv_iload_n hx hb dX6_aim_44 rfl (lv_at hl 1 rfl) ?_
      refine lv_iload_n hx hb dX6_aim_45 rfl (lv_at hl 2 rfl) ?_
      refine kCallV (wr := [(s0, .inr (5, [.ref h0, .ref sc0, .ref kp0, .ref a0, .ref q0, .ref d0, .ref c0, .ref ta0, .int km, .int rf])), (h0, .inr (3, [.ref h1, .int (nI K)])), (h1, .inl (cI, 16, .inl r_5)), (q0, .inr (1, [.ref q1, .ref q2])), (q1, .inl (cI, 102, .inl g)), (q2, .inl (cI, 54, .inl t))]) (va_runVN (As := [.int cnt1, .int len1]) (rest := []) ⟨hx, hb, hml, hown, hts⟩ (k_X0_begin l dC dI cI cN a0 a1 a2 a3 a4 isOn cnt len stp sta pm bm bw bars puts bap cnt1 len1 _) ⟨va_cnB 2 hts gX6_aim_X0_begin_n185 rfl rfl rfl (hN.1 17 _ rfl) (hts (.initialized RX0) (by decide +kernel)) (by decide +kernel) ⟨Nat.le_of_ble_eq_true rfl, Nat.le_of_ble_eq_true rfl⟩, hts (.instanceMethod yX0_begin) (by decide +kernel), hts (.selects RX0 yX0_begin yX0_begin) (by decide +kernel)⟩ (kU_V hP hK hD hN (ci := 0) (q0 := 3) rfl rfl [3, 4, 5, 6, 7] rfl rfl rfl) rfl rfl hl.1 rfl (lv_room (Nat.le_of_ble_eq_true rfl)) dX6_aim_46 ⟨Nat.zero_le _, Nat.zero_le _⟩) hP hD hS hA [3, 4, 5, 6, 7] [0, 1, 2, 8, 9, 10] rfl rfl rfl rfl (by decide) rfl (fun H locs hP hD hS => ?_)
      obtain ⟨r_6, er_6⟩ : ∃ y : (Nat → Int32) × Int32, y = (P_begin bw bars bm) := ⟨_, rfl⟩
      try rw [← er_6] at hP hD
      have hr := bd_to hr er_6
      have hP : va_P (dC, dI) kCl [(s0, .inr (5, [.ref h0, .ref sc0, .ref kp0, .ref a0, .ref q0, .ref d0, .ref c0, .ref ta0, .int km, .int rf])), (h0, .inr (3, [.ref h1, .int (nI K)])), (h1, .inl (cI, 16, .inl r_5)), (a0, .inr (0, [.ref a1, .ref a2, .ref a3, .ref a4, .int 1, .int cnt1, .int len1, .int 0, .int 0, .int 0, .int r_6.2])), (a1, .inl (cI, 16, .inl r_6.1)), (a2, .inl (cI, 120, .inl bars)), (a3, .inl (cI, 40, .inl puts)), (a4, .inl (cI, 40, .inl bap)), (q0, .inr (1, [.ref q1, .ref q2])), (q1, .inl (cI, 102, .inl g)), (q2, .inl (cI, 54, .inl t))] H := hP.sub [0, 1, 2, 6, 7, 8, 9, 10, 3, 4, 5] rfl
      have hD : va_D A [(s0, .inr (5, [.ref h0, .ref sc0, .ref kp0, .ref a0, .ref q0, .ref d0, .ref c0, .ref ta0, .int km, .int rf])), (h0, .inr (3, [.ref h1, .int (nI K)])), (h1, .inl (cI, 16, .inl r_5)), (a0, .inr (0, [.ref a1, .ref a2, .ref a3, .ref a4, .int 1, .int cnt1, .int len1, .int 0, .int 0, .int 0, .int r_6.2])), (a1, .inl (cI, 16, .inl r_6.1)), (a2, .inl (cI, 120, .inl bars)), (a3, .inl (cI, 40, .inl puts)), (a4, .inl (cI, 40, .inl bap)), (q0, .inr (1, [.ref q1, .ref q2])), (q1, .inl (cI, 102, .inl g)), (q2, .inl (cI, 54, .inl t))] := hD.sub [0, 1, 2, 6, 7, 8, 9, 10, 3, 4, 5] (by decide) rfl
      refine lv_aload_n hx hb dX6_aim_49 rfl (lv_at hl 0 rfl) ?_
      refine va_get (D := (dC, dI)) (ci := 5) (v := .ref q0) (C := RX6) (T := TX6) (N := 10) hx hb hts (by decide +kernel) hown hK hP 0 rfl rfl 4 (by decide) (hts (.fieldLink RX6 33 "Shortring" "ledger" "LShortring$Ledger;") (by decide +kernel)) (fun _ h9 => h9) rfl dX6_aim_50 ?_
      refine lv_aload_n hx hb dX6_aim_53 rfl (lv_at hl 0 rfl) ?_
      refine va_get (D := (dC, dI)) (ci := 5) (v := .ref h0) (C := RX6) (T := TX6) (N := 10) hx hb hts (by decide +kernel) hown hK hP 0 rfl rfl 0 (by decide) (hts (.fieldLink RX6 12 "Shortring" "net" "LShortring$Net;") (by decide +kernel)) (fun _ h9 => h9) rfl dX6_aim_54 ?_
      refine kCallV (wr := [(s0, .inr (5, [.ref h0, .ref sc0, .ref kp0, .ref a0, .ref q0, .ref d0, .ref c0, .ref ta0, .int km, .int rf])), (a0, .inr (0, [.ref a1, .ref a2, .ref a3, .ref a4, .int 1, .int cnt1, .int len1, .int 0, .int 0, .int 0, .int r_6.2])), (a1, .inl (cI, 16, .inl r_6.1)), (a2, .inl (cI, 120, .inl bars)), (a3, .inl (cI, 40, .inl puts)), (a4, .inl (cI, 40, .inl bap))]) (va_runVN (As := [.ref h0]) (rest := []) ⟨hx, hb, hml, hown, hts⟩ (k_X1_look l dC dI cI cN q0 q1 q2 g t h0 h1 K r_5 (by first | assumption | omega | exact Int32.le_refl _ | decide) _) ⟨va_cnB 1 hts gX6_aim_X1_look_n83 rfl rfl rfl (hN.1 7 _ rfl) (hts (.initialized RX1) (by decide +kernel)) (by decide +kernel) ⟨Nat.le_of_ble_eq_true rfl, Nat.le_of_ble_eq_true rfl⟩, hts (.instanceMethod yX1_look) (by decide +kernel), hts (.selects RX1 yX1_look yX1_look) (by decide +kernel)⟩ (kU_V hP hK hD hN (ci := 1) (q0 := 8) rfl rfl [8, 9, 10, 1, 2] rfl rfl rfl) rfl rfl hl.1 rfl (lv_room (Nat.le_of_ble_eq_true rfl)) dX6_aim_57 ⟨Nat.zero_le _, Nat.zero_le _⟩) hP hD hS hA [8, 9, 10, 1, 2] [0, 3, 4, 5, 6, 7] rfl rfl rfl rfl (by decide) rfl (fun H locs hP hD hS => ?_)
      obtain ⟨r_7, er_7⟩ : ∃ y : Nat → Int32, y = (P_look t K r_5) := ⟨_, rfl⟩
      try rw [← er_7] at hP hD
      have hr := bd_to hr er_7
      have hP : va_P (dC, dI) kCl [(s0, .inr (5, [.ref h0, .ref sc0, .ref kp0, .ref a0, .ref q0, .ref d0, .ref c0, .ref ta0, .int km, .int rf])), (h0, .inr (3, [.ref h1, .int (nI K)])), (h1, .inl (cI, 16, .inl r_5)), (a0, .inr (0, [.ref a1, .ref a2, .ref a3, .ref a4, .int 1, .int cnt1, .int len1, .int 0, .int 0, .int 0, .int r_6.2])), (a1, .inl (cI, 16, .inl r_6.1)), (a2, .inl (cI, 120, .inl bars)), (a3, .inl (cI, 40, .inl puts)), (a4, .inl (cI, 40, .inl bap)), (q0, .inr (1, [.ref q1, .ref q2])), (q1, .inl (cI, 102, .inl g)), (q2, .inl (cI, 54, .inl r_7))] H := hP.sub [0, 9, 10, 1, 2, 3, 4, 5, 6, 7, 8] rfl
      have hD : va_D A [(s0, .inr (5, [.ref h0, .ref sc0, .ref kp0, .ref a0, .ref q0, .ref d0, .ref c0, .ref ta0, .int km, .int rf])), (h0, .inr (3, [.ref h1, .int (nI K)])), (h1, .inl (cI, 16, .inl r_5)), (a0, .inr (0, [.ref a1, .ref a2, .ref a3, .ref a4, .int 1, .int cnt1, .int len1, .int 0, .int 0, .int 0, .int r_6.2])), (a1, .inl (cI, 16, .inl r_6.1)), (a2, .inl (cI, 120, .inl bars)), (a3, .inl (cI, 40, .inl puts)), (a4, .inl (cI, 40, .inl bap)), (q0, .inr (1, [.ref q1, .ref q2])), (q1, .inl (cI, 102, .inl g)), (q2, .inl (cI, 54, .inl r_7))] := hD.sub [0, 9, 10, 1, 2, 3, 4, 5, 6, 7, 8] (by decide) rfl
      refine lv_aload_n hx hb dX6_aim_60 rfl (lv_at hl 0 rfl) ?_
      refine va_get (D := (dC, dI)) (ci := 5) (v := .ref q0) (C := RX6) (T := TX6) (N := 10) hx hb hts (by decide +kernel) hown hK hP 0 rfl rfl 4 (by decide) (hts (.fieldLink RX6 33 "Shortring" "ledger" "LShortring$Ledger;") (by decide +kernel)) (fun _ h9 => h9) rfl dX6_aim_61 ?_
      refine lv_aload_n hx hb dX6_aim_64 rfl (lv_at hl 0 rfl) ?_
      refine va_get (D := (dC, dI)) (ci := 5) (v := .ref h0) (C := RX6) (T := TX6) (N := 10) hx hb hts (by decide +kernel) hown hK hP 0 rfl rfl 0 (by decide) (hts (.fieldLink RX6 12 "Shortring" "net" "LShortring$Net;") (by decide +kernel)) (fun _ h9 => h9) rfl dX6_aim_65 ?_
      refine va_getN (D := (dC, dI)) (ci := 3) (v := .int (nI K)) (C := RX3) (T := TX3) (N := 2) hx hb hts (by decide +kernel) hown hK hP 1 rfl rfl 1 (by decide) (va_Nw.use rfl (hN.2 0 _ rfl)) (fun _ h9 => h9) rfl dX6_aim_68 ?_
      refine lv_iload_n hx hb dX6_aim_71 rfl (lv_at hl 1 rfl) ?_
      refine lv_iload_n hx hb dX6_aim_72 rfl (lv_at hl 2 rfl) ?_
      refine kCall (va_runVN (As := [.int (nI K), .int cnt1, .int len1]) (rest := []) ⟨hx, hb, hml, hown, hts⟩ (k_X1_why l dC dI cI cN q0 q1 q2 g r_7 (nI K) cnt1 len1) ⟨va_cnB 3 hts gX6_aim_X1_why_n188 rfl rfl rfl (hN.1 18 _ rfl) (hts (.initialized RX1) (by decide +kernel)) (by decide +kernel) ⟨Nat.le_of_ble_eq_true rfl, Nat.le_of_ble_eq_true rfl⟩, hts (.instanceMethod yX1_why) (by decide +kernel), hts (.selects RX1 yX1_why yX1_why) (by decide +kernel)⟩ (kW_V hP hK hD hN (ci := 1) (q0 := 8) rfl rfl [8, 9, 10] rfl rfl rfl) rfl rfl hl.1 rfl (lv_room (Nat.le_of_ble_eq_true rfl)) dX6_aim_73 ⟨Nat.zero_le _, Nat.zero_le _⟩) hP hS (fun H locs hP hS => ?_)
      have he := Sum.inl.inj (hr.trans (hρ.trans hok))
      subst he
      exact W.iret (v := P_why g (nI K) cnt1 len1) hx hb hr0 (fun t ht hW => kVi_end rfl hP hS ht) hS.2.2 dX6_aim_76
    · have hr := if_to hr c_4
      cases hr.trans (hρ.trans hok)
  · have hr := sb_r hr hq_1
    cases hr.trans (hρ.trans hok)
theorem gfX6_aim_3 : ∀ w ∈ (vx_atS RX6 110 (kCls 3) kNs).filter goodWord, w ∈ wsX6_aim := fun w h => List.mem_cons_of_mem _ (List.mem_append_left _ (List.mem_append_right _ h))
abbrev rx_X6_aim : Room := { frames := 7, cells := 1, slots := 6, locals := 104 }
set_option maxHeartbeats 4000000 in
set_option maxRecDepth 100000 in
theorem e_X6_aim (l : Launch) (hl9 : l.stackTraces = false) (dC : Nat → ClassId) (dI : Nat → Nat → Nat) (cI cN : ClassId) (s0 : Nat) (sc0 : Nat) (kp0 : Nat) (ta0 : Nat) (km : Int32) (rf : Int32) (d0 : Nat) (c0 : Nat) (h0 : Nat) (h1 : Nat) (K : Nat) (f : Nat → Int32) (a0 : Nat) (a1 : Nat) (a2 : Nat) (a3 : Nat) (a4 : Nat) (isOn : Int32) (cnt : Int32) (len : Int32) (stp : Int32) (sta : Int32) (pm : Int32) (bm : Int32) (bw : Nat → Int32) (bars : Nat → Int32) (puts : Nat → Int32) (bap : Nat → Int32) (q0 : Nat) (q1 : Nat) (q2 : Nat) (g : Nat → Int32) (t : Nat → Int32) (cnt1 : Int32) (len1 : Int32) (hK : K ≤ 16) (kx : Nat) (hex : P_aim K f bw bars bm g t cnt1 len1 = .inr kx) : vx_Met l yX6_aim wsX6_aim rx_X6_aim (va_Pc [.ref s0, .int cnt1, .int len1] (kWE dC dI cI cN [(s0, .inr (5, [.ref h0, .ref sc0, .ref kp0, .ref a0, .ref q0, .ref d0, .ref c0, .ref ta0, .int km, .int rf])), (h0, .inr (3, [.ref h1, .int (nI K)])), (h1, .inl (cI, 16, .inl f)), (a0, .inr (0, [.ref a1, .ref a2, .ref a3, .ref a4, .int isOn, .int cnt, .int len, .int stp, .int sta, .int pm, .int bm])), (a1, .inl (cI, 16, .inl bw)), (a2, .inl (cI, 120, .inl bars)), (a3, .inl (cI, 40, .inl puts)), (a4, .inl (cI, 40, .inl bap)), (q0, .inr (1, [.ref q1, .ref q2])), (q1, .inl (cI, 102, .inl g)), (q2, .inl (cI, 54, .inl t))])) kNoi (kX kx) 1 6 (fun _ => False) := by
  refine vx_ofW (cc := cX6_aim) (maxL := 3) (ret := (some .int)) (by decide) rfl ?_
  intro p e s m args below meth c s₁ B hml hxt hv
  obtain ⟨rfl, ⟨hP, hK, hD, hN⟩, hE⟩ := hv
  have hx := B.exec
  have hb := B.bytes
  have hr0 := B.returns
  have hts := atoms_spec (ws := wsX6_aim) B.pre
  have hown : s.vm.findClass RX6 = some m.cls := findClass_of_methodNamed B.named
  have hlocks := B.notSynchronized
  have hS : va_S (fun _ => False) s.heap s.heap [] := va_S.rf
  have hl := lv_entry ([.ref s0, .int cnt1, .int len1]) (n := 3) (Nat.le_of_ble_eq_true rfl)
  rw [lg_entry_eq]
  generalize (lg_sl ([.ref s0, .int cnt1, .int len1]) ++ List.replicate (3 - (lg_sl ([.ref s0, .int cnt1, .int len1])).length) Slot.unset).toArray = ls at hl ⊢
  have hl : lv_has ls 3 [(0, .ref s0), (1, .int cnt1), (2, .int len1)] := hl
  obtain ⟨ρ, hρ⟩ : ∃ ρ : (Int32 × (Nat → Int32) × (Nat → Int32) × Int32 × (Nat → Int32)) ⊕ Nat, ρ = P_aim K f bw bars bm g t cnt1 len1 := ⟨_, rfl⟩
  have hr : P_aim K f bw bars bm g t cnt1 len1 = ρ := hρ.symm
  rewrite [P_aim] at hr
  refine lv_aload_n hx hb dX6_aim_0 rfl (lv_at hl 0 rfl) ?_
  refine lv_iload_n hx hb dX6_aim_1 rfl (lv_at hl 1 rfl) ?_
  refine lv_iload_n hx hb dX6_aim_2 rfl (lv_at hl 2 rfl) ?_
  rcases hq_1 : P_requireTabled cnt1 len1 with v_2 | kk_3
  · have hr := sb_l hr hq_1
    refine kCall0 (va_runV (As := [.int cnt1, .int len1]) (rest := []) ⟨hx, hb, hml, hown, hts⟩ (k_X6_requireTabled l dC dI cI cN h0 s0 sc0 kp0 ta0 km rf a0 q0 d0 c0 cnt1 len1 v_2 hq_1) (cwV 2 hts gX6_aim_X6_requireTabled rfl rfl rfl (by decide +kernel) ⟨Nat.le_of_ble_eq_true rfl, Nat.le_of_ble_eq_true rfl⟩) (kW_V hP hK hD hN (ci := 5) (q0 := 0) rfl rfl [0] rfl rfl rfl) rfl rfl hl.1 rfl (lv_room (Nat.le_of_ble_eq_true rfl)) dX6_aim_3 ⟨Nat.zero_le _, Nat.zero_le _⟩) hP hS (fun H locs hP hS => ?_)
    refine lv_aload_n hx hb dX6_aim_6 rfl (lv_at hl 0 rfl) ?_
    refine va_get (D := (dC, dI)) (ci := 5) (v := .ref h0) (C := RX6) (T := TX6) (N := 10) hx hb hts (by decide +kernel) hown hK hP 0 rfl rfl 0 (by decide) (hts (.fieldLink RX6 12 "Shortring" "net" "LShortring$Net;") (by decide +kernel)) (fun _ h9 => h9) rfl dX6_aim_7 ?_
    refine va_getN (D := (dC, dI)) (ci := 3) (v := .int (nI K)) (C := RX3) (T := TX3) (N := 2) hx hb hts (by decide +kernel) hown hK hP 1 rfl rfl 1 (by decide) (va_Nw.use rfl (hN.2 0 _ rfl)) (fun _ h9 => h9) rfl dX6_aim_10 ?_
    refine lv_if_ne (tgt := 26) hx hb dX6_aim_13 (by decide) (fun c_4 => ?_) (fun c_4 => ?_)
    · have hr := if_no hr c_4
      refine lv_aload_n hx hb dX6_aim_26 rfl (lv_at hl 0 rfl) ?_
      refine va_get (D := (dC, dI)) (ci := 5) (v := .ref h0) (C := RX6) (T := TX6) (N := 10) hx hb hts (by decide +kernel) hown hK hP 0 rfl rfl 0 (by decide) (hts (.fieldLink RX6 12 "Shortring" "net" "LShortring$Net;") (by decide +kernel)) (fun _ h9 => h9) rfl dX6_aim_27 ?_
      refine lv_aload_n hx hb dX6_aim_30 rfl (lv_at hl 0 rfl) ?_
      refine va_get (D := (dC, dI)) (ci := 5) (v := .ref h0) (C := RX6) (T := TX6) (N := 10) hx hb hts (by decide +kernel) hown hK hP 0 rfl rfl 0 (by decide) (hts (.fieldLink RX6 12 "Shortring" "net" "LShortring$Net;") (by decide +kernel)) (fun _ h9 => h9) rfl dX6_aim_31 ?_
      refine va_getN (D := (dC, dI)) (ci := 3) (v := .int (nI K)) (C := RX3) (T := TX3) (N := 2) hx hb hts (by decide +kernel) hown hK hP 1 rfl rfl 1 (by decide) (va_Nw.use rfl (hN.2 0 _ rfl)) (fun _ h9 => h9) rfl dX6_aim_34 ?_
      exact kNoway (hr.trans (hρ.trans hex)) (by simp only [bd]; (repeat' split) <;> exact ⟨_, rfl⟩)
    · have hr := if_to hr c_4
      exact kThrowS hx hb hl9 hown 3 (ik := 106) (is := 183) (ic := 110) (Sum.inr.inj (hr.trans (hρ.trans hex))) (by decide +kernel) (hts (.classLink RX6 106 "java/lang/IllegalStateException") (by decide +kernel)) (hts (.initialized "java/lang/IllegalStateException") (by decide +kernel)) 12 rfl (fun w h => hts w (gfX6_aim_3 w h)) kBad3 (kHg kOt3) hE hS (hl.1.trans hml.symm) dX6_aim_16 dX6_aim_19 dX6_aim_20 dX6_aim_22 dX6_aim_25 hxt (Nat.le_of_ble_eq_true rfl) (Nat.le_of_ble_eq_true rfl) (Nat.le_of_ble_eq_true rfl) (Nat.le_of_ble_eq_true rfl) hlocks
  · have hr := sb_r hr hq_1
    exact kXcallv (Sum.inr.inj (hr.trans (hρ.trans hex))) hxt hlocks (vx_runV (As := [.int cnt1, .int len1]) (rest := []) ⟨hx, hb, hml, hown, hts⟩ (e_X6_requireTabled l hl9 dC dI cI cN h0 s0 sc0 kp0 ta0 km rf a0 q0 d0 c0 cnt1 len1 kk_3 hq_1) (cwV 2 hts gX6_aim_X6_requireTabled rfl rfl rfl (by decide +kernel) ⟨Nat.le_of_ble_eq_true rfl, Nat.le_of_ble_eq_true rfl⟩) (kWE_V hP hK hD hN (kE_kept hE hS.2.1) (ci := 5) (q0 := 0) rfl rfl [0] rfl rfl rfl) rfl rfl hl.1 rfl (lv_room (Nat.le_of_ble_eq_true rfl)) dX6_aim_3 ⟨Nat.le_refl 1, Nat.le_refl 6⟩) hS
def P_ofKnot (K : Nat) (f : Nat → Int32) (bw : Nat → Int32) (isOn : Int32) (cnt : Int32) (len : Int32) (knot : Int32) (what : Int32) : Int32 ⊕ Nat :=
  if (P_isKnot K knot) = 0 then
    Sum.inr 2
  else
    if (P_isWithin what 0 5) = 0 then
      Sum.inr 1
    else
      if what = (0 : Int32) then
        Sum.inl (P_countOf f knot)
      else
        if what = (1 : Int32) then
          Sum.inl (P_nearOf f knot)
        else
          if what = (2 : Int32) then
            Sum.inl (P_partNumber f knot)
          else
            if what = (3 : Int32) then
              Sum.inl (P_leastRingAt K f knot)
            else
              if what = (4 : Int32) then
                Sum.inl (P_greatestDistance f knot)
              else
                Sum.inl (P_bitCount (P_joinable K f bw isOn cnt len knot))
abbrev rm_X6_ofKnot : Room := { frames := 5, cells := 0, slots := 0, locals := 116 }
set_option maxHeartbeats 4000000 in
set_option maxRecDepth 100000 in
theorem k_X6_ofKnot (l : Launch) (dC : Nat → ClassId) (dI : Nat → Nat → Nat) (cI cN : ClassId) (s0 : Nat) (sc0 : Nat) (kp0 : Nat) (ta0 : Nat) (km : Int32) (rf : Int32) (q0 : Nat) (d0 : Nat) (c0 : Nat) (h0 : Nat) (h1 : Nat) (K : Nat) (f : Nat → Int32) (a0 : Nat) (a1 : Nat) (a2 : Nat) (a3 : Nat) (a4 : Nat) (isOn : Int32) (cnt : Int32) (len : Int32) (stp : Int32) (sta : Int32) (pm : Int32) (bm : Int32) (bw : Nat → Int32) (bars : Nat → Int32) (puts : Nat → Int32) (bap : Nat → Int32) (knot : Int32) (what : Int32) (hK : K ≤ 16) (v : Int32) (hok : P_ofKnot K f bw isOn cnt len knot what = .inl v) : Met l yX6_ofKnot wsX6_ofKnot rm_X6_ofKnot (va_Pc [.ref s0, .int knot, .int what] (kW dC dI cI cN [(s0, .inr (5, [.ref h0, .ref sc0, .ref kp0, .ref a0, .ref q0, .ref d0, .ref c0, .ref ta0, .int km, .int rf])), (h0, .inr (3, [.ref h1, .int (nI K)])), (h1, .inl (cI, 16, .inl f)), (a0, .inr (0, [.ref a1, .ref a2, .ref a3, .ref a4, .int isOn, .int cnt, .int len, .int stp, .int sta, .int pm, .int bm])), (a1, .inl (cI, 16, .inl bw)), (a2, .inl (cI, 120, .inl bars)), (a3, .inl (cI, 40, .inl puts)), (a4, .inl (cI, 40, .inl bap))])) (kR v) 0 0 (fun _ => False) := by
  refine Met.ofW (cc := cX6_ofKnot) (maxL := 3) (ret := (some .int)) (by decide) rfl ?_
  intro p e s m args below meth c s₁ B hml hv
  obtain ⟨rfl, hP, hK, hD, hN⟩ := hv
  have hx := B.exec
  have hb := B.bytes
  have hr0 := B.returns
  have hts := atoms_spec (ws := wsX6_ofKnot) B.pre
  have hown : s.vm.findClass RX6 = some m.cls := findClass_of_methodNamed B.named
  have hlocks := B.notSynchronized
  have hS : va_S (fun _ => False) s.heap s.heap [] := va_S.rf
  have hl := lv_entry ([.ref s0, .int knot, .int what]) (n := 3) (Nat.le_of_ble_eq_true rfl)
  rw [lg_entry_eq]
  generalize (lg_sl ([.ref s0, .int knot, .int what]) ++ List.replicate (3 - (lg_sl ([.ref s0, .int knot, .int what])).length) Slot.unset).toArray = ls at hl ⊢
  have hl : lv_has ls 3 [(0, .ref s0), (1, .int knot), (2, .int what)] := hl
  obtain ⟨ρ, hρ⟩ : ∃ ρ : Int32 ⊕ Nat, ρ = P_ofKnot K f bw isOn cnt len knot what := ⟨_, rfl⟩
  have hr : P_ofKnot K f bw isOn cnt len knot what = ρ := hρ.symm
  rewrite [P_ofKnot] at hr
  refine lv_aload_n hx hb dX6_ofKnot_0 rfl (lv_at hl 0 rfl) ?_
  refine va_get (D := (dC, dI)) (ci := 5) (v := .ref h0) (C := RX6) (T := TX6) (N := 10) hx hb hts (by decide +kernel) hown hK hP 0 rfl rfl 0 (by decide) (hts (.fieldLink RX6 12 "Shortring" "net" "LShortring$Net;") (by decide +kernel)) (fun _ h9 => h9) rfl dX6_ofKnot_1 ?_
  refine lv_iload_n hx hb dX6_ofKnot_4 rfl (lv_at hl 1 rfl) ?_
  refine kCall (va_runVN (As := [.int knot]) (rest := []) ⟨hx, hb, hml, hown, hts⟩ (k_X3_isKnot l dC dI cI cN h0 h1 K f knot (by first | assumption | omega | exact Int32.le_refl _ | decide)) ⟨va_cnB 1 hts gX6_ofKnot_X3_isKnot_n87 rfl rfl rfl (hN.1 8 _ rfl) (hts (.initialized RX3) (by decide +kernel)) (by decide +kernel) ⟨Nat.le_of_ble_eq_true rfl, Nat.le_of_ble_eq_true rfl⟩, hts (.instanceMethod yX3_isKnot) (by decide +kernel), hts (.selects RX3 yX3_isKnot yX3_isKnot) (by decide +kernel)⟩ (kW_V hP hK hD hN (ci := 3) (q0 := 1) rfl rfl [1, 2] rfl rfl rfl) rfl rfl hl.1 rfl (lv_room (Nat.le_of_ble_eq_true rfl)) dX6_ofKnot_5 ⟨Nat.zero_le _, Nat.zero_le _⟩) hP hS (fun H locs hP hS => ?_)
  refine lv_if_ne (tgt := 21) hx hb dX6_ofKnot_8 (by decide) (fun c_1 => ?_) (fun c_1 => ?_)
  · have hr := if_no hr c_1
    refine lv_iload_n hx hb dX6_ofKnot_21 rfl (lv_at hl 2 rfl) ?_
    refine lv_iconst (v := 0) hx hb dX6_ofKnot_22 (by decide) ?_
    refine lv_iconst (v := 5) hx hb dX6_ofKnot_23 (by decide) ?_
    refine kCall (va_runS (As := [.int what, .int 0, .int 5]) (rest := []) ⟨hx, hb, hml, hown, hts⟩ (k_X6_isWithin l dC dI cI cN what 0 5) (va_cwS 3 hts gX6_ofKnot_X6_isWithin rfl rfl rfl (by decide +kernel) ⟨Nat.le_of_ble_eq_true rfl, Nat.le_of_ble_eq_true rfl⟩) (kW_S hP hK hD hN [] rfl rfl rfl) rfl rfl hl.1 rfl (lv_room (Nat.le_of_ble_eq_true rfl)) dX6_ofKnot_24 ⟨Nat.zero_le _, Nat.zero_le _⟩) hP hS (fun H locs hP hS => ?_)
    refine lv_if_ne (tgt := 40) hx hb dX6_ofKnot_27 (by decide) (fun c_2 => ?_) (fun c_2 => ?_)
    · have hr := if_no hr c_2
      refine lv_iload_n hx hb dX6_ofKnot_40 rfl (lv_at hl 2 rfl) ?_
      by_cases c_3 : what = (0 : Int32)
      · have hr := if_to hr c_3
        refine lv_tableIn (off := 35) (tgt := 76) hx hb dX6_ofKnot_41 (by rw [c_3]; decide) (by rw [c_3]; decide) (by rw [c_3]; decide) (by decide) ?_
        refine lv_aload_n hx hb dX6_ofKnot_76 rfl (lv_at hl 0 rfl) ?_
        refine va_get (D := (dC, dI)) (ci := 5) (v := .ref h0) (C := RX6) (T := TX6) (N := 10) hx hb hts (by decide +kernel) hown hK hP 0 rfl rfl 0 (by decide) (hts (.fieldLink RX6 12 "Shortring" "net" "LShortring$Net;") (by decide +kernel)) (fun _ h9 => h9) rfl dX6_ofKnot_77 ?_
        refine lv_iload_n hx hb dX6_ofKnot_80 rfl (lv_at hl 1 rfl) ?_
        refine kCall (va_runVN (As := [.int knot]) (rest := []) ⟨hx, hb, hml, hown, hts⟩ (k_X3_countOf l dC dI cI cN h0 h1 K f knot (by first | assumption | omega | exact Int32.le_refl _ | decide)) ⟨va_cnB 1 hts gX6_ofKnot_X3_countOf_n102 rfl rfl rfl (hN.1 10 _ rfl) (hts (.initialized RX3) (by decide +kernel)) (by decide +kernel) ⟨Nat.le_of_ble_eq_true rfl, Nat.le_of_ble_eq_true rfl⟩, hts (.instanceMethod yX3_countOf) (by decide +kernel), hts (.selects RX3 yX3_countOf yX3_countOf) (by decide +kernel)⟩ (kW_V hP hK hD hN (ci := 3) (q0 := 1) rfl rfl [1, 2] rfl rfl rfl) rfl rfl hl.1 rfl (lv_room (Nat.le_of_ble_eq_true rfl)) dX6_ofKnot_81 ⟨Nat.zero_le _, Nat.zero_le _⟩) hP hS (fun H locs hP hS => ?_)
        have he := Sum.inl.inj (hr.trans (hρ.trans hok))
        subst he
        exact W.iret (v := P_countOf f knot) hx hb hr0 (fun t ht hW => kR_end rfl hS ht) hS.2.2 dX6_ofKnot_84
      · have hr := if_no hr c_3
        by_cases c_4 : what = (1 : Int32)
        · have hr := if_to hr c_4
          refine lv_tableIn (off := 44) (tgt := 85) hx hb dX6_ofKnot_41 (by rw [c_4]; decide) (by rw [c_4]; decide) (by rw [c_4]; decide) (by decide) ?_
          refine lv_aload_n hx hb dX6_ofKnot_85 rfl (lv_at hl 0 rfl) ?_
          refine va_get (D := (dC, dI)) (ci := 5) (v := .ref h0) (C := RX6) (T := TX6) (N := 10) hx hb hts (by decide +kernel) hown hK hP 0 rfl rfl 0 (by decide) (hts (.fieldLink RX6 12 "Shortring" "net" "LShortring$Net;") (by decide +kernel)) (fun _ h9 => h9) rfl dX6_ofKnot_86 ?_
          refine lv_iload_n hx hb dX6_ofKnot_89 rfl (lv_at hl 1 rfl) ?_
          refine kCall (va_runVN (As := [.int knot]) (rest := []) ⟨hx, hb, hml, hown, hts⟩ (k_X3_nearOf l dC dI cI cN h0 h1 K f knot (by first | assumption | omega | exact Int32.le_refl _ | decide)) ⟨va_cnB 1 hts gX6_ofKnot_X3_nearOf_n255 rfl rfl rfl (hN.1 29 _ rfl) (hts (.initialized RX3) (by decide +kernel)) (by decide +kernel) ⟨Nat.le_of_ble_eq_true rfl, Nat.le_of_ble_eq_true rfl⟩, hts (.instanceMethod yX3_nearOf) (by decide +kernel), hts (.selects RX3 yX3_nearOf yX3_nearOf) (by decide +kernel)⟩ (kW_V hP hK hD hN (ci := 3) (q0 := 1) rfl rfl [1, 2] rfl rfl rfl) rfl rfl hl.1 rfl (lv_room (Nat.le_of_ble_eq_true rfl)) dX6_ofKnot_90 ⟨Nat.zero_le _, Nat.zero_le _⟩) hP hS (fun H locs hP hS => ?_)
          have he := Sum.inl.inj (hr.trans (hρ.trans hok))
          subst he
          exact W.iret (v := P_nearOf f knot) hx hb hr0 (fun t ht hW => kR_end rfl hS ht) hS.2.2 dX6_ofKnot_93
        · have hr := if_no hr c_4
          by_cases c_5 : what = (2 : Int32)
          · have hr := if_to hr c_5
            refine lv_tableIn (off := 53) (tgt := 94) hx hb dX6_ofKnot_41 (by rw [c_5]; decide) (by rw [c_5]; decide) (by rw [c_5]; decide) (by decide) ?_
            refine lv_aload_n hx hb dX6_ofKnot_94 rfl (lv_at hl 0 rfl) ?_
            refine va_get (D := (dC, dI)) (ci := 5) (v := .ref h0) (C := RX6) (T := TX6) (N := 10) hx hb hts (by decide +kernel) hown hK hP 0 rfl rfl 0 (by decide) (hts (.fieldLink RX6 12 "Shortring" "net" "LShortring$Net;") (by decide +kernel)) (fun _ h9 => h9) rfl dX6_ofKnot_95 ?_
            refine lv_iload_n hx hb dX6_ofKnot_98 rfl (lv_at hl 1 rfl) ?_
            refine kCall (va_runSN (As := [.ref h0, .int knot]) (rest := []) ⟨hx, hb, hml, hown, hts⟩ (k_X5_partNumber l dC dI cI cN h0 h1 K f knot (by first | assumption | omega | exact Int32.le_refl _ | decide)) ⟨va_cnB 2 hts gX6_ofKnot_X5_partNumber_n258 rfl rfl rfl (hN.1 30 _ rfl) (hts (.initialized RX5) (by decide +kernel)) (by decide +kernel) ⟨Nat.le_of_ble_eq_true rfl, Nat.le_of_ble_eq_true rfl⟩, hts (.static yX5_partNumber) (by decide +kernel), trivial⟩ (kW_S hP hK hD hN [1, 2] rfl rfl rfl) rfl rfl hl.1 rfl (lv_room (Nat.le_of_ble_eq_true rfl)) dX6_ofKnot_99 ⟨Nat.zero_le _, Nat.zero_le _⟩) hP hS (fun H locs hP hS => ?_)
            have he := Sum.inl.inj (hr.trans (hρ.trans hok))
            subst he
            exact W.iret (v := P_partNumber f knot) hx hb hr0 (fun t ht hW => kR_end rfl hS ht) hS.2.2 dX6_ofKnot_102
          · have hr := if_no hr c_5
            by_cases c_6 : what = (3 : Int32)
            · have hr := if_to hr c_6
              refine lv_tableIn (off := 62) (tgt := 103) hx hb dX6_ofKnot_41 (by rw [c_6]; decide) (by rw [c_6]; decide) (by rw [c_6]; decide) (by decide) ?_
              refine lv_aload_n hx hb dX6_ofKnot_103 rfl (lv_at hl 0 rfl) ?_
              refine va_get (D := (dC, dI)) (ci := 5) (v := .ref h0) (C := RX6) (T := TX6) (N := 10) hx hb hts (by decide +kernel) hown hK hP 0 rfl rfl 0 (by decide) (hts (.fieldLink RX6 12 "Shortring" "net" "LShortring$Net;") (by decide +kernel)) (fun _ h9 => h9) rfl dX6_ofKnot_104 ?_
              refine lv_iload_n hx hb dX6_ofKnot_107 rfl (lv_at hl 1 rfl) ?_
              refine kCall (va_runSN (As := [.ref h0, .int knot]) (rest := []) ⟨hx, hb, hml, hown, hts⟩ (k_X5_leastRingAt l dC dI cI cN h0 h1 K f knot (by first | assumption | omega | exact Int32.le_refl _ | decide)) ⟨va_cnB 2 hts gX6_ofKnot_X5_leastRingAt_n261 rfl rfl rfl (hN.1 31 _ rfl) (hts (.initialized RX5) (by decide +kernel)) (by decide +kernel) ⟨Nat.le_of_ble_eq_true rfl, Nat.le_of_ble_eq_true rfl⟩, hts (.static yX5_leastRingAt) (by decide +kernel), trivial⟩ (kW_S hP hK hD hN [1, 2] rfl rfl rfl) rfl rfl hl.1 rfl (lv_room (Nat.le_of_ble_eq_true rfl)) dX6_ofKnot_108 ⟨Nat.zero_le _, Nat.zero_le _⟩) hP hS (fun H locs hP hS => ?_)
              have he := Sum.inl.inj (hr.trans (hρ.trans hok))
              subst he
              exact W.iret (v := P_leastRingAt K f knot) hx hb hr0 (fun t ht hW => kR_end rfl hS ht) hS.2.2 dX6_ofKnot_111
            · have hr := if_no hr c_6
              by_cases c_7 : what = (4 : Int32)
              · have hr := if_to hr c_7
                refine lv_tableIn (off := 71) (tgt := 112) hx hb dX6_ofKnot_41 (by rw [c_7]; decide) (by rw [c_7]; decide) (by rw [c_7]; decide) (by decide) ?_
                refine lv_aload_n hx hb dX6_ofKnot_112 rfl (lv_at hl 0 rfl) ?_
                refine va_get (D := (dC, dI)) (ci := 5) (v := .ref h0) (C := RX6) (T := TX6) (N := 10) hx hb hts (by decide +kernel) hown hK hP 0 rfl rfl 0 (by decide) (hts (.fieldLink RX6 12 "Shortring" "net" "LShortring$Net;") (by decide +kernel)) (fun _ h9 => h9) rfl dX6_ofKnot_113 ?_
                refine lv_iload_n hx hb dX6_ofKnot_116 rfl (lv_at hl 1 rfl) ?_
                refine kCall (va_runSN (As := [.ref h0, .int knot]) (rest := []) ⟨hx, hb, hml, hown, hts⟩ (k_X5_greatestDistance l dC dI cI cN h0 h1 K f knot (by first | assumption | omega | exact Int32.le_refl _ | decide)) ⟨va_cnB 2 hts gX6_ofKnot_X5_greatestDistance_n264 rfl rfl rfl (hN.1 32 _ rfl) (hts (.initialized RX5) (by decide +kernel)) (by decide +kernel) ⟨Nat.le_of_ble_eq_true rfl, Nat.le_of_ble_eq_true rfl⟩, hts (.static yX5_greatestDistance) (by decide +kernel), trivial⟩ (kW_S hP hK hD hN [1, 2] rfl rfl rfl) rfl rfl hl.1 rfl (lv_room (Nat.le_of_ble_eq_true rfl)) dX6_ofKnot_117 ⟨Nat.zero_le _, Nat.zero_le _⟩) hP hS (fun H locs hP hS => ?_)
                have he := Sum.inl.inj (hr.trans (hρ.trans hok))
                subst he
                exact W.iret (v := P_greatestDistance f knot) hx hb hr0 (fun t ht hW => kR_end rfl hS ht) hS.2.2 dX6_ofKnot_120
              · have hr := if_no hr c_7
                refine lv_tableOut (tgt := 121) hx hb dX6_ofKnot_41 (by have z0 := lv_neT c_3 (show (0 : Int32).toInt = 0 from by decide); have z1 := lv_neT c_4 (show (1 : Int32).toInt = 1 from by decide); have z2 := lv_neT c_5 (show (2 : Int32).toInt = 2 from by decide); have z3 := lv_neT c_6 (show (3 : Int32).toInt = 3 from by decide); have z4 := lv_neT c_7 (show (4 : Int32).toInt = 4 from by decide); omega) (by decide) ?_
                refine lv_aload_n hx hb dX6_ofKnot_121 rfl (lv_at hl 0 rfl) ?_
                refine va_get (D := (dC, dI)) (ci := 5) (v := .ref a0) (C := RX6) (T := TX6) (N := 10) hx hb hts (by decide +kernel) hown hK hP 0 rfl rfl 3 (by decide) (hts (.fieldLink RX6 26 "Shortring" "hunt" "LShortring$Hunt;") (by decide +kernel)) (fun _ h9 => h9) rfl dX6_ofKnot_122 ?_
                refine lv_aload_n hx hb dX6_ofKnot_125 rfl (lv_at hl 0 rfl) ?_
                refine va_get (D := (dC, dI)) (ci := 5) (v := .ref h0) (C := RX6) (T := TX6) (N := 10) hx hb hts (by decide +kernel) hown hK hP 0 rfl rfl 0 (by decide) (hts (.fieldLink RX6 12 "Shortring" "net" "LShortring$Net;") (by decide +kernel)) (fun _ h9 => h9) rfl dX6_ofKnot_126 ?_
                refine lv_iload_n hx hb dX6_ofKnot_129 rfl (lv_at hl 1 rfl) ?_
                refine kCall (va_runVN (As := [.ref h0, .int knot]) (rest := []) ⟨hx, hb, hml, hown, hts⟩ (k_X0_joinable l dC dI cI cN a0 a1 a2 a3 a4 isOn cnt len stp sta pm bm bw bars puts bap h0 h1 K f knot (by first | assumption | omega | exact Int32.le_refl _ | decide)) ⟨va_cnB 2 hts gX6_ofKnot_X0_joinable_n267 rfl rfl rfl (hN.1 33 _ rfl) (hts (.initialized RX0) (by decide +kernel)) (by decide +kernel) ⟨Nat.le_of_ble_eq_true rfl, Nat.le_of_ble_eq_true rfl⟩, hts (.instanceMethod yX0_joinable) (by decide +kernel), hts (.selects RX0 yX0_joinable yX0_joinable) (by decide +kernel)⟩ (kW_V hP hK hD hN (ci := 0) (q0 := 3) rfl rfl [3, 4, 5, 6, 7, 1, 2] rfl rfl rfl) rfl rfl hl.1 rfl (lv_room (Nat.le_of_ble_eq_true rfl)) dX6_ofKnot_130 ⟨Nat.zero_le _, Nat.zero_le _⟩) hP hS (fun H locs hP hS => ?_)
                refine kCall (va_runS (As := [.int (P_joinable K f bw isOn cnt len knot)]) (rest := []) ⟨hx, hb, hml, hown, hts⟩ (k_J6_bitCount_0f7a4 l dC dI cI cN (P_joinable K f bw isOn cnt len knot)) (va_cwS 1 hts gX6_ofKnot_J6_bitCount_0f7a4 rfl rfl rfl (by decide +kernel) ⟨Nat.le_of_ble_eq_true rfl, Nat.le_of_ble_eq_true rfl⟩) (kW_S hP hK hD hN [] rfl rfl rfl) rfl rfl hl.1 rfl (lv_room (Nat.le_of_ble_eq_true rfl)) dX6_ofKnot_133 ⟨Nat.zero_le _, Nat.zero_le _⟩) hP hS (fun H locs hP hS => ?_)
                have he := Sum.inl.inj (hr.trans (hρ.trans hok))
                subst he
                exact W.iret (v := P_bitCount (P_joinable K f bw isOn cnt len knot)) hx hb hr0 (fun t ht hW => kR_end rfl hS ht) hS.2.2 dX6_ofKnot_136
    · have hr := if_to hr c_2
      cases hr.trans (hρ.trans hok)
  · have hr := if_to hr c_1
    cases hr.trans (hρ.trans hok)
theorem gfX6_ofKnot_1 : ∀ w ∈ (vx_atS RX6 70 (kCls 1) kNs).filter goodWord, w ∈ wsX6_ofKnot := fun w h => List.mem_cons_of_mem _ (List.mem_append_right _ h)
theorem gfX6_ofKnot_2 : ∀ w ∈ (vx_atS RX6 95 (kCls 2) kNs).filter goodWord, w ∈ wsX6_ofKnot := fun w h => List.mem_cons_of_mem _ (List.mem_append_left _ (List.mem_append_right _ h))
abbrev rx_X6_ofKnot : Room := { frames := 6, cells := 1, slots := 6, locals := 116 }
set_option maxHeartbeats 4000000 in
set_option maxRecDepth 100000 in
theorem e_X6_ofKnot (l : Launch) (hl9 : l.stackTraces = false) (dC : Nat → ClassId) (dI : Nat → Nat → Nat) (cI cN : ClassId) (s0 : Nat) (sc0 : Nat) (kp0 : Nat) (ta0 : Nat) (km : Int32) (rf : Int32) (q0 : Nat) (d0 : Nat) (c0 : Nat) (h0 : Nat) (h1 : Nat) (K : Nat) (f : Nat → Int32) (a0 : Nat) (a1 : Nat) (a2 : Nat) (a3 : Nat) (a4 : Nat) (isOn : Int32) (cnt : Int32) (len : Int32) (stp : Int32) (sta : Int32) (pm : Int32) (bm : Int32) (bw : Nat → Int32) (bars : Nat → Int32) (puts : Nat → Int32) (bap : Nat → Int32) (knot : Int32) (what : Int32) (hK : K ≤ 16) (kx : Nat) (hex : P_ofKnot K f bw isOn cnt len knot what = .inr kx) : vx_Met l yX6_ofKnot wsX6_ofKnot rx_X6_ofKnot (va_Pc [.ref s0, .int knot, .int what] (kWE dC dI cI cN [(s0, .inr (5, [.ref h0, .ref sc0, .ref kp0, .ref a0, .ref q0, .ref d0, .ref c0, .ref ta0, .int km, .int rf])), (h0, .inr (3, [.ref h1, .int (nI K)])), (h1, .inl (cI, 16, .inl f)), (a0, .inr (0, [.ref a1, .ref a2, .ref a3, .ref a4, .int isOn, .int cnt, .int len, .int stp, .int sta, .int pm, .int bm])), (a1, .inl (cI, 16, .inl bw)), (a2, .inl (cI, 120, .inl bars)), (a3, .inl (cI, 40, .inl puts)), (a4, .inl (cI, 40, .inl bap))])) kNoi (kX kx) 1 6 (fun _ => False) := by
  refine vx_ofW (cc := cX6_ofKnot) (maxL := 3) (ret := (some .int)) (by decide) rfl ?_
  intro p e s m args below meth c s₁ B hml hxt hv
  obtain ⟨rfl, ⟨hP, hK, hD, hN⟩, hE⟩ := hv
  have hx := B.exec
  have hb := B.bytes
  have hr0 := B.returns
  have hts := atoms_spec (ws := wsX6_ofKnot) B.pre
  have hown : s.vm.findClass RX6 = some m.cls := findClass_of_methodNamed B.named
  have hlocks := B.notSynchronized
  have hS : va_S (fun _ => False) s.heap s.heap [] := va_S.rf
  have hl := lv_entry ([.ref s0, .int knot, .int what]) (n := 3) (Nat.le_of_ble_eq_true rfl)
  rw [lg_entry_eq]
  generalize (lg_sl ([.ref s0, .int knot, .int what]) ++ List.replicate (3 - (lg_sl ([.ref s0, .int knot, .int what])).length) Slot.unset).toArray = ls at hl ⊢
  have hl : lv_has ls 3 [(0, .ref s0), (1, .int knot), (2, .int what)] := hl
  obtain ⟨ρ, hρ⟩ : ∃ ρ : Int32 ⊕ Nat, ρ = P_ofKnot K f bw isOn cnt len knot what := ⟨_, rfl⟩
  have hr : P_ofKnot K f bw isOn cnt len knot what = ρ := hρ.symm
  rewrite [P_ofKnot] at hr
  refine lv_aload_n hx hb dX6_ofKnot_0 rfl (lv_at hl 0 rfl) ?_
  refine va_get (D := (dC, dI)) (ci := 5) (v := .ref h0) (C := RX6) (T := TX6) (N := 10) hx hb hts (by decide +kernel) hown hK hP 0 rfl rfl 0 (by decide) (hts (.fieldLink RX6 12 "Shortring" "net" "LShortring$Net;") (by decide +kernel)) (fun _ h9 => h9) rfl dX6_ofKnot_1 ?_
  refine lv_iload_n hx hb dX6_ofKnot_4 rfl (lv_at hl 1 rfl) ?_
  refine kCall (va_runVN (As := [.int knot]) (rest := []) ⟨hx, hb, hml, hown, hts⟩ (k_X3_isKnot l dC dI cI cN h0 h1 K f knot (by first | assumption | omega | exact Int32.le_refl _ | decide)) ⟨va_cnB 1 hts gX6_ofKnot_X3_isKnot_n87 rfl rfl rfl (hN.1 8 _ rfl) (hts (.initialized RX3) (by decide +kernel)) (by decide +kernel) ⟨Nat.le_of_ble_eq_true rfl, Nat.le_of_ble_eq_true rfl⟩, hts (.instanceMethod yX3_isKnot) (by decide +kernel), hts (.selects RX3 yX3_isKnot yX3_isKnot) (by decide +kernel)⟩ (kW_V hP hK hD hN (ci := 3) (q0 := 1) rfl rfl [1, 2] rfl rfl rfl) rfl rfl hl.1 rfl (lv_room (Nat.le_of_ble_eq_true rfl)) dX6_ofKnot_5 ⟨Nat.zero_le _, Nat.zero_le _⟩) hP hS (fun H locs hP hS => ?_)
  refine lv_if_ne (tgt := 21) hx hb dX6_ofKnot_8 (by decide) (fun c_1 => ?_) (fun c_1 => ?_)
  · have hr := if_no hr c_1
    refine lv_iload_n hx hb dX6_ofKnot_21 rfl (lv_at hl 2 rfl) ?_
    refine lv_iconst (v := 0) hx hb dX6_ofKnot_22 (by decide) ?_
    refine lv_iconst (v := 5) hx hb dX6_ofKnot_23 (by decide) ?_
    refine kCall (va_runS (As := [.int what, .int 0, .int 5]) (rest := []) ⟨hx, hb, hml, hown, hts⟩ (k_X6_isWithin l dC dI cI cN what 0 5) (va_cwS 3 hts gX6_ofKnot_X6_isWithin rfl rfl rfl (by decide +kernel) ⟨Nat.le_of_ble_eq_true rfl, Nat.le_of_ble_eq_true rfl⟩) (kW_S hP hK hD hN [] rfl rfl rfl) rfl rfl hl.1 rfl (lv_room (Nat.le_of_ble_eq_true rfl)) dX6_ofKnot_24 ⟨Nat.zero_le _, Nat.zero_le _⟩) hP hS (fun H locs hP hS => ?_)
    refine lv_if_ne (tgt := 40) hx hb dX6_ofKnot_27 (by decide) (fun c_2 => ?_) (fun c_2 => ?_)
    · have hr := if_no hr c_2
      refine lv_iload_n hx hb dX6_ofKnot_40 rfl (lv_at hl 2 rfl) ?_
      by_cases c_3 : what = (0 : Int32)
      · have hr := if_to hr c_3
        refine lv_tableIn (off := 35) (tgt := 76) hx hb dX6_ofKnot_41 (by rw [c_3]; decide) (by rw [c_3]; decide) (by rw [c_3]; decide) (by decide) ?_
        refine lv_aload_n hx hb dX6_ofKnot_76 rfl (lv_at hl 0 rfl) ?_
        refine va_get (D := (dC, dI)) (ci := 5) (v := .ref h0) (C := RX6) (T := TX6) (N := 10) hx hb hts (by decide +kernel) hown hK hP 0 rfl rfl 0 (by decide) (hts (.fieldLink RX6 12 "Shortring" "net" "LShortring$Net;") (by decide +kernel)) (fun _ h9 => h9) rfl dX6_ofKnot_77 ?_
        refine lv_iload_n hx hb dX6_ofKnot_80 rfl (lv_at hl 1 rfl) ?_
        refine kCall (va_runVN (As := [.int knot]) (rest := []) ⟨hx, hb, hml, hown, hts⟩ (k_X3_countOf l dC dI cI cN h0 h1 K f knot (by first | assumption | omega | exact Int32.le_refl _ | decide)) ⟨va_cnB 1 hts gX6_ofKnot_X3_countOf_n102 rfl rfl rfl (hN.1 10 _ rfl) (hts (.initialized RX3) (by decide +kernel)) (by decide +kernel) ⟨Nat.le_of_ble_eq_true rfl, Nat.le_of_ble_eq_true rfl⟩, hts (.instanceMethod yX3_countOf) (by decide +kernel), hts (.selects RX3 yX3_countOf yX3_countOf) (by decide +kernel)⟩ (kW_V hP hK hD hN (ci := 3) (q0 := 1) rfl rfl [1, 2] rfl rfl rfl) rfl rfl hl.1 rfl (lv_room (Nat.le_of_ble_eq_true rfl)) dX6_ofKnot_81 ⟨Nat.zero_le _, Nat.zero_le _⟩) hP hS (fun H locs hP hS => ?_)
        cases hr.trans (hρ.trans hex)
      · have hr := if_no hr c_3
        by_cases c_4 : what = (1 : Int32)
        · have hr := if_to hr c_4
          refine lv_tableIn (off := 44) (tgt := 85) hx hb dX6_ofKnot_41 (by rw [c_4]; decide) (by rw [c_4]; decide) (by rw [c_4]; decide) (by decide) ?_
          refine lv_aload_n hx hb dX6_ofKnot_85 rfl (lv_at hl 0 rfl) ?_
          refine va_get (D := (dC, dI)) (ci := 5) (v := .ref h0) (C := RX6) (T := TX6) (N := 10) hx hb hts (by decide +kernel) hown hK hP 0 rfl rfl 0 (by decide) (hts (.fieldLink RX6 12 "Shortring" "net" "LShortring$Net;") (by decide +kernel)) (fun _ h9 => h9) rfl dX6_ofKnot_86 ?_
          refine lv_iload_n hx hb dX6_ofKnot_89 rfl (lv_at hl 1 rfl) ?_
          refine kCall (va_runVN (As := [.int knot]) (rest := []) ⟨hx, hb, hml, hown, hts⟩ (k_X3_nearOf l dC dI cI cN h0 h1 K f knot (by first | assumption | omega | exact Int32.le_refl _ | decide)) ⟨va_cnB 1 hts gX6_ofKnot_X3_nearOf_n255 rfl rfl rfl (hN.1 29 _ rfl) (hts (.initialized RX3) (by decide +kernel)) (by decide +kernel) ⟨Nat.le_of_ble_eq_true rfl, Nat.le_of_ble_eq_true rfl⟩, hts (.instanceMethod yX3_nearOf) (by decide +kernel), hts (.selects RX3 yX3_nearOf yX3_nearOf) (by decide +kernel)⟩ (kW_V hP hK hD hN (ci := 3) (q0 := 1) rfl rfl [1, 2] rfl rfl rfl) rfl rfl hl.1 rfl (lv_room (Nat.le_of_ble_eq_true rfl)) dX6_ofKnot_90 ⟨Nat.zero_le _, Nat.zero_le _⟩) hP hS (fun H locs hP hS => ?_)
          cases hr.trans (hρ.trans hex)
        · have hr := if_no hr c_4
          by_cases c_5 : what = (2 : Int32)
          · have hr := if_to hr c_5
            refine lv_tableIn (off := 53) (tgt := 94) hx hb dX6_ofKnot_41 (by rw [c_5]; decide) (by rw [c_5]; decide) (by rw [c_5]; decide) (by decide) ?_
            refine lv_aload_n hx hb dX6_ofKnot_94 rfl (lv_at hl 0 rfl) ?_
            refine va_get (D := (dC, dI)) (ci := 5) (v := .ref h0) (C := RX6) (T := TX6) (N := 10) hx hb hts (by decide +kernel) hown hK hP 0 rfl rfl 0 (by decide) (hts (.fieldLink RX6 12 "Shortring" "net" "LShortring$Net;") (by decide +kernel)) (fun _ h9 => h9) rfl dX6_ofKnot_95 ?_
            refine lv_iload_n hx hb dX6_ofKnot_98 rfl (lv_at hl 1 rfl) ?_
            refine kCall (va_runSN (As := [.ref h0, .int knot]) (rest := []) ⟨hx, hb, hml, hown, hts⟩ (k_X5_partNumber l dC dI cI cN h0 h1 K f knot (by first | assumption | omega | exact Int32.le_refl _ | decide)) ⟨va_cnB 2 hts gX6_ofKnot_X5_partNumber_n258 rfl rfl rfl (hN.1 30 _ rfl) (hts (.initialized RX5) (by decide +kernel)) (by decide +kernel) ⟨Nat.le_of_ble_eq_true rfl, Nat.le_of_ble_eq_true rfl⟩, hts (.static yX5_partNumber) (by decide +kernel), trivial⟩ (kW_S hP hK hD hN [1, 2] rfl rfl rfl) rfl rfl hl.1 rfl (lv_room (Nat.le_of_ble_eq_true rfl)) dX6_ofKnot_99 ⟨Nat.zero_le _, Nat.zero_le _⟩) hP hS (fun H locs hP hS => ?_)
            cases hr.trans (hρ.trans hex)
          · have hr := if_no hr c_5
            by_cases c_6 : what = (3 : Int32)
            · have hr := if_to hr c_6
              refine lv_tableIn (off := 62) (tgt := 103) hx hb dX6_ofKnot_41 (by rw [c_6]; decide) (by rw [c_6]; decide) (by rw [c_6]; decide) (by decide) ?_
              refine lv_aload_n hx hb dX6_ofKnot_103 rfl (lv_at hl 0 rfl) ?_
              refine va_get (D := (dC, dI)) (ci := 5) (v := .ref h0) (C := RX6) (T := TX6) (N := 10) hx hb hts (by decide +kernel) hown hK hP 0 rfl rfl 0 (by decide) (hts (.fieldLink RX6 12 "Shortring" "net" "LShortring$Net;") (by decide +kernel)) (fun _ h9 => h9) rfl dX6_ofKnot_104 ?_
              refine lv_iload_n hx hb dX6_ofKnot_107 rfl (lv_at hl 1 rfl) ?_
              refine kCall (va_runSN (As := [.ref h0, .int knot]) (rest := []) ⟨hx, hb, hml, hown, hts⟩ (k_X5_leastRingAt l dC dI cI cN h0 h1 K f knot (by first | assumption | omega | exact Int32.le_refl _ | decide)) ⟨va_cnB 2 hts gX6_ofKnot_X5_leastRingAt_n261 rfl rfl rfl (hN.1 31 _ rfl) (hts (.initialized RX5) (by decide +kernel)) (by decide +kernel) ⟨Nat.le_of_ble_eq_true rfl, Nat.le_of_ble_eq_true rfl⟩, hts (.static yX5_leastRingAt) (by decide +kernel), trivial⟩ (kW_S hP hK hD hN [1, 2] rfl rfl rfl) rfl rfl hl.1 rfl (lv_room (Nat.le_of_ble_eq_true rfl)) dX6_ofKnot_108 ⟨Nat.zero_le _, Nat.zero_le _⟩) hP hS (fun H locs hP hS => ?_)
              cases hr.trans (hρ.trans hex)
            · have hr := if_no hr c_6
              by_cases c_7 : what = (4 : Int32)
              · have hr := if_to hr c_7
                refine lv_tableIn (off := 71) (tgt := 112) hx hb dX6_ofKnot_41 (by rw [c_7]; decide) (by rw [c_7]; decide) (by rw [c_7]; decide) (by decide) ?_
                refine lv_aload_n hx hb dX6_ofKnot_112 rfl (lv_at hl 0 rfl) ?_
                refine va_get (D := (dC, dI)) (ci := 5) (v := .ref h0) (C := RX6) (T := TX6) (N := 10) hx hb hts (by decide +kernel) hown hK hP 0 rfl rfl 0 (by decide) (hts (.fieldLink RX6 12 "Shortring" "net" "LShortring$Net;") (by decide +kernel)) (fun _ h9 => h9) rfl dX6_ofKnot_113 ?_
                refine lv_iload_n hx hb dX6_ofKnot_116 rfl (lv_at hl 1 rfl) ?_
                refine kCall (va_runSN (As := [.ref h0, .int knot]) (rest := []) ⟨hx, hb, hml, hown, hts⟩ (k_X5_greatestDistance l dC dI cI cN h0 h1 K f knot (by first | assumption | omega | exact Int32.le_refl _ | decide)) ⟨va_cnB 2 hts gX6_ofKnot_X5_greatestDistance_n264 rfl rfl rfl (hN.1 32 _ rfl) (hts (.initialized RX5) (by decide +kernel)) (by decide +kernel) ⟨Nat.le_of_ble_eq_true rfl, Nat.le_of_ble_eq_true rfl⟩, hts (.static yX5_greatestDistance) (by decide +kernel), trivial⟩ (kW_S hP hK hD hN [1, 2] rfl rfl rfl) rfl rfl hl.1 rfl (lv_room (Nat.le_of_ble_eq_true rfl)) dX6_ofKnot_117 ⟨Nat.zero_le _, Nat.zero_le _⟩) hP hS (fun H locs hP hS => ?_)
                cases hr.trans (hρ.trans hex)
              · have hr := if_no hr c_7
                refine lv_tableOut (tgt := 121) hx hb dX6_ofKnot_41 (by have z0 := lv_neT c_3 (show (0 : Int32).toInt = 0 from by decide); have z1 := lv_neT c_4 (show (1 : Int32).toInt = 1 from by decide); have z2 := lv_neT c_5 (show (2 : Int32).toInt = 2 from by decide); have z3 := lv_neT c_6 (show (3 : Int32).toInt = 3 from by decide); have z4 := lv_neT c_7 (show (4 : Int32).toInt = 4 from by decide); omega) (by decide) ?_
                refine lv_aload_n hx hb dX6_ofKnot_121 rfl (lv_at hl 0 rfl) ?_
                refine va_get (D := (dC, dI)) (ci := 5) (v := .ref a0) (C := RX6) (T := TX6) (N := 10) hx hb hts (by decide +kernel) hown hK hP 0 rfl rfl 3 (by decide) (hts (.fieldLink RX6 26 "Shortring" "hunt" "LShortring$Hunt;") (by decide +kernel)) (fun _ h9 => h9) rfl dX6_ofKnot_122 ?_
                refine lv_aload_n hx hb dX6_ofKnot_125 rfl (lv_at hl 0 rfl) ?_
                refine va_get (D := (dC, dI)) (ci := 5) (v := .ref h0) (C := RX6) (T := TX6) (N := 10) hx hb hts (by decide +kernel) hown hK hP 0 rfl rfl 0 (by decide) (hts (.fieldLink RX6 12 "Shortring" "net" "LShortring$Net;") (by decide +kernel)) (fun _ h9 => h9) rfl dX6_ofKnot_126 ?_
                refine lv_iload_n hx hb dX6_ofKnot_129 rfl (lv_at hl 1 rfl) ?_
                refine kCall (va_runVN (As := [.ref h0, .int knot]) (rest := []) ⟨hx, hb, hml, hown, hts⟩ (k_X0_joinable l dC dI cI cN a0 a1 a2 a3 a4 isOn cnt len stp sta pm bm bw bars puts bap h0 h1 K f knot (by first | assumption | omega | exact Int32.le_refl _ | decide)) ⟨va_cnB 2 hts gX6_ofKnot_X0_joinable_n267 rfl rfl rfl (hN.1 33 _ rfl) (hts (.initialized RX0) (by decide +kernel)) (by decide +kernel) ⟨Nat.le_of_ble_eq_true rfl, Nat.le_of_ble_eq_true rfl⟩, hts (.instanceMethod yX0_joinable) (by decide +kernel), hts (.selects RX0 yX0_joinable yX0_joinable) (by decide +kernel)⟩ (kW_V hP hK hD hN (ci := 0) (q0 := 3) rfl rfl [3, 4, 5, 6, 7, 1, 2] rfl rfl rfl) rfl rfl hl.1 rfl (lv_room (Nat.le_of_ble_eq_true rfl)) dX6_ofKnot_130 ⟨Nat.zero_le _, Nat.zero_le _⟩) hP hS (fun H locs hP hS => ?_)
                refine kCall (va_runS (As := [.int (P_joinable K f bw isOn cnt len knot)]) (rest := []) ⟨hx, hb, hml, hown, hts⟩ (k_J6_bitCount_0f7a4 l dC dI cI cN (P_joinable K f bw isOn cnt len knot)) (va_cwS 1 hts gX6_ofKnot_J6_bitCount_0f7a4 rfl rfl rfl (by decide +kernel) ⟨Nat.le_of_ble_eq_true rfl, Nat.le_of_ble_eq_true rfl⟩) (kW_S hP hK hD hN [] rfl rfl rfl) rfl rfl hl.1 rfl (lv_room (Nat.le_of_ble_eq_true rfl)) dX6_ofKnot_133 ⟨Nat.zero_le _, Nat.zero_le _⟩) hP hS (fun H locs hP hS => ?_)
                cases hr.trans (hρ.trans hex)
    · have hr := if_to hr c_2
      exact kThrowS hx hb hl9 hown 1 (ik := 66) (is := 253) (ic := 70) (Sum.inr.inj (hr.trans (hρ.trans hex))) (by decide +kernel) (hts (.classLink RX6 66 "java/lang/IllegalArgumentException") (by decide +kernel)) (hts (.initialized "java/lang/IllegalArgumentException") (by decide +kernel)) 17 rfl (fun w h => hts w (gfX6_ofKnot_1 w h)) kBad1 (kHg kOt1) hE hS (hl.1.trans hml.symm) dX6_ofKnot_30 dX6_ofKnot_33 dX6_ofKnot_34 dX6_ofKnot_36 dX6_ofKnot_39 hxt (Nat.le_of_ble_eq_true rfl) (Nat.le_of_ble_eq_true rfl) (Nat.le_of_ble_eq_true rfl) (Nat.le_of_ble_eq_true rfl) hlocks
  · have hr := if_to hr c_1
    exact kThrowS hx hb hl9 hown 2 (ik := 91) (is := 93) (ic := 95) (Sum.inr.inj (hr.trans (hρ.trans hex))) (by decide +kernel) (hts (.classLink RX6 91 "java/lang/IndexOutOfBoundsException") (by decide +kernel)) (hts (.initialized "java/lang/IndexOutOfBoundsException") (by decide +kernel)) 1 rfl (fun w h => hts w (gfX6_ofKnot_2 w h)) kBad2 (kHg kOt2) hE hS (hl.1.trans hml.symm) dX6_ofKnot_11 dX6_ofKnot_14 dX6_ofKnot_15 dX6_ofKnot_17 dX6_ofKnot_20 hxt (Nat.le_of_ble_eq_true rfl) (Nat.le_of_ble_eq_true rfl) (Nat.le_of_ble_eq_true rfl) (Nat.le_of_ble_eq_true rfl) hlocks
