/-! the object: what may throw (printed by wip/gen) -/
def P_garden (K : Nat) (f : Nat → Int32) (t : Nat → Int32) (M : Nat) : (Int32 × (Nat → Int32) × (Nat → Int32)) ⊕ Nat :=
  if (P_isWithin (nI M) 3 16) = 0 then
    Sum.inr 1
  else
    bd (P_lay f) (fun r_2 =>
      bd (P_look t M r_2) (fun r_3 =>
        Sum.inl (nI K, r_2, r_3)))
abbrev rm_X6_garden : Room := { frames := 6, cells := 0, slots := 0, locals := 139 }
set_option maxHeartbeats 4000000 in
set_option maxRecDepth 100000 in
theorem k_X6_garden (l : Launch) (dC : Nat → ClassId) (dI : Nat → Nat → Nat) (cI cN : ClassId) (s0 : Nat) (sc0 : Nat) (kp0 : Nat) (ta0 : Nat) (km : Int32) (rf : Int32) (d0 : Nat) (c0 : Nat) (h0 : Nat) (h1 : Nat) (K : Nat) (f : Nat → Int32) (a0 : Nat) (a1 : Nat) (a2 : Nat) (a3 : Nat) (a4 : Nat) (isOn : Int32) (cnt : Int32) (len : Int32) (stp : Int32) (sta : Int32) (pm : Int32) (bm : Int32) (bw : Nat → Int32) (bars : Nat → Int32) (puts : Nat → Int32) (bap : Nat → Int32) (q0 : Nat) (q1 : Nat) (q2 : Nat) (g : Nat → Int32) (t : Nat → Int32) (M : Nat) (hK : K ≤ 16) (hM : M < 2 ^ 32) (sz : Nat) (v : Int32 × (Nat → Int32) × (Nat → Int32)) (hok : P_garden K f t M = .inl v) : Met l yX6_garden wsX6_garden rm_X6_garden (va_Pc [.ref s0, .int (nI M)] (kU dC dI cI cN [(s0, .inr (5, [.ref h0, .ref sc0, .ref kp0, .ref a0, .ref q0, .ref d0, .ref c0, .ref ta0, .int km, .int rf])), (h0, .inr (3, [.ref h1, .int (nI K)])), (h1, .inl (cI, 16, .inl f)), (a0, .inr (0, [.ref a1, .ref a2, .ref a3, .ref a4, .int isOn, .int cnt, .int len, .int stp, .int sta, .int pm, .int bm])), (a1, .inl (cI, 16, .inl bw)), (a2, .inl (cI, 120, .inl bars)), (a3, .inl (cI, 40, .inl puts)), (a4, .inl (cI, 40, .inl bap)), (q0, .inr (1, [.ref q1, .ref q2])), (q1, .inl (cI, 102, .inl g)), (q2, .inl (cI, 54, .inl t))] sz)) (kVi dC dI v.1 [(s0, .inr (5, [.ref h0, .ref sc0, .ref kp0, .ref a0, .ref q0, .ref d0, .ref c0, .ref ta0, .int km, .int rf])), (h0, .inr (3, [.ref h1, .int (nI M)])), (h1, .inl (cI, 16, .inl (v.2.1))), (a0, .inr (0, [.ref a1, .ref a2, .ref a3, .ref a4, .int 0, .int cnt, .int len, .int stp, .int sta, .int pm, .int bm])), (a1, .inl (cI, 16, .inl bw)), (a2, .inl (cI, 120, .inl bars)), (a3, .inl (cI, 40, .inl puts)), (a4, .inl (cI, 40, .inl bap)), (q0, .inr (1, [.ref q1, .ref q2])), (q1, .inl (cI, 102, .inl g)), (q2, .inl (cI, 54, .inl (v.2.2)))] (va_A [(s0, .inr (5, [.ref h0, .ref sc0, .ref kp0, .ref a0, .ref q0, .ref d0, .ref c0, .ref ta0, .int km, .int rf])), (h0, .inr (3, [.ref h1, .int (nI K)])), (h1, .inl (cI, 16, .inl f)), (a0, .inr (0, [.ref a1, .ref a2, .ref a3, .ref a4, .int isOn, .int cnt, .int len, .int stp, .int sta, .int pm, .int bm])), (a1, .inl (cI, 16, .inl bw)), (a2, .inl (cI, 120, .inl bars)), (a3, .inl (cI, 40, .inl puts)), (a4, .inl (cI, 40, .inl bap)), (q0, .inr (1, [.ref q1, .ref q2])), (q1, .inl (cI, 102, .inl g)), (q2, .inl (cI, 54, .inl t))] sz)) 0 0 (va_A [(s0, .inr (5, [.ref h0, .ref sc0, .ref kp0, .ref a0, .ref q0, .ref d0, .ref c0, .ref ta0, .int km, .int rf])), (h0, .inr (3, [.ref h1, .int (nI K)])), (h1, .inl (cI, 16, .inl f)), (a0, .inr (0, [.ref a1, .ref a2, .ref a3, .ref a4, .int isOn, .int cnt, .int len, .int stp, .int sta, .int pm, .int bm])), (a1, .inl (cI, 16, .inl bw)), (a2, .inl (cI, 120, .inl bars)), (a3, .inl (cI, 40, .inl puts)), (a4, .inl (cI, 40, .inl bap)), (q0, .inr (1, [.ref q1, .ref q2])), (q1, .inl (cI, 102, .inl g)), (q2, .inl (cI, 54, .inl t))] sz) := by
  refine Met.ofW (cc := cX6_garden) (maxL := 3) (ret := (some .int)) (by decide) rfl ?_
  intro p e s m args below meth c s₁ B hml hv
  obtain ⟨rfl, hsz, hP, hK, hD0, hN⟩ := hv
  have hx := B.exec
  have hb := B.bytes
  have hr0 := B.returns
  have hts := atoms_spec (ws := wsX6_garden) B.pre
  have hown : s.vm.findClass RX6 = some m.cls := findClass_of_methodNamed B.named
  have hlocks := B.notSynchronized
  subst hsz
  have hD := hD0.self (sz := s.heap.size)
  generalize hAe : va_A [(s0, .inr (5, [.ref h0, .ref sc0, .ref kp0, .ref a0, .ref q0, .ref d0, .ref c0, .ref ta0, .int km, .int rf])), (h0, .inr (3, [.ref h1, .int (nI K)])), (h1, .inl (cI, 16, .inl f)), (a0, .inr (0, [.ref a1, .ref a2, .ref a3, .ref a4, .int isOn, .int cnt, .int len, .int stp, .int sta, .int pm, .int bm])), (a1, .inl (cI, 16, .inl bw)), (a2, .inl (cI, 120, .inl bars)), (a3, .inl (cI, 40, .inl puts)), (a4, .inl (cI, 40, .inl bap)), (q0, .inr (1, [.ref q1, .ref q2])), (q1, .inl (cI, 102, .inl g)), (q2, .inl (cI, 54, .inl t))] s.heap.size = A at hD ⊢
  have hA : ∀ q : Nat, s.heap.size ≤ q → A q := fun q h => by rw [← hAe]; exact Or.inr h
  have hS : va_S A s.heap s.heap [] := va_S.rf
  have hl := lv_entry ([.ref s0, .int (nI M)]) (n := 3) (Nat.le_of_ble_eq_true rfl)
  rw [lg_entry_eq]
  generalize (lg_sl ([.ref s0, .int (nI M)]) ++ List.replicate (3 - (lg_sl ([.ref s0, .int (nI M)])).length) Slot.unset).toArray = ls at hl ⊢
  have hl : lv_has ls 3 [(0, .ref s0), (1, .int (nI M))] := hl
  obtain ⟨ρ, hρ⟩ : ∃ ρ : (Int32 × (Nat → Int32) × (Nat → Int32)) ⊕ Nat, ρ = P_garden K f t M := ⟨_, rfl⟩
  have hr : P_garden K f t M = ρ := hρ.symm
  rewrite [P_garden] at hr
  refine lv_iload_n hx hb dX6_garden_0 rfl (lv_at hl 1 rfl) ?_
  refine lv_iconst (v := 3) hx hb dX6_garden_1 (by decide) ?_
  refine lv_bipush (v := 16) hx hb dX6_garden_2 (by decide) ?_
  refine kCall (va_runS (As := [.int (nI M), .int 3, .int 16]) (rest := []) ⟨hx, hb, hml, hown, hts⟩ (k_X6_isWithin l dC dI cI cN (nI M) 3 16) (va_cwS 3 hts gX6_garden_X6_isWithin rfl rfl rfl (by decide +kernel) ⟨Nat.le_of_ble_eq_true rfl, Nat.le_of_ble_eq_true rfl⟩) (kW_S hP hK hD hN [] rfl rfl rfl) rfl rfl hl.1 rfl (lv_room (Nat.le_of_ble_eq_true rfl)) dX6_garden_4 ⟨Nat.zero_le _, Nat.zero_le _⟩) hP hS (fun H locs hP hS => ?_)
  refine lv_if_ne (tgt := 20) hx hb dX6_garden_7 (by decide) (fun c_1 => ?_) (fun c_1 => ?_)
  · have hr := if_no hr c_1
    have hMr := kWithin (lo := 3) (hi := 16) hM (by omega) (by omega) (by assumption)
    refine lv_aload_n hx hb dX6_garden_20 rfl (lv_at hl 0 rfl) ?_
    refine va_get (D := (dC, dI)) (ci := 5) (v := .ref h0) (C := RX6) (T := TX6) (N := 10) hx hb hts (by decide +kernel) hown hK hP 0 rfl rfl 0 (by decide) (hts (.fieldLink RX6 12 "Shortring" "net" "LShortring$Net;") (by decide +kernel)) (fun _ h9 => h9) rfl dX6_garden_21 ?_
    refine va_getN (D := (dC, dI)) (ci := 3) (v := .int (nI K)) (C := RX3) (T := TX3) (N := 2) hx hb hts (by decide +kernel) hown hK hP 1 rfl rfl 1 (by decide) (va_Nw.use rfl (hN.2 0 _ rfl)) (fun _ h9 => h9) rfl dX6_garden_24 ?_
    refine lv_istore_n (lv' := [(2, .int (nI K)), (0, .ref s0), (1, .int (nI M))]) hx hb dX6_garden_27 rfl hl (by decide) rfl (fun ls hl => ?_)
    refine lv_aload_n hx hb dX6_garden_28 rfl (lv_at hl 1 rfl) ?_
    refine va_get (D := (dC, dI)) (ci := 5) (v := .ref h0) (C := RX6) (T := TX6) (N := 10) hx hb hts (by decide +kernel) hown hK hP 0 rfl rfl 0 (by decide) (hts (.fieldLink RX6 12 "Shortring" "net" "LShortring$Net;") (by decide +kernel)) (fun _ h9 => h9) rfl dX6_garden_29 ?_
    refine lv_iload_n hx hb dX6_garden_32 rfl (lv_at hl 2 rfl) ?_
    refine kCallV (wr := [(s0, .inr (5, [.ref h0, .ref sc0, .ref kp0, .ref a0, .ref q0, .ref d0, .ref c0, .ref ta0, .int km, .int rf])), (a0, .inr (0, [.ref a1, .ref a2, .ref a3, .ref a4, .int isOn, .int cnt, .int len, .int stp, .int sta, .int pm, .int bm])), (a1, .inl (cI, 16, .inl bw)), (a2, .inl (cI, 120, .inl bars)), (a3, .inl (cI, 40, .inl puts)), (a4, .inl (cI, 40, .inl bap)), (q0, .inr (1, [.ref q1, .ref q2])), (q1, .inl (cI, 102, .inl g)), (q2, .inl (cI, 54, .inl t))]) (va_runVN (As := [.int (nI M)]) (rest := []) ⟨hx, hb, hml, hown, hts⟩ (k_X3_lay l dC dI cI cN h0 h1 K f M _) ⟨va_cnB 1 hts gX6_garden_X3_lay_n76 rfl rfl rfl (hN.1 5 _ rfl) (hts (.initialized RX3) (by decide +kernel)) (by decide +kernel) ⟨Nat.le_of_ble_eq_true rfl, Nat.le_of_ble_eq_true rfl⟩, hts (.instanceMethod yX3_lay) (by decide +kernel), hts (.selects RX3 yX3_lay yX3_lay) (by decide +kernel)⟩ (kU_V hP hK hD hN (ci := 3) (q0 := 1) rfl rfl [1, 2] rfl rfl rfl) rfl rfl hl.1 rfl (lv_room (Nat.le_of_ble_eq_true rfl)) dX6_garden_33 ⟨Nat.zero_le _, Nat.zero_le _⟩) hP hD hS hA [1, 2] [0, 3, 4, 5, 6, 7, 8, 9, 10] rfl rfl rfl rfl (by decide) rfl (fun H locs hP hD hS => ?_)
    obtain ⟨r_2, er_2⟩ : ∃ y : Nat → Int32, y = (P_lay f) := ⟨_, rfl⟩
    try rw [← er_2] at hP hD
    have hr := bd_to hr er_2
    have hP : va_P (dC, dI) kCl [(s0, .inr (5, [.ref h0, .ref sc0, .ref kp0, .ref a0, .ref q0, .ref d0, .ref c0, .ref ta0, .int km, .int rf])), (h0, .inr (3, [.ref h1, .int (nI M)])), (h1, .inl (cI, 16, .inl r_2)), (a0, .inr (0, [.ref a1, .ref a2, .ref a3, .ref a4, .int isOn, .int cnt, .int len, .int stp, .int sta, .int pm, .int bm])), (a1, .inl (cI, 16, .inl bw)), (a2, .inl (cI, 120, .inl bars)), (a3, .inl (cI, 40, .inl puts)), (a4, .inl (cI, 40, .inl bap)), (q0, .inr (1, [.ref q1, .ref q2])), (q1, .inl (cI, 102, .inl g)), (q2, .inl (cI, 54, .inl t))] H := hP.sub [0, 9, 10, 1, 2, 3, 4, 5, 6, 7, 8] rfl
    have hD : va_D A [(s0, .inr (5, [.ref h0, .ref sc0, .ref kp0, .ref a0, .ref q0, .ref d0, .ref c0, .ref ta0, .int km, .int rf])), (h0, .inr (3, [.ref h1, .int (nI M)])), (h1, .inl (cI, 16, .inl r_2)), (a0, .inr (0, [.ref a1, .ref a2, .ref a3, .ref a4, .int isOn, .int cnt, .int len, .int stp, .int sta, .int pm, .int bm])), (a1, .inl (cI, 16, .inl bw)), (a2, .inl (cI, 120, .inl bars)), (a3, .inl (cI, 40, .inl puts)), (a4, .inl (cI, 40, .inl bap)), (q0, .inr (1, [.ref q1, .ref q2])), (q1, .inl (cI, 102, .inl g)), (q2, .inl (cI, 54, .inl t))] := hD.sub [0, 9, 10, 1, 2, 3, 4, 5, 6, 7, 8] (by decide) rfl
    refine lv_aload_n hx hb dX6_garden_36 rfl (lv_at hl 1 rfl) ?_
    refine va_get (D := (dC, dI)) (ci := 5) (v := .ref a0) (C := RX6) (T := TX6) (N := 10) hx hb hts (by decide +kernel) hown hK hP 0 rfl rfl 3 (by decide) (hts (.fieldLink RX6 26 "Shortring" "hunt" "LShortring$Hunt;") (by decide +kernel)) (fun _ h9 => h9) rfl dX6_garden_37 ?_
    refine kCallV (wr := [(s0, .inr (5, [.ref h0, .ref sc0, .ref kp0, .ref a0, .ref q0, .ref d0, .ref c0, .ref ta0, .int km, .int rf])), (h0, .inr (3, [.ref h1, .int (nI M)])), (h1, .inl (cI, 16, .inl r_2)), (q0, .inr (1, [.ref q1, .ref q2])), (q1, .inl (cI, 102, .inl g)), (q2, .inl (cI, 54, .inl t))]) (va_runVN (As := []) (rest := []) ⟨hx, hb, hml, hown, hts⟩ (k_X0_end l dC dI cI cN a0 a1 a2 a3 a4 isOn cnt len stp sta pm bm bw bars puts bap _) ⟨va_cnB 0 hts gX6_garden_X0_end_n80 rfl rfl rfl (hN.1 6 _ rfl) (hts (.initialized RX0) (by decide +kernel)) (by decide +kernel) ⟨Nat.le_of_ble_eq_true rfl, Nat.le_of_ble_eq_true rfl⟩, hts (.instanceMethod yX0_end) (by decide +kernel), hts (.selects RX0 yX0_end yX0_end) (by decide +kernel)⟩ (kU_V hP hK hD hN (ci := 0) (q0 := 3) rfl rfl [3, 4, 5, 6, 7] rfl rfl rfl) rfl rfl hl.1 rfl (lv_room (Nat.le_of_ble_eq_true rfl)) dX6_garden_40 ⟨Nat.zero_le _, Nat.zero_le _⟩) hP hD hS hA [3, 4, 5, 6, 7] [0, 1, 2, 8, 9, 10] rfl rfl rfl rfl (by decide) rfl (fun H locs hP hD hS => ?_)
    have hP : va_P (dC, dI) kCl [(s0, .inr (5, [.ref h0, .ref sc0, .ref kp0, .ref a0, .ref q0, .ref d0, .ref c0, .ref ta0, .int km, .int rf])), (h0, .inr (3, [.ref h1, .int (nI M)])), (h1, .inl (cI, 16, .inl r_2)), (a0, .inr (0, [.ref a1, .ref a2, .ref a3, .ref a4, .int 0, .int cnt, .int len, .int stp, .int sta, .int pm, .int bm])), (a1, .inl (cI, 16, .inl bw)), (a2, .inl (cI, 120, .inl bars)), (a3, .inl (cI, 40, .inl puts)), (a4, .inl (cI, 40, .inl bap)), (q0, .inr (1, [.ref q1, .ref q2])), (q1, .inl (cI, 102, .inl g)), (q2, .inl (cI, 54, .inl t))] H := hP.sub [0, 1, 2, 6, 7, 8, 9, 10, 3, 4, 5] rfl
    have hD : va_D A [(s0, .inr (5, [.ref h0, .ref sc0, .ref kp0, .ref a0, .ref q0, .ref d0, .ref c0, .ref ta0, .int km, .int rf])), (h0, .inr (3, [.ref h1, .int (nI M)])), (h1, .inl (cI, 16, .inl r_2)), (a0, .inr (0, [.ref a1, .ref a2, .ref a3, .ref a4, .int 0, .int cnt, .int len, .int stp, .int sta, .int pm, .int bm])), (a1, .inl (cI, 16, .inl bw)), (a2, .inl (cI, 120, .inl bars)), (a3, .inl (cI, 40, .inl puts)), (a4, .inl (cI, 40, .inl bap)), (q0, .inr (1, [.ref q1, .ref q2])), (q1, .inl (cI, 102, .inl g)), (q2, .inl (cI, 54, .inl t))] := hD.sub [0, 1, 2, 6, 7, 8, 9, 10, 3, 4, 5] (by decide) rfl
    refine lv_aload_n hx hb dX6_garden_43 rfl (lv_at hl 1 rfl) ?_
    refine va_get (D := (dC, dI)) (ci := 5) (v := .ref q0) (C := RX6) (T := TX6) (N := 10) hx hb hts (by decide +kernel) hown hK hP 0 rfl rfl 4 (by decide) (hts (.fieldLink RX6 33 "Shortring" "ledger" "LShortring$Ledger;") (by decide +kernel)) (fun _ h9 => h9) rfl dX6_garden_44 ?_
    refine lv_aload_n hx hb dX6_garden_47 rfl (lv_at hl 1 rfl) ?_
    refine va_get (D := (dC, dI)) (ci := 5) (v := .ref h0) (C := RX6) (T := TX6) (N := 10) hx hb hts (by decide +kernel) hown hK hP 0 rfl rfl 0 (by decide) (hts (.fieldLink RX6 12 "Shortring" "net" "LShortring$Net;") (by decide +kernel)) (fun _ h9 => h9) rfl dX6_garden_48 ?_
    refine kCallV (wr := [(s0, .inr (5, [.ref h0, .ref sc0, .ref kp0, .ref a0, .ref q0, .ref d0, .ref c0, .ref ta0, .int km, .int rf])), (a0, .inr (0, [.ref a1, .ref a2, .ref a3, .ref a4, .int 0, .int cnt, .int len, .int stp, .int sta, .int pm, .int bm])), (a1, .inl (cI, 16, .inl bw)), (a2, .inl (cI, 120, .inl bars)), (a3, .inl (cI, 40, .inl puts)), (a4, .inl (cI, 40, .inl bap))]) (va_runVN (As := [.ref h0]) (rest := []) ⟨hx, hb, hml, hown, hts⟩ (k_X1_look l dC dI cI cN q0 q1 q2 g t h0 h1 M r_2 (by first | assumption | omega | exact Int32.le_refl _ | decide) _) ⟨va_cnB 1 hts gX6_garden_X1_look_n83 rfl rfl rfl (hN.1 7 _ rfl) (hts (.initialized RX1) (by decide +kernel)) (by decide +kernel) ⟨Nat.le_of_ble_eq_true rfl, Nat.le_of_ble_eq_true rfl⟩, hts (.instanceMethod yX1_look) (by decide +kernel), hts (.selects RX1 yX1_look yX1_look) (by decide +kernel)⟩ (kU_V hP hK hD hN (ci := 1) (q0 := 8) rfl rfl [8, 9, 10, 1, 2] rfl rfl rfl) rfl rfl hl.1 rfl (lv_room (Nat.le_of_ble_eq_true rfl)) dX6_garden_51 ⟨Nat.zero_le _, Nat.zero_le _⟩) hP hD hS hA [8, 9, 10, 1, 2] [0, 3, 4, 5, 6, 7] rfl rfl rfl rfl (by decide) rfl (fun H locs hP hD hS => ?_)
    obtain ⟨r_3, er_3⟩ : ∃ y : Nat → Int32, y = (P_look t M r_2) := ⟨_, rfl⟩
    try rw [← er_3] at hP hD
    have hr := bd_to hr er_3
    have hP : va_P (dC, dI) kCl [(s0, .inr (5, [.ref h0, .ref sc0, .ref kp0, .ref a0, .ref q0, .ref d0, .ref c0, .ref ta0, .int km, .int rf])), (h0, .inr (3, [.ref h1, .int (nI M)])), (h1, .inl (cI, 16, .inl r_2)), (a0, .inr (0, [.ref a1, .ref a2, .ref a3, .ref a4, .int 0, .int cnt, .int len, .int stp, .int sta, .int pm, .int bm])), (a1, .inl (cI, 16, .inl bw)), (a2, .inl (cI, 120, .inl bars)), (a3, .inl (cI, 40, .inl puts)), (a4, .inl (cI, 40, .inl bap)), (q0, .inr (1, [.ref q1, .ref q2])), (q1, .inl (cI, 102, .inl g)), (q2, .inl (cI, 54, .inl r_3))] H := hP.sub [0, 9, 10, 1, 2, 3, 4, 5, 6, 7, 8] rfl
    have hD : va_D A [(s0, .inr (5, [.ref h0, .ref sc0, .ref kp0, .ref a0, .ref q0, .ref d0, .ref c0, .ref ta0, .int km, .int rf])), (h0, .inr (3, [.ref h1, .int (nI M)])), (h1, .inl (cI, 16, .inl r_2)), (a0, .inr (0, [.ref a1, .ref a2, .ref a3, .ref a4, .int 0, .int cnt, .int len, .int stp, .int sta, .int pm, .int bm])), (a1, .inl (cI, 16, .inl bw)), (a2, .inl (cI, 120, .inl bars)), (a3, .inl (cI, 40, .inl puts)), (a4, .inl (cI, 40, .inl bap)), (q0, .inr (1, [.ref q1, .ref q2])), (q1, .inl (cI, 102, .inl g)), (q2, .inl (cI, 54, .inl r_3))] := hD.sub [0, 9, 10, 1, 2, 3, 4, 5, 6, 7, 8] (by decide) rfl
    refine lv_iload_n hx hb dX6_garden_54 rfl (lv_at hl 0 rfl) ?_
    have he := Sum.inl.inj (hr.trans (hρ.trans hok))
    subst he
    exact W.iret (v := nI K) hx hb hr0 (fun t ht hW => kVi_end rfl hP hS ht) hS.2.2 dX6_garden_55
  · have hr := if_to hr c_1
    cases hr.trans (hρ.trans hok)
theorem gfX6_garden_1 : ∀ w ∈ (vx_atS RX6 70 (kCls 1) kNs).filter goodWord, w ∈ wsX6_garden := fun w h => List.mem_cons_of_mem _ (List.mem_append_right _ h)
abbrev rx_X6_garden : Room := { frames := 6, cells := 1, slots := 6, locals := 82 }
set_option maxHeartbeats 4000000 in
set_option maxRecDepth 100000 in
theorem e_X6_garden (l : Launch) (hl9 : l.stackTraces = false) (dC : Nat → ClassId) (dI : Nat → Nat → Nat) (cI cN : ClassId) (s0 : Nat) (sc0 : Nat) (kp0 : Nat) (ta0 : Nat) (km : Int32) (rf : Int32) (d0 : Nat) (c0 : Nat) (h0 : Nat) (h1 : Nat) (K : Nat) (f : Nat → Int32) (a0 : Nat) (a1 : Nat) (a2 : Nat) (a3 : Nat) (a4 : Nat) (isOn : Int32) (cnt : Int32) (len : Int32) (stp : Int32) (sta : Int32) (pm : Int32) (bm : Int32) (bw : Nat → Int32) (bars : Nat → Int32) (puts : Nat → Int32) (bap : Nat → Int32) (q0 : Nat) (q1 : Nat) (q2 : Nat) (g : Nat → Int32) (t : Nat → Int32) (M : Nat) (hK : K ≤ 16) (hM : M < 2 ^ 32) (kx : Nat) (hex : P_garden K f t M = .inr kx) : vx_Met l yX6_garden wsX6_garden rx_X6_garden (va_Pc [.ref s0, .int (nI M)] (kWE dC dI cI cN [(s0, .inr (5, [.ref h0, .ref sc0, .ref kp0, .ref a0, .ref q0, .ref d0, .ref c0, .ref ta0, .int km, .int rf])), (h0, .inr (3, [.ref h1, .int (nI K)])), (h1, .inl (cI, 16, .inl f)), (a0, .inr (0, [.ref a1, .ref a2, .ref a3, .ref a4, .int isOn, .int cnt, .int len, .int stp, .int sta, .int pm, .int bm])), (a1, .inl (cI, 16, .inl bw)), (a2, .inl (cI, 120, .inl bars)), (a3, .inl (cI, 40, .inl puts)), (a4, .inl (cI, 40, .inl bap)), (q0, .inr (1, [.ref q1, .ref q2])), (q1, .inl (cI, 102, .inl g)), (q2, .inl (cI, 54, .inl t))])) kNoi (kX kx) 1 6 (fun _ => False) := by
  refine vx_ofW (cc := cX6_garden) (maxL := 3) (ret := (some .int)) (by decide) rfl ?_
  intro p e s m args below meth c s₁ B hml hxt hv
  obtain ⟨rfl, ⟨hP, hK, hD, hN⟩, hE⟩ := hv
  have hx := B.exec
  have hb := B.bytes
  have hr0 := B.returns
  have hts := atoms_spec (ws := wsX6_garden) B.pre
  have hown : s.vm.findClass RX6 = some m.cls := findClass_of_methodNamed B.named
  have hlocks := B.notSynchronized
  have hS : va_S (fun _ => False) s.heap s.heap [] := va_S.rf
  have hl := lv_entry ([.ref s0, .int (nI M)]) (n := 3) (Nat.le_of_ble_eq_true rfl)
  rw [lg_entry_eq]
  generalize (lg_sl ([.ref s0, .int (nI M)]) ++ List.replicate (3 - (lg_sl ([.ref s0, .int (nI M)])).length) Slot.unset).toArray = ls at hl ⊢
  have hl : lv_has ls 3 [(0, .ref s0), (1, .int (nI M))] := hl
  obtain ⟨ρ, hρ⟩ : ∃ ρ : (Int32 × (Nat → Int32) × (Nat → Int32)) ⊕ Nat, ρ = P_garden K f t M := ⟨_, rfl⟩
  have hr : P_garden K f t M = ρ := hρ.symm
  rewrite [P_garden] at hr
  refine lv_iload_n hx hb dX6_garden_0 rfl (lv_at hl 1 rfl) ?_
  refine lv_iconst (v := 3) hx hb dX6_garden_1 (by decide) ?_
  refine lv_bipush (v := 16) hx hb dX6_garden_2 (by decide) ?_
  refine kCall (va_runS (As := [.int (nI M), .int 3, .int 16]) (rest := []) ⟨hx, hb, hml, hown, hts⟩ (k_X6_isWithin l dC dI cI cN (nI M) 3 16) (va_cwS 3 hts gX6_garden_X6_isWithin rfl rfl rfl (by decide +kernel) ⟨Nat.le_of_ble_eq_true rfl, Nat.le_of_ble_eq_true rfl⟩) (kW_S hP hK hD hN [] rfl rfl rfl) rfl rfl hl.1 rfl (lv_room (Nat.le_of_ble_eq_true rfl)) dX6_garden_4 ⟨Nat.zero_le _, Nat.zero_le _⟩) hP hS (fun H locs hP hS => ?_)
  refine lv_if_ne (tgt := 20) hx hb dX6_garden_7 (by decide) (fun c_1 => ?_) (fun c_1 => ?_)
  · have hr := if_no hr c_1
    have hMr := kWithin (lo := 3) (hi := 16) hM (by omega) (by omega) (by assumption)
    refine lv_aload_n hx hb dX6_garden_20 rfl (lv_at hl 0 rfl) ?_
    refine va_get (D := (dC, dI)) (ci := 5) (v := .ref h0) (C := RX6) (T := TX6) (N := 10) hx hb hts (by decide +kernel) hown hK hP 0 rfl rfl 0 (by decide) (hts (.fieldLink RX6 12 "Shortring" "net" "LShortring$Net;") (by decide +kernel)) (fun _ h9 => h9) rfl dX6_garden_21 ?_
    refine va_getN (D := (dC, dI)) (ci := 3) (v := .int (nI K)) (C := RX3) (T := TX3) (N := 2) hx hb hts (by decide +kernel) hown hK hP 1 rfl rfl 1 (by decide) (va_Nw.use rfl (hN.2 0 _ rfl)) (fun _ h9 => h9) rfl dX6_garden_24 ?_
    refine lv_istore_n (lv' := [(2, .int (nI K)), (0, .ref s0), (1, .int (nI M))]) hx hb dX6_garden_27 rfl hl (by decide) rfl (fun ls hl => ?_)
    refine lv_aload_n hx hb dX6_garden_28 rfl (lv_at hl 1 rfl) ?_
    refine va_get (D := (dC, dI)) (ci := 5) (v := .ref h0) (C := RX6) (T := TX6) (N := 10) hx hb hts (by decide +kernel) hown hK hP 0 rfl rfl 0 (by decide) (hts (.fieldLink RX6 12 "Shortring" "net" "LShortring$Net;") (by decide +kernel)) (fun _ h9 => h9) rfl dX6_garden_29 ?_
    refine lv_iload_n hx hb dX6_garden_32 rfl (lv_at hl 2 rfl) ?_
    exact kNoway (hr.trans (hρ.trans hex)) (by simp only [bd]; (repeat' split) <;> exact ⟨_, rfl⟩)
  · have hr := if_to hr c_1
    exact kThrowS hx hb hl9 hown 1 (ik := 66) (is := 68) (ic := 70) (Sum.inr.inj (hr.trans (hρ.trans hex))) (by decide +kernel) (hts (.classLink RX6 66 "java/lang/IllegalArgumentException") (by decide +kernel)) (hts (.initialized "java/lang/IllegalArgumentException") (by decide +kernel)) 0 rfl (fun w h => hts w (gfX6_garden_1 w h)) kBad1 (kHg kOt1) hE hS (hl.1.trans hml.symm) dX6_garden_10 dX6_garden_13 dX6_garden_14 dX6_garden_16 dX6_garden_19 hxt (Nat.le_of_ble_eq_true rfl) (Nat.le_of_ble_eq_true rfl) (Nat.le_of_ble_eq_true rfl) (Nat.le_of_ble_eq_true rfl) hlocks
def P_ring (f : Nat → Int32) (t : Nat → Int32) (M : Nat) (jumps : Int32) : (Int32 × (Nat → Int32) × (Nat → Int32)) ⊕ Nat :=
  if (P_isWithin (nI M) 3 16) = 0 then
    Sum.inr 1
  else
    bd (((P_bit (((nI M) / (2 : Int32)) + (1 : Int32))) - (1 : Int32)) &&& (-2 : Int32)) (fun allowed_2 =>
      if jumps = 0 then
        Sum.inr 1
      else
        if (jumps &&& (allowed_2 ^^^ (-1 : Int32))) = 0 then
          if (P_countByJumps (nI M) jumps) ≤ (5 : Int32) then
            bd (P_layByJumps f M jumps) (fun r_6 =>
              bd (P_look t M r_6) (fun r_7 =>
                Sum.inl (P_edgesInAll M r_6, r_6, r_7)))
          else
            Sum.inr 1
        else
          Sum.inr 1)
abbrev rm_X6_ring : Room := { frames := 6, cells := 0, slots := 0, locals := 139 }
set_option maxHeartbeats 4000000 in
set_option maxRecDepth 100000 in
theorem k_X6_ring (l : Launch) (dC : Nat → ClassId) (dI : Nat → Nat → Nat) (cI cN : ClassId) (s0 : Nat) (sc0 : Nat) (kp0 : Nat) (ta0 : Nat) (km : Int32) (rf : Int32) (d0 : Nat) (c0 : Nat) (h0 : Nat) (h1 : Nat) (K : Nat) (f : Nat → Int32) (a0 : Nat) (a1 : Nat) (a2 : Nat) (a3 : Nat) (a4 : Nat) (isOn : Int32) (cnt : Int32) (len : Int32) (stp : Int32) (sta : Int32) (pm : Int32) (bm : Int32) (bw : Nat → Int32) (bars : Nat → Int32) (puts : Nat → Int32) (bap : Nat → Int32) (q0 : Nat) (q1 : Nat) (q2 : Nat) (g : Nat → Int32) (t : Nat → Int32) (M : Nat) (jumps : Int32) (hK : K ≤ 16) (hM : M < 2 ^ 32) (sz : Nat) (v : Int32 × (Nat → Int32) × (Nat → Int32)) (hok : P_ring f t M jumps = .inl v) : Met l yX6_ring wsX6_ring rm_X6_ring (va_Pc [.ref s0, .int (nI M), .int jumps] (kU dC dI cI cN [(s0, .inr (5, [.ref h0, .ref sc0, .ref kp0, .ref a0, .ref q0, .ref d0, .ref c0, .ref ta0, .int km, .int rf])), (h0, .inr (3, [.ref h1, .int (nI K)])), (h1, .inl (cI, 16, .inl f)), (a0, .inr (0, [.ref a1, .ref a2, .ref a3, .ref a4, .int isOn, .int cnt, .int len, .int stp, .int sta, .int pm, .int bm])), (a1, .inl (cI, 16, .inl bw)), (a2, .inl (cI, 120, .inl bars)), (a3, .inl (cI, 40, .inl puts)), (a4, .inl (cI, 40, .inl bap)), (q0, .inr (1, [.ref q1, .ref q2])), (q1, .inl (cI, 102, .inl g)), (q2, .inl (cI, 54, .inl t))] sz)) (kVi dC dI v.1 [(s0, .inr (5, [.ref h0, .ref sc0, .ref kp0, .ref a0, .ref q0, .ref d0, .ref c0, .ref ta0, .int km, .int rf])), (h0, .inr (3, [.ref h1, .int (nI M)])), (h1, .inl (cI, 16, .inl (v.2.1))), (a0, .inr (0, [.ref a1, .ref a2, .ref a3, .ref a4, .int 0, .int cnt, .int len, .int stp, .int sta, .int pm, .int bm])), (a1, .inl (cI, 16, .inl bw)), (a2, .inl (cI, 120, .inl bars)), (a3, .inl (cI, 40, .inl puts)), (a4, .inl (cI, 40, .inl bap)), (q0, .inr (1, [.ref q1, .ref q2])), (q1, .inl (cI, 102, .inl g)), (q2, .inl (cI, 54, .inl (v.2.2)))] (va_A [(s0, .inr (5, [.ref h0, .ref sc0, .ref kp0, .ref a0, .ref q0, .ref d0, .ref c0, .ref ta0, .int km, .int rf])), (h0, .inr (3, [.ref h1, .int (nI K)])), (h1, .inl (cI, 16, .inl f)), (a0, .inr (0, [.ref a1, .ref a2, .ref a3, .ref a4, .int isOn, .int cnt, .int len, .int stp, .int sta, .int pm, .int bm])), (a1, .inl (cI, 16, .inl bw)), (a2, .inl (cI, 120, .inl bars)), (a3, .inl (cI, 40, .inl puts)), (a4, .inl (cI, 40, .inl bap)), (q0, .inr (1, [.ref q1, .ref q2])), (q1, .inl (cI, 102, .inl g)), (q2, .inl (cI, 54, .inl t))] sz)) 0 0 (va_A [(s0, .inr (5, [.ref h0, .ref sc0, .ref kp0, .ref a0, .ref q0, .ref d0, .ref c0, .ref ta0, .int km, .int rf])), (h0, .inr (3, [.ref h1, .int (nI K)])), (h1, .inl (cI, 16, .inl f)), (a0, .inr (0, [.ref a1, .ref a2, .ref a3, .ref a4, .int isOn, .int cnt, .int len, .int stp, .int sta, .int pm, .int bm])), (a1, .inl (cI, 16, .inl bw)), (a2, .inl (cI, 120, .inl bars)), (a3, .inl (cI, 40, .inl puts)), (a4, .inl (cI, 40, .inl bap)), (q0, .inr (1, [.ref q1, .ref q2])), (q1, .inl (cI, 102, .inl g)), (q2, .inl (cI, 54, .inl t))] sz) := by
  refine Met.ofW (cc := cX6_ring) (maxL := 4) (ret := (some .int)) (by decide) rfl ?_
  intro p e s m args below meth c s₁ B hml hv
  obtain ⟨rfl, hsz, hP, hK, hD0, hN⟩ := hv
  have hx := B.exec
  have hb := B.bytes
  have hr0 := B.returns
  have hts := atoms_spec (ws := wsX6_ring) B.pre
  have hown : s.vm.findClass RX6 = some m.cls := findClass_of_methodNamed B.named
  have hlocks := B.notSynchronized
  subst hsz
  have hD := hD0.self (sz := s.heap.size)
  generalize hAe : va_A [(s0, .inr (5, [.ref h0, .ref sc0, .ref kp0, .ref a0, .ref q0, .ref d0, .ref c0, .ref ta0, .int km, .int rf])), (h0, .inr (3, [.ref h1, .int (nI K)])), (h1, .inl (cI, 16, .inl f)), (a0, .inr (0, [.ref a1, .ref a2, .ref a3, .ref a4, .int isOn, .int cnt, .int len, .int stp, .int sta, .int pm, .int bm])), (a1, .inl (cI, 16, .inl bw)), (a2, .inl (cI, 120, .inl bars)), (a3, .inl (cI, 40, .inl puts)), (a4, .inl (cI, 40, .inl bap)), (q0, .inr (1, [.ref q1, .ref q2])), (q1, .inl (cI, 102, .inl g)), (q2, .inl (cI, 54, .inl t))] s.heap.size = A at hD ⊢
  have hA : ∀ q : Nat, s.heap.size ≤ q → A q := fun q h => by rw [← hAe]; exact Or.inr h
  have hS : va_S A s.heap s.heap [] := va_S.rf
  have hl := lv_entry ([.ref s0, .int (nI M), .int jumps]) (n := 4) (Nat.le_of_ble_eq_true rfl)
  rw [lg_entry_eq]
  generalize (lg_sl ([.ref s0, .int (nI M), .int jumps]) ++ List.replicate (4 - (lg_sl ([.ref s0, .int (nI M), .int jumps])).length) Slot.unset).toArray = ls at hl ⊢
  have hl : lv_has ls 4 [(0, .ref s0), (1, .int (nI M)), (2, .int jumps)] := hl
  obtain ⟨ρ, hρ⟩ : ∃ ρ : (Int32 × (Nat → Int32) × (Nat → Int32)) ⊕ Nat, ρ = P_ring f t M jumps := ⟨_, rfl⟩
  have hr : P_ring f t M jumps = ρ := hρ.symm
  rewrite [P_ring] at hr
  refine lv_iload_n hx hb dX6_ring_0 rfl (lv_at hl 1 rfl) ?_
  refine lv_iconst (v := 3) hx hb dX6_ring_1 (by decide) ?_
  refine lv_bipush (v := 16) hx hb dX6_ring_2 (by decide) ?_
  refine kCall (va_runS (As := [.int (nI M), .int 3, .int 16]) (rest := []) ⟨hx, hb, hml, hown, hts⟩ (k_X6_isWithin l dC dI cI cN (nI M) 3 16) (va_cwS 3 hts gX6_ring_X6_isWithin rfl rfl rfl (by decide +kernel) ⟨Nat.le_of_ble_eq_true rfl, Nat.le_of_ble_eq_true rfl⟩) (kW_S hP hK hD hN [] rfl rfl rfl) rfl rfl hl.1 rfl (lv_room (Nat.le_of_ble_eq_true rfl)) dX6_ring_4 ⟨Nat.zero_le _, Nat.zero_le _⟩) hP hS (fun H locs hP hS => ?_)
  refine lv_if_ne (tgt := 20) hx hb dX6_ring_7 (by decide) (fun c_1 => ?_) (fun c_1 => ?_)
  · have hr := if_no hr c_1
    have hMr := kWithin (lo := 3) (hi := 16) hM (by omega) (by omega) (by assumption)
    refine lv_iload_n hx hb dX6_ring_20 rfl (lv_at hl 1 rfl) ?_
    refine lv_iconst (v := 2) hx hb dX6_ring_21 (by decide) ?_
    refine lv_idiv hx hb dX6_ring_22 (by decide) ?_
    refine lv_iconst (v := 1) hx hb dX6_ring_23 (by decide) ?_
    refine lv_iadd hx hb dX6_ring_24 ?_
    refine kCall (va_runS (As := [.int (((nI M) / (2 : Int32)) + (1 : Int32))]) (rest := []) ⟨hx, hb, hml, hown, hts⟩ (k_X6_bit l dC dI cI cN (((nI M) / (2 : Int32)) + (1 : Int32))) (va_cwS 1 hts gX6_ring_X6_bit rfl rfl rfl (by decide +kernel) ⟨Nat.le_of_ble_eq_true rfl, Nat.le_of_ble_eq_true rfl⟩) (kW_S hP hK hD hN [] rfl rfl rfl) rfl rfl hl.1 rfl (lv_room (Nat.le_of_ble_eq_true rfl)) dX6_ring_25 ⟨Nat.zero_le _, Nat.zero_le _⟩) hP hS (fun H locs hP hS => ?_)
    refine lv_iconst (v := 1) hx hb dX6_ring_28 (by decide) ?_
    refine lv_isub hx hb dX6_ring_29 ?_
    refine lv_bipush (v := (-2)) hx hb dX6_ring_30 (by decide) ?_
    refine lv_iand hx hb dX6_ring_32 ?_
    refine lv_topi (fun allowed_2 eallowed_2 => ?_)
    have hr := bd_to hr eallowed_2
    refine lv_istore_n (lv' := [(3, .int allowed_2), (0, .ref s0), (1, .int (nI M)), (2, .int jumps)]) hx hb dX6_ring_33 rfl hl (by decide) rfl (fun ls hl => ?_)
    refine lv_iload_n hx hb dX6_ring_34 rfl (lv_at hl 3 rfl) ?_
    refine lv_if_eq (tgt := 46) hx hb dX6_ring_35 (by decide) (fun c_3 => ?_) (fun c_3 => ?_)
    · have hr := if_to hr c_3
      cases hr.trans (hρ.trans hok)
    · have hr := if_no hr c_3
      refine lv_iload_n hx hb dX6_ring_38 rfl (lv_at hl 3 rfl) ?_
      refine lv_iload_n hx hb dX6_ring_39 rfl (lv_at hl 0 rfl) ?_
      refine lv_iconst (v := (-1)) hx hb dX6_ring_40 (by decide) ?_
      refine lv_ixor hx hb dX6_ring_41 ?_
      refine lv_iand hx hb dX6_ring_42 ?_
      refine lv_if_eq (tgt := 56) hx hb dX6_ring_43 (by decide) (fun c_4 => ?_) (fun c_4 => ?_)
      · have hr := if_to hr c_4
        refine lv_iload_n hx hb dX6_ring_56 rfl (lv_at hl 2 rfl) ?_
        refine lv_iload_n hx hb dX6_ring_57 rfl (lv_at hl 3 rfl) ?_
        refine kCall (va_runS (As := [.int (nI M), .int jumps]) (rest := []) ⟨hx, hb, hml, hown, hts⟩ (k_X6_countByJumps l dC dI cI cN (nI M) jumps) (va_cwS 2 hts gX6_ring_X6_countByJumps rfl rfl rfl (by decide +kernel) ⟨Nat.le_of_ble_eq_true rfl, Nat.le_of_ble_eq_true rfl⟩) (kW_S hP hK hD hN [] rfl rfl rfl) rfl rfl hl.1 rfl (lv_room (Nat.le_of_ble_eq_true rfl)) dX6_ring_58 ⟨Nat.zero_le _, Nat.zero_le _⟩) hP hS (fun H locs hP hS => ?_)
        refine lv_iconst (v := 5) hx hb dX6_ring_61 (by decide) ?_
        refine lv_icmp_le (tgt := 75) hx hb dX6_ring_62 (by decide) (fun c_5 => ?_) (fun c_5 => ?_)
        · have hr := if_to hr c_5
          refine lv_aload_n hx hb dX6_ring_75 rfl (lv_at hl 1 rfl) ?_
          refine lv_iload_n hx hb dX6_ring_76 rfl (lv_at hl 2 rfl) ?_
          refine lv_iload_n hx hb dX6_ring_77 rfl (lv_at hl 3 rfl) ?_
          refine kCallV (wr := [(a0, .inr (0, [.ref a1, .ref a2, .ref a3, .ref a4, .int isOn, .int cnt, .int len, .int stp, .int sta, .int pm, .int bm])), (a1, .inl (cI, 16, .inl bw)), (a2, .inl (cI, 120, .inl bars)), (a3, .inl (cI, 40, .inl puts)), (a4, .inl (cI, 40, .inl bap)), (q0, .inr (1, [.ref q1, .ref q2])), (q1, .inl (cI, 102, .inl g)), (q2, .inl (cI, 54, .inl t))]) (va_runV (As := [.int (nI M), .int jumps]) (rest := []) ⟨hx, hb, hml, hown, hts⟩ (k_X6_layByJumps l dC dI cI cN s0 sc0 kp0 ta0 km rf a0 q0 d0 c0 h0 h1 K f M jumps (by first | assumption | omega | exact Int32.le_refl _ | decide) _) (cwV 2 hts gX6_ring_X6_layByJumps rfl rfl rfl (by decide +kernel) ⟨Nat.le_of_ble_eq_true rfl, Nat.le_of_ble_eq_true rfl⟩) (kU_V hP hK hD hN (ci := 5) (q0 := 0) rfl rfl [0, 1, 2] rfl rfl rfl) rfl rfl hl.1 rfl (lv_room (Nat.le_of_ble_eq_true rfl)) dX6_ring_78 ⟨Nat.zero_le _, Nat.zero_le _⟩) hP hD hS hA [0, 1, 2] [3, 4, 5, 6, 7, 8, 9, 10] rfl rfl rfl rfl (by decide) rfl (fun H locs hP hD hS => ?_)
          obtain ⟨r_6, er_6⟩ : ∃ y : Nat → Int32, y = (P_layByJumps f M jumps) := ⟨_, rfl⟩
          try rw [← er_6] at hP hD
          have hr := bd_to hr er_6
          have hP : va_P (dC, dI) kCl [(s0, .inr (5, [.ref h0, .ref sc0, .ref kp0, .ref a0, .ref q0, .ref d0, .ref c0, .ref ta0, .int km, .int rf])), (h0, .inr (3, [.ref h1, .int (nI M)])), (h1, .inl (cI, 16, .inl r_6)), (a0, .inr (0, [.ref a1, .ref a2, .ref a3, .ref a4, .int isOn, .int cnt, .int len, .int stp, .int sta, .int pm, .int bm])), (a1, .inl (cI, 16, .inl bw)), (a2, .inl (cI, 120, .inl bars)), (a3, .inl (cI, 40, .inl puts)), (a4, .inl (cI, 40, .inl bap)), (q0, .inr (1, [.ref q1, .ref q2])), (q1, .inl (cI, 102, .inl g)), (q2, .inl (cI, 54, .inl t))] H := hP.sub [8, 9, 10, 0, 1, 2, 3, 4, 5, 6, 7] rfl
          have hD : va_D A [(s0, .inr (5, [.ref h0, .ref sc0, .ref kp0, .ref a0, .ref q0, .ref d0, .ref c0, .ref ta0, .int km, .int rf])), (h0, .inr (3, [.ref h1, .int (nI M)])), (h1, .inl (cI, 16, .inl r_6)), (a0, .inr (0, [.ref a1, .ref a2, .ref a3, .ref a4, .int isOn, .int cnt, .int len, .int stp, .int sta, .int pm, .int bm])), (a1, .inl (cI, 16, .inl bw)), (a2, .inl (cI, 120, .inl bars)), (a3, .inl (cI, 40, .inl puts)), (a4, .inl (cI, 40, .inl bap)), (q0, .inr (1, [.ref q1, .ref q2])), (q1, .inl (cI, 102, .inl g)), (q2, .inl (cI, 54, .inl t))] := hD.sub [8, 9, 10, 0, 1, 2, 3, 4, 5, 6, 7] (by decide) rfl
          refine lv_aload_n hx hb dX6_ring_81 rfl (lv_at hl 1 rfl) ?_
          refine va_get (D := (dC, dI)) (ci := 5) (v := .ref a0) (C := RX6) (T := TX6) (N := 10) hx hb hts (by decide +kernel) hown hK hP 0 rfl rfl 3 (by decide) (hts (.fieldLink RX6 26 "Shortring" "hunt" "LShortring$Hunt;") (by decide +kernel)) (fun _ h9 => h9) rfl dX6_ring_82 ?_
          refine kCallV (wr := [(s0, .inr (5, [.ref h0, .ref sc0, .ref kp0, .ref a0, .ref q0, .ref d0, .ref c0, .ref ta0, .int km, .int rf])), (h0, .inr (3, [.ref h1, .int (nI M)])), (h1, .inl (cI, 16, .inl r_6)), (q0, .inr (1, [.ref q1, .ref q2])), (q1, .inl (cI, 102, .inl g)), (q2, .inl (cI, 54, .inl t))]) (va_runVN (As := []) (rest := []) ⟨hx, hb, hml, hown, hts⟩ (k_X0_end l dC dI cI cN a0 a1 a2 a3 a4 isOn cnt len stp sta pm bm bw bars puts bap _) ⟨va_cnB 0 hts gX6_ring_X0_end_n80 rfl rfl rfl (hN.1 6 _ rfl) (hts (.initialized RX0) (by decide +kernel)) (by decide +kernel) ⟨Nat.le_of_ble_eq_true rfl, Nat.le_of_ble_eq_true rfl⟩, hts (.instanceMethod yX0_end) (by decide +kernel), hts (.selects RX0 yX0_end yX0_end) (by decide +kernel)⟩ (kU_V hP hK hD hN (ci := 0) (q0 := 3) rfl rfl [3, 4, 5, 6, 7] rfl rfl rfl) rfl rfl hl.1 rfl (lv_room (Nat.le_of_ble_eq_true rfl)) dX6_ring_85 ⟨Nat.zero_le _, Nat.zero_le _⟩) hP hD hS hA [3, 4, 5, 6, 7] [0, 1, 2, 8, 9, 10] rfl rfl rfl rfl (by decide) rfl (fun H locs hP hD hS => ?_)
          have hP : va_P (dC, dI) kCl [(s0, .inr (5, [.ref h0, .ref sc0, .ref kp0, .ref a0, .ref q0, .ref d0, .ref c0, .ref ta0, .int km, .int rf])), (h0, .inr (3, [.ref h1, .int (nI M)])), (h1, .inl (cI, 16, .inl r_6)), (a0, .inr (0, [.ref a1, .ref a2, .ref a3, .ref a4, .int 0, .int cnt, .int len, .int stp, .int sta, .int pm, .int bm])), (a1, .inl (cI, 16, .inl bw)), (a2, .inl (cI, 120, .inl bars)), (a3, .inl (cI, 40, .inl puts)), (a4, .inl (cI, 40, .inl bap)), (q0, .inr (1, [.ref q1, .ref q2])), (q1, .inl (cI, 102, .inl g)), (q2, .inl (cI, 54, .inl t))] H := hP.sub [0, 1, 2, 6, 7, 8, 9, 10, 3, 4, 5] rfl
          have hD : va_D A [(s0, .inr (5, [.ref h0, .ref sc0, .ref kp0, .ref a0, .ref q0, .ref d0, .ref c0, .ref ta0, .int km, .int rf])), (h0, .inr (3, [.ref h1, .int (nI M)])), (h1, .inl (cI, 16, .inl r_6)), (a0, .inr (0, [.ref a1, .ref a2, .ref a3, .ref a4, .int 0, .int cnt, .int len, .int stp, .int sta, .int pm, .int bm])), (a1, .inl (cI, 16, .inl bw)), (a2, .inl (cI, 120, .inl bars)), (a3, .inl (cI, 40, .inl puts)), (a4, .inl (cI, 40, .inl bap)), (q0, .inr (1, [.ref q1, .ref q2])), (q1, .inl (cI, 102, .inl g)), (q2, .inl (cI, 54, .inl t))] := hD.sub [0, 1, 2, 6, 7, 8, 9, 10, 3, 4, 5] (by decide) rfl
          refine lv_aload_n hx hb dX6_ring_88 rfl (lv_at hl 1 rfl) ?_
          refine va_get (D := (dC, dI)) (ci := 5) (v := .ref q0) (C := RX6) (T := TX6) (N := 10) hx hb hts (by decide +kernel) hown hK hP 0 rfl rfl 4 (by decide) (hts (.fieldLink RX6 33 "Shortring" "ledger" "LShortring$Ledger;") (by decide +kernel)) (fun _ h9 => h9) rfl dX6_ring_89 ?_
          refine lv_aload_n hx hb dX6_ring_92 rfl (lv_at hl 1 rfl) ?_
          refine va_get (D := (dC, dI)) (ci := 5) (v := .ref h0) (C := RX6) (T := TX6) (N := 10) hx hb hts (by decide +kernel) hown hK hP 0 rfl rfl 0 (by decide) (hts (.fieldLink RX6 12 "Shortring" "net" "LShortring$Net;") (by decide +kernel)) (fun _ h9 => h9) rfl dX6_ring_93 ?_
          refine kCallV (wr := [(s0, .inr (5, [.ref h0, .ref sc0, .ref kp0, .ref a0, .ref q0, .ref d0, .ref c0, .ref ta0, .int km, .int rf])), (a0, .inr (0, [.ref a1, .ref a2, .ref a3, .ref a4, .int 0, .int cnt, .int len, .int stp, .int sta, .int pm, .int bm])), (a1, .inl (cI, 16, .inl bw)), (a2, .inl (cI, 120, .inl bars)), (a3, .inl (cI, 40, .inl puts)), (a4, .inl (cI, 40, .inl bap))]) (va_runVN (As := [.ref h0]) (rest := []) ⟨hx, hb, hml, hown, hts⟩ (k_X1_look l dC dI cI cN q0 q1 q2 g t h0 h1 M r_6 (by first | assumption | omega | exact Int32.le_refl _ | decide) _) ⟨va_cnB 1 hts gX6_ring_X1_look_n83 rfl rfl rfl (hN.1 7 _ rfl) (hts (.initialized RX1) (by decide +kernel)) (by decide +kernel) ⟨Nat.le_of_ble_eq_true rfl, Nat.le_of_ble_eq_true rfl⟩, hts (.instanceMethod yX1_look) (by decide +kernel), hts (.selects RX1 yX1_look yX1_look) (by decide +kernel)⟩ (kU_V hP hK hD hN (ci := 1) (q0 := 8) rfl rfl [8, 9, 10, 1, 2] rfl rfl rfl) rfl rfl hl.1 rfl (lv_room (Nat.le_of_ble_eq_true rfl)) dX6_ring_96 ⟨Nat.zero_le _, Nat.zero_le _⟩) hP hD hS hA [8, 9, 10, 1, 2] [0, 3, 4, 5, 6, 7] rfl rfl rfl rfl (by decide) rfl (fun H locs hP hD hS => ?_)
          obtain ⟨r_7, er_7⟩ : ∃ y : Nat → Int32, y = (P_look t M r_6) := ⟨_, rfl⟩
          try rw [← er_7] at hP hD
          have hr := bd_to hr er_7
          have hP : va_P (dC, dI) kCl [(s0, .inr (5, [.ref h0, .ref sc0, .ref kp0, .ref a0, .ref q0, .ref d0, .ref c0, .ref ta0, .int km, .int rf])), (h0, .inr (3, [.ref h1, .int (nI M)])), (h1, .inl (cI, 16, .inl r_6)), (a0, .inr (0, [.ref a1, .ref a2, .ref a3, .ref a4, .int 0, .int cnt, .int len, .int stp, .int sta, .int pm, .int bm])), (a1, .inl (cI, 16, .inl bw)), (a2, .inl (cI, 120, .inl bars)), (a3, .inl (cI, 40, .inl puts)), (a4, .inl (cI, 40, .inl bap)), (q0, .inr (1, [.ref q1, .ref q2])), (q1, .inl (cI, 102, .inl g)), (q2, .inl (cI, 54, .inl r_7))] H := hP.sub [0, 9, 10, 1, 2, 3, 4, 5, 6, 7, 8] rfl
          have hD : va_D A [(s0, .inr (5, [.ref h0, .ref sc0, .ref kp0, .ref a0, .ref q0, .ref d0, .ref c0, .ref ta0, .int km, .int rf])), (h0, .inr (3, [.ref h1, .int (nI M)])), (h1, .inl (cI, 16, .inl r_6)), (a0, .inr (0, [.ref a1, .ref a2, .ref a3, .ref a4, .int 0, .int cnt, .int len, .int stp, .int sta, .int pm, .int bm])), (a1, .inl (cI, 16, .inl bw)), (a2, .inl (cI, 120, .inl bars)), (a3, .inl (cI, 40, .inl puts)), (a4, .inl (cI, 40, .inl bap)), (q0, .inr (1, [.ref q1, .ref q2])), (q1, .inl (cI, 102, .inl g)), (q2, .inl (cI, 54, .inl r_7))] := hD.sub [0, 9, 10, 1, 2, 3, 4, 5, 6, 7, 8] (by decide) rfl
          refine lv_aload_n hx hb dX6_ring_99 rfl (lv_at hl 1 rfl) ?_
          refine va_get (D := (dC, dI)) (ci := 5) (v := .ref h0) (C := RX6) (T := TX6) (N := 10) hx hb hts (by decide +kernel) hown hK hP 0 rfl rfl 0 (by decide) (hts (.fieldLink RX6 12 "Shortring" "net" "LShortring$Net;") (by decide +kernel)) (fun _ h9 => h9) rfl dX6_ring_100 ?_
          refine kCall (va_runVN (As := []) (rest := []) ⟨hx, hb, hml, hown, hts⟩ (k_X3_edgesInAll l dC dI cI cN h0 h1 M r_6 (by first | assumption | omega | exact Int32.le_refl _ | decide)) ⟨va_cnB 0 hts gX6_ring_X3_edgesInAll_n130 rfl rfl rfl (hN.1 13 _ rfl) (hts (.initialized RX3) (by decide +kernel)) (by decide +kernel) ⟨Nat.le_of_ble_eq_true rfl, Nat.le_of_ble_eq_true rfl⟩, hts (.instanceMethod yX3_edgesInAll) (by decide +kernel), hts (.selects RX3 yX3_edgesInAll yX3_edgesInAll) (by decide +kernel)⟩ (kW_V hP hK hD hN (ci := 3) (q0 := 1) rfl rfl [1, 2] rfl rfl rfl) rfl rfl hl.1 rfl (lv_room (Nat.le_of_ble_eq_true rfl)) dX6_ring_103 ⟨Nat.zero_le _, Nat.zero_le _⟩) hP hS (fun H locs hP hS => ?_)
          have he := Sum.inl.inj (hr.trans (hρ.trans hok))
          subst he
          exact W.iret (v := P_edgesInAll M r_6) hx hb hr0 (fun t ht hW => kVi_end rfl hP hS ht) hS.2.2 dX6_ring_106
        · have hr := if_no hr c_5
          cases hr.trans (hρ.trans hok)
      · have hr := if_no hr c_4
        cases hr.trans (hρ.trans hok)
  · have hr := if_to hr c_1
    cases hr.trans (hρ.trans hok)
theorem gfX6_ring_1 : ∀ w ∈ (vx_atS RX6 70 (kCls 1) kNs).filter goodWord, w ∈ wsX6_ring := fun w h => List.mem_cons_of_mem _ (List.mem_append_right _ h)
abbrev rx_X6_ring : Room := { frames := 6, cells := 1, slots := 6, locals := 82 }
set_option maxHeartbeats 4000000 in
set_option maxRecDepth 100000 in
theorem e_X6_ring (l : Launch) (hl9 : l.stackTraces = false) (dC : Nat → ClassId) (dI : Nat → Nat → Nat) (cI cN : ClassId) (s0 : Nat) (sc0 : Nat) (kp0 : Nat) (ta0 : Nat) (km : Int32) (rf : Int32) (d0 : Nat) (c0 : Nat) (h0 : Nat) (h1 : Nat) (K : Nat) (f : Nat → Int32) (a0 : Nat) (a1 : Nat) (a2 : Nat) (a3 : Nat) (a4 : Nat) (isOn : Int32) (cnt : Int32) (len : Int32) (stp : Int32) (sta : Int32) (pm : Int32) (bm : Int32) (bw : Nat → Int32) (bars : Nat → Int32) (puts : Nat → Int32) (bap : Nat → Int32) (q0 : Nat) (q1 : Nat) (q2 : Nat) (g : Nat → Int32) (t : Nat → Int32) (M : Nat) (jumps : Int32) (hK : K ≤ 16) (hM : M < 2 ^ 32) (kx : Nat) (hex : P_ring f t M jumps = .inr kx) : vx_Met l yX6_ring wsX6_ring rx_X6_ring (va_Pc [.ref s0, .int (nI M), .int jumps] (kWE dC dI cI cN [(s0, .inr (5, [.ref h0, .ref sc0, .ref kp0, .ref a0, .ref q0, .ref d0, .ref c0, .ref ta0, .int km, .int rf])), (h0, .inr (3, [.ref h1, .int (nI K)])), (h1, .inl (cI, 16, .inl f)), (a0, .inr (0, [.ref a1, .ref a2, .ref a3, .ref a4, .int isOn, .int cnt, .int len, .int stp, .int sta, .int pm, .int bm])), (a1, .inl (cI, 16, .inl bw)), (a2, .inl (cI, 120, .inl bars)), (a3, .inl (cI, 40, .inl puts)), (a4, .inl (cI, 40, .inl bap)), (q0, .inr (1, [.ref q1, .ref q2])), (q1, .inl (cI, 102, .inl g)), (q2, .inl (cI, 54, .inl t))])) kNoi (kX kx) 1 6 (fun _ => False) := by
  refine vx_ofW (cc := cX6_ring) (maxL := 4) (ret := (some .int)) (by decide) rfl ?_
  intro p e s m args below meth c s₁ B hml hxt hv
  obtain ⟨rfl, ⟨hP, hK, hD, hN⟩, hE⟩ := hv
  have hx := B.exec
  have hb := B.bytes
  have hr0 := B.returns
  have hts := atoms_spec (ws := wsX6_ring) B.pre
  have hown : s.vm.findClass RX6 = some m.cls := findClass_of_methodNamed B.named
  have hlocks := B.notSynchronized
  have hS : va_S (fun _ => False) s.heap s.heap [] := va_S.rf
  have hl := lv_entry ([.ref s0, .int (nI M), .int jumps]) (n := 4) (Nat.le_of_ble_eq_true rfl)
  rw [lg_entry_eq]
  generalize (lg_sl ([.ref s0, .int (nI M), .int jumps]) ++ List.replicate (4 - (lg_sl ([.ref s0, .int (nI M), .int jumps])).length) Slot.unset).toArray = ls at hl ⊢
  have hl : lv_has ls 4 [(0, .ref s0), (1, .int (nI M)), (2, .int jumps)] := hl
  obtain ⟨ρ, hρ⟩ : ∃ ρ : (Int32 × (Nat → Int32) × (Nat → Int32)) ⊕ Nat, ρ = P_ring f t M jumps := ⟨_, rfl⟩
  have hr : P_ring f t M jumps = ρ := hρ.symm
  rewrite [P_ring] at hr
  refine lv_iload_n hx hb dX6_ring_0 rfl (lv_at hl 1 rfl) ?_
  refine lv_iconst (v := 3) hx hb dX6_ring_1 (by decide) ?_
  refine lv_bipush (v := 16) hx hb dX6_ring_2 (by decide) ?_
  refine kCall (va_runS (As := [.int (nI M), .int 3, .int 16]) (rest := []) ⟨hx, hb, hml, hown, hts⟩ (k_X6_isWithin l dC dI cI cN (nI M) 3 16) (va_cwS 3 hts gX6_ring_X6_isWithin rfl rfl rfl (by decide +kernel) ⟨Nat.le_of_ble_eq_true rfl, Nat.le_of_ble_eq_true rfl⟩) (kW_S hP hK hD hN [] rfl rfl rfl) rfl rfl hl.1 rfl (lv_room (Nat.le_of_ble_eq_true rfl)) dX6_ring_4 ⟨Nat.zero_le _, Nat.zero_le _⟩) hP hS (fun H locs hP hS => ?_)
  refine lv_if_ne (tgt := 20) hx hb dX6_ring_7 (by decide) (fun c_1 => ?_) (fun c_1 => ?_)
  · have hr := if_no hr c_1
    have hMr := kWithin (lo := 3) (hi := 16) hM (by omega) (by omega) (by assumption)
    refine lv_iload_n hx hb dX6_ring_20 rfl (lv_at hl 1 rfl) ?_
    refine lv_iconst (v := 2) hx hb dX6_ring_21 (by decide) ?_
    refine lv_idiv hx hb dX6_ring_22 (by decide) ?_
    refine lv_iconst (v := 1) hx hb dX6_ring_23 (by decide) ?_
    refine lv_iadd hx hb dX6_ring_24 ?_
    refine kCall (va_runS (As := [.int (((nI M) / (2 : Int32)) + (1 : Int32))]) (rest := []) ⟨hx, hb, hml, hown, hts⟩ (k_X6_bit l dC dI cI cN (((nI M) / (2 : Int32)) + (1 : Int32))) (va_cwS 1 hts gX6_ring_X6_bit rfl rfl rfl (by decide +kernel) ⟨Nat.le_of_ble_eq_true rfl, Nat.le_of_ble_eq_true rfl⟩) (kW_S hP hK hD hN [] rfl rfl rfl) rfl rfl hl.1 rfl (lv_room (Nat.le_of_ble_eq_true rfl)) dX6_ring_25 ⟨Nat.zero_le _, Nat.zero_le _⟩) hP hS (fun H locs hP hS => ?_)
    refine lv_iconst (v := 1) hx hb dX6_ring_28 (by decide) ?_
    refine lv_isub hx hb dX6_ring_29 ?_
    refine lv_bipush (v := (-2)) hx hb dX6_ring_30 (by decide) ?_
    refine lv_iand hx hb dX6_ring_32 ?_
    refine lv_topi (fun allowed_2 eallowed_2 => ?_)
    have hr := bd_to hr eallowed_2
    refine lv_istore_n (lv' := [(3, .int allowed_2), (0, .ref s0), (1, .int (nI M)), (2, .int jumps)]) hx hb dX6_ring_33 rfl hl (by decide) rfl (fun ls hl => ?_)
    refine lv_iload_n hx hb dX6_ring_34 rfl (lv_at hl 3 rfl) ?_
    refine lv_if_eq (tgt := 46) hx hb dX6_ring_35 (by decide) (fun c_3 => ?_) (fun c_3 => ?_)
    · have hr := if_to hr c_3
      exact kThrowS hx hb hl9 hown 1 (ik := 66) (is := 121) (ic := 70) (Sum.inr.inj (hr.trans (hρ.trans hex))) (by decide +kernel) (hts (.classLink RX6 66 "java/lang/IllegalArgumentException") (by decide +kernel)) (hts (.initialized "java/lang/IllegalArgumentException") (by decide +kernel)) 4 rfl (fun w h => hts w (gfX6_ring_1 w h)) kBad1 (kHg kOt1) hE hS (hl.1.trans hml.symm) dX6_ring_46 dX6_ring_49 dX6_ring_50 dX6_ring_52 dX6_ring_55 hxt (Nat.le_of_ble_eq_true rfl) (Nat.le_of_ble_eq_true rfl) (Nat.le_of_ble_eq_true rfl) (Nat.le_of_ble_eq_true rfl) hlocks
    · have hr := if_no hr c_3
      refine lv_iload_n hx hb dX6_ring_38 rfl (lv_at hl 3 rfl) ?_
      refine lv_iload_n hx hb dX6_ring_39 rfl (lv_at hl 0 rfl) ?_
      refine lv_iconst (v := (-1)) hx hb dX6_ring_40 (by decide) ?_
      refine lv_ixor hx hb dX6_ring_41 ?_
      refine lv_iand hx hb dX6_ring_42 ?_
      refine lv_if_eq (tgt := 56) hx hb dX6_ring_43 (by decide) (fun c_4 => ?_) (fun c_4 => ?_)
      · have hr := if_to hr c_4
        refine lv_iload_n hx hb dX6_ring_56 rfl (lv_at hl 2 rfl) ?_
        refine lv_iload_n hx hb dX6_ring_57 rfl (lv_at hl 3 rfl) ?_
        refine kCall (va_runS (As := [.int (nI M), .int jumps]) (rest := []) ⟨hx, hb, hml, hown, hts⟩ (k_X6_countByJumps l dC dI cI cN (nI M) jumps) (va_cwS 2 hts gX6_ring_X6_countByJumps rfl rfl rfl (by decide +kernel) ⟨Nat.le_of_ble_eq_true rfl, Nat.le_of_ble_eq_true rfl⟩) (kW_S hP hK hD hN [] rfl rfl rfl) rfl rfl hl.1 rfl (lv_room (Nat.le_of_ble_eq_true rfl)) dX6_ring_58 ⟨Nat.zero_le _, Nat.zero_le _⟩) hP hS (fun H locs hP hS => ?_)
        refine lv_iconst (v := 5) hx hb dX6_ring_61 (by decide) ?_
        refine lv_icmp_le (tgt := 75) hx hb dX6_ring_62 (by decide) (fun c_5 => ?_) (fun c_5 => ?_)
        · have hr := if_to hr c_5
          refine lv_aload_n hx hb dX6_ring_75 rfl (lv_at hl 1 rfl) ?_
          refine lv_iload_n hx hb dX6_ring_76 rfl (lv_at hl 2 rfl) ?_
          refine lv_iload_n hx hb dX6_ring_77 rfl (lv_at hl 3 rfl) ?_
          exact kNoway (hr.trans (hρ.trans hex)) (by simp only [bd]; (repeat' split) <;> exact ⟨_, rfl⟩)
        · have hr := if_no hr c_5
          exact kThrowS hx hb hl9 hown 1 (ik := 66) (is := 108) (ic := 70) (Sum.inr.inj (hr.trans (hρ.trans hex))) (by decide +kernel) (hts (.classLink RX6 66 "java/lang/IllegalArgumentException") (by decide +kernel)) (hts (.initialized "java/lang/IllegalArgumentException") (by decide +kernel)) 3 rfl (fun w h => hts w (gfX6_ring_1 w h)) kBad1 (kHg kOt1) hE hS (hl.1.trans hml.symm) dX6_ring_65 dX6_ring_68 dX6_ring_69 dX6_ring_71 dX6_ring_74 hxt (Nat.le_of_ble_eq_true rfl) (Nat.le_of_ble_eq_true rfl) (Nat.le_of_ble_eq_true rfl) (Nat.le_of_ble_eq_true rfl) hlocks
      · have hr := if_no hr c_4
        exact kThrowS hx hb hl9 hown 1 (ik := 66) (is := 121) (ic := 70) (Sum.inr.inj (hr.trans (hρ.trans hex))) (by decide +kernel) (hts (.classLink RX6 66 "java/lang/IllegalArgumentException") (by decide +kernel)) (hts (.initialized "java/lang/IllegalArgumentException") (by decide +kernel)) 4 rfl (fun w h => hts w (gfX6_ring_1 w h)) kBad1 (kHg kOt1) hE hS (hl.1.trans hml.symm) dX6_ring_46 dX6_ring_49 dX6_ring_50 dX6_ring_52 dX6_ring_55 hxt (Nat.le_of_ble_eq_true rfl) (Nat.le_of_ble_eq_true rfl) (Nat.le_of_ble_eq_true rfl) (Nat.le_of_ble_eq_true rfl) hlocks
  · have hr := if_to hr c_1
    exact kThrowS hx hb hl9 hown 1 (ik := 66) (is := 68) (ic := 70) (Sum.inr.inj (hr.trans (hρ.trans hex))) (by decide +kernel) (hts (.classLink RX6 66 "java/lang/IllegalArgumentException") (by decide +kernel)) (hts (.initialized "java/lang/IllegalArgumentException") (by decide +kernel)) 0 rfl (fun w h => hts w (gfX6_ring_1 w h)) kBad1 (kHg kOt1) hE hS (hl.1.trans hml.symm) dX6_ring_10 dX6_ring_13 dX6_ring_14 dX6_ring_16 dX6_ring_19 hxt (Nat.le_of_ble_eq_true rfl) (Nat.le_of_ble_eq_true rfl) (Nat.le_of_ble_eq_true rfl) (Nat.le_of_ble_eq_true rfl) hlocks
