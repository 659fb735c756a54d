/-! kept nets (printed by wip/gen) -/
def P_keptAt (km : Int32) (kf : Nat → Option Nat) (number : Int32) : Option Nat :=
  if number < 0 then
    none
  else
    if km ≤ number then
      none
    else
      if number < (5 : Int32) then
        kf (number).toNatClampNeg
      else
        none
abbrev rm_X6_keptAt : Room := { frames := 0, cells := 0, slots := 0, locals := 0 }
set_option maxHeartbeats 4000000 in
set_option maxRecDepth 100000 in
theorem k_X6_keptAt (l : Launch) (dC : Nat → ClassId) (dI : Nat → Nat → Nat) (cI cN : ClassId) (h0 : Nat) (s0 : Nat) (sc0 : Nat) (kp0 : Nat) (ta0 : Nat) (km : Int32) (rf : Int32) (a0 : Nat) (q0 : Nat) (d0 : Nat) (c0 : Nat) (kf : Nat → Option Nat) (number : Int32) : Met l yX6_keptAt wsX6_keptAt rm_X6_keptAt (va_Pc [.ref s0, .int number] (kW dC dI cI cN [(s0, .inr (5, [.ref h0, .ref sc0, .ref kp0, .ref a0, .ref q0, .ref d0, .ref c0, .ref ta0, .int km, .int rf])), (kp0, .inl (cN, 5, .inr (.inr (.inr (.inr kf)))))])) (kRq (P_keptAt km kf number)) 0 0 (fun _ => False) := by
  refine Met.ofW (cc := cX6_keptAt) (maxL := 2) (ret := (some (.object "Shortring$Net"))) (by decide) rfl ?_
  intro p e s m args below meth c s₁ B hml hv
  obtain ⟨rfl, hP, hK, hD, hN⟩ := hv
  have hx := B.exec
  have hb := B.bytes
  have hr0 := B.returns
  have hts := atoms_spec (ws := wsX6_keptAt) B.pre
  have hown : s.vm.findClass RX6 = some m.cls := findClass_of_methodNamed B.named
  have hlocks := B.notSynchronized
  have hS : va_S (fun _ => False) s.heap s.heap [] := va_S.rf
  have hl := lv_entry ([.ref s0, .int number]) (n := 2) (Nat.le_of_ble_eq_true rfl)
  rw [lg_entry_eq]
  generalize (lg_sl ([.ref s0, .int number]) ++ List.replicate (2 - (lg_sl ([.ref s0, .int number])).length) Slot.unset).toArray = ls at hl ⊢
  have hl : lv_has ls 2 [(0, .ref s0), (1, .int number)] := hl
  obtain ⟨ρ, hρ⟩ : ∃ ρ : Option Nat, ρ = P_keptAt km kf number := ⟨_, rfl⟩
  have hr : P_keptAt km kf number = ρ := hρ.symm
  rewrite [P_keptAt] at hr
  refine lv_iload_n hx hb dX6_keptAt_0 rfl (lv_at hl 1 rfl) ?_
  refine lv_if_lt (tgt := 21) hx hb dX6_keptAt_1 (by decide) (fun c_1 => ?_) (fun c_1 => ?_)
  · have hr := if_to hr c_1
    refine lv_null hx hb dX6_keptAt_21 ?_
    have he := hr.trans hρ
    exact W.aret (v := va_rf (none)) hx hb hr0 (Or.inl ⟨_, rfl⟩) (va_rf_or _) (fun t ht hW => kRq_end he hS ht) hS.2.2 dX6_keptAt_22
  · have hr := if_no hr c_1
    refine lv_iload_n hx hb dX6_keptAt_4 rfl (lv_at hl 1 rfl) ?_
    refine lv_aload_n hx hb dX6_keptAt_5 rfl (lv_at hl 0 rfl) ?_
    refine va_get (D := (dC, dI)) (ci := 5) (v := .int km) (C := RX6) (T := TX6) (N := 10) hx hb hts (by decide +kernel) hown hK hP 0 rfl rfl 8 (by decide) (hts (.fieldLink RX6 55 "Shortring" "keptMany" "I") (by decide +kernel)) (fun _ h9 => h9) rfl dX6_keptAt_6 ?_
    refine lv_icmp_ge (tgt := 21) hx hb dX6_keptAt_9 (by decide) (fun c_2 => ?_) (fun c_2 => ?_)
    · have hr := if_to hr c_2
      refine lv_null hx hb dX6_keptAt_21 ?_
      have he := hr.trans hρ
      exact W.aret (v := va_rf (none)) hx hb hr0 (Or.inl ⟨_, rfl⟩) (va_rf_or _) (fun t ht hW => kRq_end he hS ht) hS.2.2 dX6_keptAt_22
    · have hr := if_no hr c_2
      refine lv_iload_n hx hb dX6_keptAt_12 rfl (lv_at hl 1 rfl) ?_
      refine lv_aload_n hx hb dX6_keptAt_13 rfl (lv_at hl 0 rfl) ?_
      refine va_get (D := (dC, dI)) (ci := 5) (v := .ref kp0) (C := RX6) (T := TX6) (N := 10) hx hb hts (by decide +kernel) hown hK hP 0 rfl rfl 2 (by decide) (hts (.fieldLink RX6 19 "Shortring" "kept" "[LShortring$Net;") (by decide +kernel)) (fun _ h9 => h9) rfl dX6_keptAt_14 ?_
      refine va_alen (v := 5) hx hb hK hP 1 1 rfl rfl rfl dX6_keptAt_17 ?_
      refine lv_icmp_lt (tgt := 23) hx hb dX6_keptAt_18 (by decide) (fun c_3 => ?_) (fun c_3 => ?_)
      · have hr := if_to hr c_3
        refine lv_aload_n hx hb dX6_keptAt_23 rfl (lv_at hl 0 rfl) ?_
        refine va_get (D := (dC, dI)) (ci := 5) (v := .ref kp0) (C := RX6) (T := TX6) (N := 10) hx hb hts (by decide +kernel) hown hK hP 0 rfl rfl 2 (by decide) (hts (.fieldLink RX6 19 "Shortring" "kept" "[LShortring$Net;") (by decide +kernel)) (fun _ h9 => h9) rfl dX6_keptAt_24 ?_
        refine lv_iload_n hx hb dX6_keptAt_27 rfl (lv_at hl 1 rfl) ?_
        refine va_aldq hx hb hK hP 1 1 rfl rfl (kIn2 (N := 5) (by decide) (kNlt (by assumption)) (by assumption)) dX6_keptAt_28 ?_
        have he := hr.trans hρ
        exact W.aret (v := va_rf (kf (number).toNatClampNeg)) hx hb hr0 (Or.inl ⟨_, rfl⟩) (va_rf_or _) (fun t ht hW => kRq_end he hS ht) hS.2.2 dX6_keptAt_29
      · have hr := if_no hr c_3
        refine lv_null hx hb dX6_keptAt_21 ?_
        have he := hr.trans hρ
        exact W.aret (v := va_rf (none)) hx hb hr0 (Or.inl ⟨_, rfl⟩) (va_rf_or _) (fun t ht hW => kRq_end he hS ht) hS.2.2 dX6_keptAt_22
theorem kKept {m j : Nat} {kf : Nat → Option Nat} {o : Nat} (hj : j < m) (hm : m ≤ 5) (h : kf j = some o) : P_keptAt (nI m) kf (nI j) = some o := by
  unfold P_keptAt
  rw [if_neg (nI_pos (by omega)), if_neg (nI_ge hj (by omega)), if_pos (show nI j < (5 : Int32) from nI_lt (a := j) (b := 5) (by omega) (by omega)), nI_clamp (by omega)]
  exact h
def P_isAlike (KF : Nat) (ff : Nat → Int32) (KT : Nat) (tf : Nat → Int32) (im : Nat → Int32) (pl : Int32) (K : Nat) (f : Nat → Int32) (J : Nat) (g : Nat → Int32) : Int32 × Nat × (Nat → Int32) × Nat × (Nat → Int32) × (Nat → Int32) × Int32 :=
  bd (P_areAlike KF ff KT tf im pl K f J g) (fun r_1 =>
    (r_1.1, r_1.2.1, r_1.2.2.1, r_1.2.2.2.1, r_1.2.2.2.2.1, r_1.2.2.2.2.2.1, r_1.2.2.2.2.2.2))
abbrev rm_X6_isAlike : Room := { frames := 22, cells := 0, slots := 0, locals := 599 }
set_option maxHeartbeats 4000000 in
set_option maxRecDepth 100000 in
theorem k_X6_isAlike (l : Launch) (dC : Nat → ClassId) (dI : Nat → Nat → Nat) (cI cN : ClassId) (s0 : Nat) (sc0 : Nat) (kp0 : Nat) (ta0 : Nat) (km : Int32) (rf : Int32) (a0 : Nat) (q0 : Nat) (c0 : Nat) (h0 : Nat) (h1 : Nat) (K : Nat) (f : Nat → Int32) (d0 : Nat) (f0 : Nat) (f1 : Nat) (t0 : Nat) (t1 : Nat) (d1 : Nat) (KF : Nat) (ff : Nat → Int32) (KT : Nat) (tf : Nat → Int32) (im : Nat → Int32) (pl : Int32) (kf : Nat → Option Nat) (o0 : Nat) (o1 : Nat) (J : Nat) (g : Nat → Int32) (number : Int32) (hK : K ≤ 16) (hJ : J ≤ 16) (hkg : P_keptAt km kf number = some o0) (sz : Nat) : Met l yX6_isAlike wsX6_isAlike rm_X6_isAlike (va_Pc [.ref s0, .int number] (kU dC dI cI cN [(s0, .inr (5, [.ref h0, .ref sc0, .ref kp0, .ref a0, .ref q0, .ref d0, .ref c0, .ref ta0, .int km, .int rf])), (h0, .inr (3, [.ref h1, .int (nI K)])), (h1, .inl (cI, 16, .inl f)), (d0, .inr (2, [.ref f0, .ref t0, .ref d1, .int pl])), (f0, .inr (3, [.ref f1, .int (nI KF)])), (f1, .inl (cI, 16, .inl ff)), (t0, .inr (3, [.ref t1, .int (nI KT)])), (t1, .inl (cI, 16, .inl tf)), (d1, .inl (cI, 16, .inl im)), (kp0, .inl (cN, 5, .inr (.inr (.inr (.inr kf))))), (o0, .inr (3, [.ref o1, .int (nI J)])), (o1, .inl (cI, 16, .inl g))] sz)) (kVi dC dI (P_isAlike KF ff KT tf im pl K f J g).1 [(s0, .inr (5, [.ref h0, .ref sc0, .ref kp0, .ref a0, .ref q0, .ref d0, .ref c0, .ref ta0, .int km, .int rf])), (h0, .inr (3, [.ref h1, .int (nI K)])), (h1, .inl (cI, 16, .inl f)), (d0, .inr (2, [.ref f0, .ref t0, .ref d1, .int ((P_isAlike KF ff KT tf im pl K f J g).2.2.2.2.2.2)])), (f0, .inr (3, [.ref f1, .int (nI ((P_isAlike KF ff KT tf im pl K f J g).2.1))])), (f1, .inl (cI, 16, .inl ((P_isAlike KF ff KT tf im pl K f J g).2.2.1))), (t0, .inr (3, [.ref t1, .int (nI ((P_isAlike KF ff KT tf im pl K f J g).2.2.2.1))])), (t1, .inl (cI, 16, .inl ((P_isAlike KF ff KT tf im pl K f J g).2.2.2.2.1))), (d1, .inl (cI, 16, .inl ((P_isAlike KF ff KT tf im pl K f J g).2.2.2.2.2.1))), (kp0, .inl (cN, 5, .inr (.inr (.inr (.inr kf))))), (o0, .inr (3, [.ref o1, .int (nI J)])), (o1, .inl (cI, 16, .inl g))] (va_A [(s0, .inr (5, [.ref h0, .ref sc0, .ref kp0, .ref a0, .ref q0, .ref d0, .ref c0, .ref ta0, .int km, .int rf])), (h0, .inr (3, [.ref h1, .int (nI K)])), (h1, .inl (cI, 16, .inl f)), (d0, .inr (2, [.ref f0, .ref t0, .ref d1, .int pl])), (f0, .inr (3, [.ref f1, .int (nI KF)])), (f1, .inl (cI, 16, .inl ff)), (t0, .inr (3, [.ref t1, .int (nI KT)])), (t1, .inl (cI, 16, .inl tf)), (d1, .inl (cI, 16, .inl im)), (kp0, .inl (cN, 5, .inr (.inr (.inr (.inr kf))))), (o0, .inr (3, [.ref o1, .int (nI J)])), (o1, .inl (cI, 16, .inl g))] sz)) 0 0 (va_A [(s0, .inr (5, [.ref h0, .ref sc0, .ref kp0, .ref a0, .ref q0, .ref d0, .ref c0, .ref ta0, .int km, .int rf])), (h0, .inr (3, [.ref h1, .int (nI K)])), (h1, .inl (cI, 16, .inl f)), (d0, .inr (2, [.ref f0, .ref t0, .ref d1, .int pl])), (f0, .inr (3, [.ref f1, .int (nI KF)])), (f1, .inl (cI, 16, .inl ff)), (t0, .inr (3, [.ref t1, .int (nI KT)])), (t1, .inl (cI, 16, .inl tf)), (d1, .inl (cI, 16, .inl im)), (kp0, .inl (cN, 5, .inr (.inr (.inr (.inr kf))))), (o0, .inr (3, [.ref o1, .int (nI J)])), (o1, .inl (cI, 16, .inl g))] sz) := by
  refine Met.ofW (cc := cX6_isAlike) (maxL := 3) (ret := (some .boolean)) (by decide) rfl ?_
  intro p e s m args below meth c s₁ B hml hv
  obtain ⟨rfl, hsz, hP, hK, hD0, hN⟩ := hv
  have hx := B.exec
  have hb := B.bytes
  have hr0 := B.returns
  have hts := atoms_spec (ws := wsX6_isAlike) B.pre
  have hown : s.vm.findClass RX6 = some m.cls := findClass_of_methodNamed B.named
  have hlocks := B.notSynchronized
  subst hsz
  have hD := hD0.self (sz := s.heap.size)
  generalize hAe : va_A [(s0, .inr (5, [.ref h0, .ref sc0, .ref kp0, .ref a0, .ref q0, .ref d0, .ref c0, .ref ta0, .int km, .int rf])), (h0, .inr (3, [.ref h1, .int (nI K)])), (h1, .inl (cI, 16, .inl f)), (d0, .inr (2, [.ref f0, .ref t0, .ref d1, .int pl])), (f0, .inr (3, [.ref f1, .int (nI KF)])), (f1, .inl (cI, 16, .inl ff)), (t0, .inr (3, [.ref t1, .int (nI KT)])), (t1, .inl (cI, 16, .inl tf)), (d1, .inl (cI, 16, .inl im)), (kp0, .inl (cN, 5, .inr (.inr (.inr (.inr kf))))), (o0, .inr (3, [.ref o1, .int (nI J)])), (o1, .inl (cI, 16, .inl g))] s.heap.size = A at hD ⊢
  have hA : ∀ q : Nat, s.heap.size ≤ q → A q := fun q h => by rw [← hAe]; exact Or.inr h
  have hS : va_S A s.heap s.heap [] := va_S.rf
  have hl := lv_entry ([.ref s0, .int number]) (n := 3) (Nat.le_of_ble_eq_true rfl)
  rw [lg_entry_eq]
  generalize (lg_sl ([.ref s0, .int number]) ++ List.replicate (3 - (lg_sl ([.ref s0, .int number])).length) Slot.unset).toArray = ls at hl ⊢
  have hl : lv_has ls 3 [(0, .ref s0), (1, .int number)] := hl
  obtain ⟨ρ, hρ⟩ : ∃ ρ : Int32 × Nat × (Nat → Int32) × Nat × (Nat → Int32) × (Nat → Int32) × Int32, ρ = P_isAlike KF ff KT tf im pl K f J g := ⟨_, rfl⟩
  have hr : P_isAlike KF ff KT tf im pl K f J g = ρ := hρ.symm
  rewrite [P_isAlike] at hr
  refine lv_aload_n hx hb dX6_isAlike_0 rfl (lv_at hl 0 rfl) ?_
  refine lv_iload_n hx hb dX6_isAlike_1 rfl (lv_at hl 1 rfl) ?_
  refine kCallq (va_runV (As := [.int number]) (rest := []) ⟨hx, hb, hml, hown, hts⟩ (k_X6_keptAt l dC dI cI cN h0 s0 sc0 kp0 ta0 km rf a0 q0 d0 c0 kf number) (cwV 1 hts gX6_isAlike_X6_keptAt rfl rfl rfl (by decide +kernel) ⟨Nat.le_of_ble_eq_true rfl, Nat.le_of_ble_eq_true rfl⟩) (kW_V hP hK hD hN (ci := 5) (q0 := 0) rfl rfl [0, 9] rfl rfl rfl) rfl rfl hl.1 rfl (lv_room (Nat.le_of_ble_eq_true rfl)) dX6_isAlike_2 ⟨Nat.zero_le _, Nat.zero_le _⟩) hP hS (fun H locs hP hS => ?_)
  refine kRenV (y := .ref o0) (by rw [hkg]; first | done | rfl) ?_
  refine lv_astore_n (lv' := [(2, .ref o0), (0, .ref s0), (1, .int number)]) hx hb dX6_isAlike_5 rfl hl (by decide) rfl (fun ls hl => ?_)
  refine lv_aload_n hx hb dX6_isAlike_6 rfl (lv_at hl 0 rfl) ?_
  refine lv_ifnonnull (tgt := 21) hx hb dX6_isAlike_7 (by decide) ?_
  refine lv_aload_n hx hb dX6_isAlike_21 rfl (lv_at hl 1 rfl) ?_
  refine va_get (D := (dC, dI)) (ci := 5) (v := .ref d0) (C := RX6) (T := TX6) (N := 10) hx hb hts (by decide +kernel) hown hK hP 0 rfl rfl 5 (by decide) (hts (.fieldLink RX6 40 "Shortring" "likeness" "LShortring$Likeness;") (by decide +kernel)) (fun _ h9 => h9) rfl dX6_isAlike_22 ?_
  refine lv_aload_n hx hb dX6_isAlike_25 rfl (lv_at hl 1 rfl) ?_
  refine va_get (D := (dC, dI)) (ci := 5) (v := .ref h0) (C := RX6) (T := TX6) (N := 10) hx hb hts (by decide +kernel) hown hK hP 0 rfl rfl 0 (by decide) (hts (.fieldLink RX6 12 "Shortring" "net" "LShortring$Net;") (by decide +kernel)) (fun _ h9 => h9) rfl dX6_isAlike_26 ?_
  refine lv_aload_n hx hb dX6_isAlike_29 rfl (lv_at hl 0 rfl) ?_
  refine kCallVi (wr := [(s0, .inr (5, [.ref h0, .ref sc0, .ref kp0, .ref a0, .ref q0, .ref d0, .ref c0, .ref ta0, .int km, .int rf])), (kp0, .inl (cN, 5, .inr (.inr (.inr (.inr kf)))))]) (va_runVN (As := [.ref h0, .ref o0]) (rest := []) ⟨hx, hb, hml, hown, hts⟩ (k_X2_areAlike l dC dI cI cN d0 f0 f1 t0 t1 d1 KF ff KT tf im pl h0 h1 K f o0 o1 J g (by first | assumption | omega | exact Int32.le_refl _ | decide) (by first | assumption | omega | exact Int32.le_refl _ | decide) _) ⟨va_cnB 2 hts gX6_isAlike_X2_areAlike_n317 rfl rfl rfl (hN.1 38 _ rfl) (hts (.initialized RX2) (by decide +kernel)) (by decide +kernel) ⟨Nat.le_of_ble_eq_true rfl, Nat.le_of_ble_eq_true rfl⟩, hts (.instanceMethod yX2_areAlike) (by decide +kernel), hts (.selects RX2 yX2_areAlike yX2_areAlike) (by decide +kernel)⟩ (kU_V hP hK hD hN (ci := 2) (q0 := 3) rfl rfl [3, 4, 5, 6, 7, 8, 1, 2, 10, 11] rfl rfl rfl) rfl rfl hl.1 rfl (lv_room (Nat.le_of_ble_eq_true rfl)) dX6_isAlike_30 ⟨Nat.zero_le _, Nat.zero_le _⟩) hP hD hS hA [3, 4, 5, 6, 7, 8, 1, 2, 10, 11] [0, 9] rfl rfl rfl rfl (by decide) rfl (fun H locs hP hD hS => ?_)
  obtain ⟨r_1, er_1⟩ : ∃ y : Int32 × Nat × (Nat → Int32) × Nat × (Nat → Int32) × (Nat → Int32) × Int32, y = (P_areAlike KF ff KT tf im pl K f J g) := ⟨_, rfl⟩
  rw [← er_1]
  try rw [← er_1] at hP hD
  have hr := bd_to hr er_1
  have hP : va_P (dC, dI) kCl [(s0, .inr (5, [.ref h0, .ref sc0, .ref kp0, .ref a0, .ref q0, .ref d0, .ref c0, .ref ta0, .int km, .int rf])), (h0, .inr (3, [.ref h1, .int (nI K)])), (h1, .inl (cI, 16, .inl f)), (d0, .inr (2, [.ref f0, .ref t0, .ref d1, .int r_1.2.2.2.2.2.2])), (f0, .inr (3, [.ref f1, .int (nI r_1.2.1)])), (f1, .inl (cI, 16, .inl r_1.2.2.1)), (t0, .inr (3, [.ref t1, .int (nI r_1.2.2.2.1)])), (t1, .inl (cI, 16, .inl r_1.2.2.2.2.1)), (d1, .inl (cI, 16, .inl r_1.2.2.2.2.2.1)), (kp0, .inl (cN, 5, .inr (.inr (.inr (.inr kf))))), (o0, .inr (3, [.ref o1, .int (nI J)])), (o1, .inl (cI, 16, .inl g))] H := hP.sub [0, 8, 9, 2, 3, 4, 5, 6, 7, 1, 10, 11] rfl
  have hD : va_D A [(s0, .inr (5, [.ref h0, .ref sc0, .ref kp0, .ref a0, .ref q0, .ref d0, .ref c0, .ref ta0, .int km, .int rf])), (h0, .inr (3, [.ref h1, .int (nI K)])), (h1, .inl (cI, 16, .inl f)), (d0, .inr (2, [.ref f0, .ref t0, .ref d1, .int r_1.2.2.2.2.2.2])), (f0, .inr (3, [.ref f1, .int (nI r_1.2.1)])), (f1, .inl (cI, 16, .inl r_1.2.2.1)), (t0, .inr (3, [.ref t1, .int (nI r_1.2.2.2.1)])), (t1, .inl (cI, 16, .inl r_1.2.2.2.2.1)), (d1, .inl (cI, 16, .inl r_1.2.2.2.2.2.1)), (kp0, .inl (cN, 5, .inr (.inr (.inr (.inr kf))))), (o0, .inr (3, [.ref o1, .int (nI J)])), (o1, .inl (cI, 16, .inl g))] := hD.sub [0, 8, 9, 2, 3, 4, 5, 6, 7, 1, 10, 11] (by decide) rfl
  have he := hr.trans hρ
  exact W.zret (v := r_1.1) hx hb hr0 (kBool (P_areAlike_bv er_1)) (fun t ht hW => kVi_end (by rw [← he]) (by rw [← he]; exact hP) hS ht) hS.2.2 dX6_isAlike_33
theorem P_isAlike_bv {KF : Nat} {ff : Nat → Int32} {KT : Nat} {tf : Nat → Int32} {im : Nat → Int32} {pl : Int32} {K : Nat} {f : Nat → Int32} {J : Nat} {g : Nat → Int32} {r : Int32 × Nat × (Nat → Int32) × Nat × (Nat → Int32) × (Nat → Int32) × Int32} (e : r = P_isAlike KF ff KT tf im pl K f J g) : r.1 = 0 ∨ r.1 = 1 := by
  subst e
  exact P_areAlike_bv (r := P_areAlike KF ff KT tf im pl K f J g) rfl
def P_back (f : Nat → Int32) (t : Nat → Int32) (J : Nat) (gk : Nat → Int32) : Int32 × (Nat → Int32) × (Nat → Int32) :=
  bd (P_take f gk) (fun r_1 =>
    bd (P_look t J r_1) (fun r_2 =>
      (P_edgesInAll J r_1, r_1, r_2)))
abbrev rm_X6_back : Room := { frames := 6, cells := 0, slots := 0, locals := 139 }
set_option maxHeartbeats 4000000 in
set_option maxRecDepth 100000 in
theorem k_X6_back (l : Launch) (dC : Nat → ClassId) (dI : Nat → Nat → Nat) (cI cN : ClassId) (s0 : Nat) (sc0 : Nat) (kp0 : Nat) (ta0 : Nat) (km : Int32) (rf : Int32) (d0 : Nat) (c0 : Nat) (h0 : Nat) (h1 : Nat) (K : Nat) (f : Nat → Int32) (a0 : Nat) (a1 : Nat) (a2 : Nat) (a3 : Nat) (a4 : Nat) (isOn : Int32) (cnt : Int32) (len : Int32) (stp : Int32) (sta : Int32) (pm : Int32) (bm : Int32) (bw : Nat → Int32) (bars : Nat → Int32) (puts : Nat → Int32) (bap : Nat → Int32) (q0 : Nat) (q1 : Nat) (q2 : Nat) (g : Nat → Int32) (t : Nat → Int32) (kf : Nat → Option Nat) (o0 : Nat) (o1 : Nat) (J : Nat) (gk : Nat → Int32) (number : Int32) (hK : K ≤ 16) (hJ : J ≤ 16) (hkg : P_keptAt km kf number = some o0) (sz : Nat) : Met l yX6_back wsX6_back rm_X6_back (va_Pc [.ref s0, .int number] (kU dC dI cI cN [(s0, .inr (5, [.ref h0, .ref sc0, .ref kp0, .ref a0, .ref q0, .ref d0, .ref c0, .ref ta0, .int km, .int rf])), (h0, .inr (3, [.ref h1, .int (nI K)])), (h1, .inl (cI, 16, .inl f)), (a0, .inr (0, [.ref a1, .ref a2, .ref a3, .ref a4, .int isOn, .int cnt, .int len, .int stp, .int sta, .int pm, .int bm])), (a1, .inl (cI, 16, .inl bw)), (a2, .inl (cI, 120, .inl bars)), (a3, .inl (cI, 40, .inl puts)), (a4, .inl (cI, 40, .inl bap)), (q0, .inr (1, [.ref q1, .ref q2])), (q1, .inl (cI, 102, .inl g)), (q2, .inl (cI, 54, .inl t)), (kp0, .inl (cN, 5, .inr (.inr (.inr (.inr kf))))), (o0, .inr (3, [.ref o1, .int (nI J)])), (o1, .inl (cI, 16, .inl gk))] sz)) (kVi dC dI (P_back f t J gk).1 [(s0, .inr (5, [.ref h0, .ref sc0, .ref kp0, .ref a0, .ref q0, .ref d0, .ref c0, .ref ta0, .int km, .int rf])), (h0, .inr (3, [.ref h1, .int (nI J)])), (h1, .inl (cI, 16, .inl ((P_back f t J gk).2.1))), (a0, .inr (0, [.ref a1, .ref a2, .ref a3, .ref a4, .int 0, .int cnt, .int len, .int stp, .int sta, .int pm, .int bm])), (a1, .inl (cI, 16, .inl bw)), (a2, .inl (cI, 120, .inl bars)), (a3, .inl (cI, 40, .inl puts)), (a4, .inl (cI, 40, .inl bap)), (q0, .inr (1, [.ref q1, .ref q2])), (q1, .inl (cI, 102, .inl g)), (q2, .inl (cI, 54, .inl ((P_back f t J gk).2.2))), (kp0, .inl (cN, 5, .inr (.inr (.inr (.inr kf))))), (o0, .inr (3, [.ref o1, .int (nI J)])), (o1, .inl (cI, 16, .inl gk))] (va_A [(s0, .inr (5, [.ref h0, .ref sc0, .ref kp0, .ref a0, .ref q0, .ref d0, .ref c0, .ref ta0, .int km, .int rf])), (h0, .inr (3, [.ref h1, .int (nI K)])), (h1, .inl (cI, 16, .inl f)), (a0, .inr (0, [.ref a1, .ref a2, .ref a3, .ref a4, .int isOn, .int cnt, .int len, .int stp, .int sta, .int pm, .int bm])), (a1, .inl (cI, 16, .inl bw)), (a2, .inl (cI, 120, .inl bars)), (a3, .inl (cI, 40, .inl puts)), (a4, .inl (cI, 40, .inl bap)), (q0, .inr (1, [.ref q1, .ref q2])), (q1, .inl (cI, 102, .inl g)), (q2, .inl (cI, 54, .inl t)), (kp0, .inl (cN, 5, .inr (.inr (.inr (.inr kf))))), (o0, .inr (3, [.ref o1, .int (nI J)])), (o1, .inl (cI, 16, .inl gk))] sz)) 0 0 (va_A [(s0, .inr (5, [.ref h0, .ref sc0, .ref kp0, .ref a0, .ref q0, .ref d0, .ref c0, .ref ta0, .int km, .int rf])), (h0, .inr (3, [.ref h1, .int (nI K)])), (h1, .inl (cI, 16, .inl f)), (a0, .inr (0, [.ref a1, .ref a2, .ref a3, .ref a4, .int isOn, .int cnt, .int len, .int stp, .int sta, .int pm, .int bm])), (a1, .inl (cI, 16, .inl bw)), (a2, .inl (cI, 120, .inl bars)), (a3, .inl (cI, 40, .inl puts)), (a4, .inl (cI, 40, .inl bap)), (q0, .inr (1, [.ref q1, .ref q2])), (q1, .inl (cI, 102, .inl g)), (q2, .inl (cI, 54, .inl t)), (kp0, .inl (cN, 5, .inr (.inr (.inr (.inr kf))))), (o0, .inr (3, [.ref o1, .int (nI J)])), (o1, .inl (cI, 16, .inl gk))] sz) := by
  refine Met.ofW (cc := cX6_back) (maxL := 3) (ret := (some .int)) (by decide) rfl ?_
  intro p e s m args below meth c s₁ B hml hv
  obtain ⟨rfl, hsz, hP, hK, hD0, hN⟩ := hv
  have hx := B.exec
  have hb := B.bytes
  have hr0 := B.returns
  have hts := atoms_spec (ws := wsX6_back) B.pre
  have hown : s.vm.findClass RX6 = some m.cls := findClass_of_methodNamed B.named
  have hlocks := B.notSynchronized
  subst hsz
  have hD := hD0.self (sz := s.heap.size)
  generalize hAe : va_A [(s0, .inr (5, [.ref h0, .ref sc0, .ref kp0, .ref a0, .ref q0, .ref d0, .ref c0, .ref ta0, .int km, .int rf])), (h0, .inr (3, [.ref h1, .int (nI K)])), (h1, .inl (cI, 16, .inl f)), (a0, .inr (0, [.ref a1, .ref a2, .ref a3, .ref a4, .int isOn, .int cnt, .int len, .int stp, .int sta, .int pm, .int bm])), (a1, .inl (cI, 16, .inl bw)), (a2, .inl (cI, 120, .inl bars)), (a3, .inl (cI, 40, .inl puts)), (a4, .inl (cI, 40, .inl bap)), (q0, .inr (1, [.ref q1, .ref q2])), (q1, .inl (cI, 102, .inl g)), (q2, .inl (cI, 54, .inl t)), (kp0, .inl (cN, 5, .inr (.inr (.inr (.inr kf))))), (o0, .inr (3, [.ref o1, .int (nI J)])), (o1, .inl (cI, 16, .inl gk))] s.heap.size = A at hD ⊢
  have hA : ∀ q : Nat, s.heap.size ≤ q → A q := fun q h => by rw [← hAe]; exact Or.inr h
  have hS : va_S A s.heap s.heap [] := va_S.rf
  have hl := lv_entry ([.ref s0, .int number]) (n := 3) (Nat.le_of_ble_eq_true rfl)
  rw [lg_entry_eq]
  generalize (lg_sl ([.ref s0, .int number]) ++ List.replicate (3 - (lg_sl ([.ref s0, .int number])).length) Slot.unset).toArray = ls at hl ⊢
  have hl : lv_has ls 3 [(0, .ref s0), (1, .int number)] := hl
  obtain ⟨ρ, hρ⟩ : ∃ ρ : Int32 × (Nat → Int32) × (Nat → Int32), ρ = P_back f t J gk := ⟨_, rfl⟩
  have hr : P_back f t J gk = ρ := hρ.symm
  rewrite [P_back] at hr
  refine lv_aload_n hx hb dX6_back_0 rfl (lv_at hl 0 rfl) ?_
  refine lv_iload_n hx hb dX6_back_1 rfl (lv_at hl 1 rfl) ?_
  refine kCallq (va_runV (As := [.int number]) (rest := []) ⟨hx, hb, hml, hown, hts⟩ (k_X6_keptAt l dC dI cI cN h0 s0 sc0 kp0 ta0 km rf a0 q0 d0 c0 kf number) (cwV 1 hts gX6_back_X6_keptAt rfl rfl rfl (by decide +kernel) ⟨Nat.le_of_ble_eq_true rfl, Nat.le_of_ble_eq_true rfl⟩) (kW_V hP hK hD hN (ci := 5) (q0 := 0) rfl rfl [0, 11] rfl rfl rfl) rfl rfl hl.1 rfl (lv_room (Nat.le_of_ble_eq_true rfl)) dX6_back_2 ⟨Nat.zero_le _, Nat.zero_le _⟩) hP hS (fun H locs hP hS => ?_)
  refine kRenV (y := .ref o0) (by rw [hkg]; first | done | rfl) ?_
  refine lv_astore_n (lv' := [(2, .ref o0), (0, .ref s0), (1, .int number)]) hx hb dX6_back_5 rfl hl (by decide) rfl (fun ls hl => ?_)
  refine lv_aload_n hx hb dX6_back_6 rfl (lv_at hl 0 rfl) ?_
  refine lv_ifnonnull (tgt := 21) hx hb dX6_back_7 (by decide) ?_
  refine lv_aload_n hx hb dX6_back_21 rfl (lv_at hl 1 rfl) ?_
  refine va_get (D := (dC, dI)) (ci := 5) (v := .ref h0) (C := RX6) (T := TX6) (N := 10) hx hb hts (by decide +kernel) hown hK hP 0 rfl rfl 0 (by decide) (hts (.fieldLink RX6 12 "Shortring" "net" "LShortring$Net;") (by decide +kernel)) (fun _ h9 => h9) rfl dX6_back_22 ?_
  refine lv_aload_n hx hb dX6_back_25 rfl (lv_at hl 0 rfl) ?_
  refine kCallV (wr := [(s0, .inr (5, [.ref h0, .ref sc0, .ref kp0, .ref a0, .ref q0, .ref d0, .ref c0, .ref ta0, .int km, .int rf])), (a0, .inr (0, [.ref a1, .ref a2, .ref a3, .ref a4, .int isOn, .int cnt, .int len, .int stp, .int sta, .int pm, .int bm])), (a1, .inl (cI, 16, .inl bw)), (a2, .inl (cI, 120, .inl bars)), (a3, .inl (cI, 40, .inl puts)), (a4, .inl (cI, 40, .inl bap)), (q0, .inr (1, [.ref q1, .ref q2])), (q1, .inl (cI, 102, .inl g)), (q2, .inl (cI, 54, .inl t)), (kp0, .inl (cN, 5, .inr (.inr (.inr (.inr kf)))))]) (va_runVN (As := [.ref o0]) (rest := []) ⟨hx, hb, hml, hown, hts⟩ (k_X3_take l dC dI cI cN h0 h1 K f o0 o1 J gk (by first | assumption | omega | exact Int32.le_refl _ | decide) _) ⟨va_cnB 1 hts gX6_back_X3_take_n144 rfl rfl rfl (hN.1 14 _ rfl) (hts (.initialized RX3) (by decide +kernel)) (by decide +kernel) ⟨Nat.le_of_ble_eq_true rfl, Nat.le_of_ble_eq_true rfl⟩, hts (.instanceMethod yX3_take) (by decide +kernel), hts (.selects RX3 yX3_take yX3_take) (by decide +kernel)⟩ (kU_V hP hK hD hN (ci := 3) (q0 := 1) rfl rfl [1, 2, 12, 13] rfl rfl rfl) rfl rfl hl.1 rfl (lv_room (Nat.le_of_ble_eq_true rfl)) dX6_back_26 ⟨Nat.zero_le _, Nat.zero_le _⟩) hP hD hS hA [1, 2, 12, 13] [0, 3, 4, 5, 6, 7, 8, 9, 10, 11] rfl rfl rfl rfl (by decide) rfl (fun H locs hP hD hS => ?_)
  obtain ⟨r_1, er_1⟩ : ∃ y : Nat → Int32, y = (P_take f gk) := ⟨_, rfl⟩
  try rw [← er_1] at hP hD
  have hr := bd_to hr er_1
  have hP : va_P (dC, dI) kCl [(s0, .inr (5, [.ref h0, .ref sc0, .ref kp0, .ref a0, .ref q0, .ref d0, .ref c0, .ref ta0, .int km, .int rf])), (h0, .inr (3, [.ref h1, .int (nI J)])), (h1, .inl (cI, 16, .inl r_1)), (a0, .inr (0, [.ref a1, .ref a2, .ref a3, .ref a4, .int isOn, .int cnt, .int len, .int stp, .int sta, .int pm, .int bm])), (a1, .inl (cI, 16, .inl bw)), (a2, .inl (cI, 120, .inl bars)), (a3, .inl (cI, 40, .inl puts)), (a4, .inl (cI, 40, .inl bap)), (q0, .inr (1, [.ref q1, .ref q2])), (q1, .inl (cI, 102, .inl g)), (q2, .inl (cI, 54, .inl t)), (kp0, .inl (cN, 5, .inr (.inr (.inr (.inr kf))))), (o0, .inr (3, [.ref o1, .int (nI J)])), (o1, .inl (cI, 16, .inl gk))] H := hP.sub [0, 10, 11, 1, 2, 3, 4, 5, 6, 7, 8, 9, 12, 13] rfl
  have hD : va_D A [(s0, .inr (5, [.ref h0, .ref sc0, .ref kp0, .ref a0, .ref q0, .ref d0, .ref c0, .ref ta0, .int km, .int rf])), (h0, .inr (3, [.ref h1, .int (nI J)])), (h1, .inl (cI, 16, .inl r_1)), (a0, .inr (0, [.ref a1, .ref a2, .ref a3, .ref a4, .int isOn, .int cnt, .int len, .int stp, .int sta, .int pm, .int bm])), (a1, .inl (cI, 16, .inl bw)), (a2, .inl (cI, 120, .inl bars)), (a3, .inl (cI, 40, .inl puts)), (a4, .inl (cI, 40, .inl bap)), (q0, .inr (1, [.ref q1, .ref q2])), (q1, .inl (cI, 102, .inl g)), (q2, .inl (cI, 54, .inl t)), (kp0, .inl (cN, 5, .inr (.inr (.inr (.inr kf))))), (o0, .inr (3, [.ref o1, .int (nI J)])), (o1, .inl (cI, 16, .inl gk))] := hD.sub [0, 10, 11, 1, 2, 3, 4, 5, 6, 7, 8, 9, 12, 13] (by decide) rfl
  refine lv_aload_n hx hb dX6_back_29 rfl (lv_at hl 1 rfl) ?_
  refine va_get (D := (dC, dI)) (ci := 5) (v := .ref a0) (C := RX6) (T := TX6) (N := 10) hx hb hts (by decide +kernel) hown hK hP 0 rfl rfl 3 (by decide) (hts (.fieldLink RX6 26 "Shortring" "hunt" "LShortring$Hunt;") (by decide +kernel)) (fun _ h9 => h9) rfl dX6_back_30 ?_
  refine kCallV (wr := [(s0, .inr (5, [.ref h0, .ref sc0, .ref kp0, .ref a0, .ref q0, .ref d0, .ref c0, .ref ta0, .int km, .int rf])), (h0, .inr (3, [.ref h1, .int (nI J)])), (h1, .inl (cI, 16, .inl r_1)), (q0, .inr (1, [.ref q1, .ref q2])), (q1, .inl (cI, 102, .inl g)), (q2, .inl (cI, 54, .inl t)), (kp0, .inl (cN, 5, .inr (.inr (.inr (.inr kf))))), (o0, .inr (3, [.ref o1, .int (nI J)])), (o1, .inl (cI, 16, .inl gk))]) (va_runVN (As := []) (rest := []) ⟨hx, hb, hml, hown, hts⟩ (k_X0_end l dC dI cI cN a0 a1 a2 a3 a4 isOn cnt len stp sta pm bm bw bars puts bap _) ⟨va_cnB 0 hts gX6_back_X0_end_n80 rfl rfl rfl (hN.1 6 _ rfl) (hts (.initialized RX0) (by decide +kernel)) (by decide +kernel) ⟨Nat.le_of_ble_eq_true rfl, Nat.le_of_ble_eq_true rfl⟩, hts (.instanceMethod yX0_end) (by decide +kernel), hts (.selects RX0 yX0_end yX0_end) (by decide +kernel)⟩ (kU_V hP hK hD hN (ci := 0) (q0 := 3) rfl rfl [3, 4, 5, 6, 7] rfl rfl rfl) rfl rfl hl.1 rfl (lv_room (Nat.le_of_ble_eq_true rfl)) dX6_back_33 ⟨Nat.zero_le _, Nat.zero_le _⟩) hP hD hS hA [3, 4, 5, 6, 7] [0, 1, 2, 8, 9, 10, 11, 12, 13] rfl rfl rfl rfl (by decide) rfl (fun H locs hP hD hS => ?_)
  have hP : va_P (dC, dI) kCl [(s0, .inr (5, [.ref h0, .ref sc0, .ref kp0, .ref a0, .ref q0, .ref d0, .ref c0, .ref ta0, .int km, .int rf])), (h0, .inr (3, [.ref h1, .int (nI J)])), (h1, .inl (cI, 16, .inl r_1)), (a0, .inr (0, [.ref a1, .ref a2, .ref a3, .ref a4, .int 0, .int cnt, .int len, .int stp, .int sta, .int pm, .int bm])), (a1, .inl (cI, 16, .inl bw)), (a2, .inl (cI, 120, .inl bars)), (a3, .inl (cI, 40, .inl puts)), (a4, .inl (cI, 40, .inl bap)), (q0, .inr (1, [.ref q1, .ref q2])), (q1, .inl (cI, 102, .inl g)), (q2, .inl (cI, 54, .inl t)), (kp0, .inl (cN, 5, .inr (.inr (.inr (.inr kf))))), (o0, .inr (3, [.ref o1, .int (nI J)])), (o1, .inl (cI, 16, .inl gk))] H := hP.sub [0, 1, 2, 9, 10, 11, 12, 13, 3, 4, 5, 6, 7, 8] rfl
  have hD : va_D A [(s0, .inr (5, [.ref h0, .ref sc0, .ref kp0, .ref a0, .ref q0, .ref d0, .ref c0, .ref ta0, .int km, .int rf])), (h0, .inr (3, [.ref h1, .int (nI J)])), (h1, .inl (cI, 16, .inl r_1)), (a0, .inr (0, [.ref a1, .ref a2, .ref a3, .ref a4, .int 0, .int cnt, .int len, .int stp, .int sta, .int pm, .int bm])), (a1, .inl (cI, 16, .inl bw)), (a2, .inl (cI, 120, .inl bars)), (a3, .inl (cI, 40, .inl puts)), (a4, .inl (cI, 40, .inl bap)), (q0, .inr (1, [.ref q1, .ref q2])), (q1, .inl (cI, 102, .inl g)), (q2, .inl (cI, 54, .inl t)), (kp0, .inl (cN, 5, .inr (.inr (.inr (.inr kf))))), (o0, .inr (3, [.ref o1, .int (nI J)])), (o1, .inl (cI, 16, .inl gk))] := hD.sub [0, 1, 2, 9, 10, 11, 12, 13, 3, 4, 5, 6, 7, 8] (by decide) rfl
  refine lv_aload_n hx hb dX6_back_36 rfl (lv_at hl 1 rfl) ?_
  refine va_get (D := (dC, dI)) (ci := 5) (v := .ref q0) (C := RX6) (T := TX6) (N := 10) hx hb hts (by decide +kernel) hown hK hP 0 rfl rfl 4 (by decide) (hts (.fieldLink RX6 33 "Shortring" "ledger" "LShortring$Ledger;") (by decide +kernel)) (fun _ h9 => h9) rfl dX6_back_37 ?_
  refine lv_aload_n hx hb dX6_back_40 rfl (lv_at hl 1 rfl) ?_
  refine va_get (D := (dC, dI)) (ci := 5) (v := .ref h0) (C := RX6) (T := TX6) (N := 10) hx hb hts (by decide +kernel) hown hK hP 0 rfl rfl 0 (by decide) (hts (.fieldLink RX6 12 "Shortring" "net" "LShortring$Net;") (by decide +kernel)) (fun _ h9 => h9) rfl dX6_back_41 ?_
  refine kCallV (wr := [(s0, .inr (5, [.ref h0, .ref sc0, .ref kp0, .ref a0, .ref q0, .ref d0, .ref c0, .ref ta0, .int km, .int rf])), (a0, .inr (0, [.ref a1, .ref a2, .ref a3, .ref a4, .int 0, .int cnt, .int len, .int stp, .int sta, .int pm, .int bm])), (a1, .inl (cI, 16, .inl bw)), (a2, .inl (cI, 120, .inl bars)), (a3, .inl (cI, 40, .inl puts)), (a4, .inl (cI, 40, .inl bap)), (kp0, .inl (cN, 5, .inr (.inr (.inr (.inr kf))))), (o0, .inr (3, [.ref o1, .int (nI J)])), (o1, .inl (cI, 16, .inl gk))]) (va_runVN (As := [.ref h0]) (rest := []) ⟨hx, hb, hml, hown, hts⟩ (k_X1_look l dC dI cI cN q0 q1 q2 g t h0 h1 J r_1 (by first | assumption | omega | exact Int32.le_refl _ | decide) _) ⟨va_cnB 1 hts gX6_back_X1_look_n83 rfl rfl rfl (hN.1 7 _ rfl) (hts (.initialized RX1) (by decide +kernel)) (by decide +kernel) ⟨Nat.le_of_ble_eq_true rfl, Nat.le_of_ble_eq_true rfl⟩, hts (.instanceMethod yX1_look) (by decide +kernel), hts (.selects RX1 yX1_look yX1_look) (by decide +kernel)⟩ (kU_V hP hK hD hN (ci := 1) (q0 := 8) rfl rfl [8, 9, 10, 1, 2] rfl rfl rfl) rfl rfl hl.1 rfl (lv_room (Nat.le_of_ble_eq_true rfl)) dX6_back_44 ⟨Nat.zero_le _, Nat.zero_le _⟩) hP hD hS hA [8, 9, 10, 1, 2] [0, 3, 4, 5, 6, 7, 11, 12, 13] rfl rfl rfl rfl (by decide) rfl (fun H locs hP hD hS => ?_)
  obtain ⟨r_2, er_2⟩ : ∃ y : Nat → Int32, y = (P_look t J r_1) := ⟨_, rfl⟩
  try rw [← er_2] at hP hD
  have hr := bd_to hr er_2
  have hP : va_P (dC, dI) kCl [(s0, .inr (5, [.ref h0, .ref sc0, .ref kp0, .ref a0, .ref q0, .ref d0, .ref c0, .ref ta0, .int km, .int rf])), (h0, .inr (3, [.ref h1, .int (nI J)])), (h1, .inl (cI, 16, .inl r_1)), (a0, .inr (0, [.ref a1, .ref a2, .ref a3, .ref a4, .int 0, .int cnt, .int len, .int stp, .int sta, .int pm, .int bm])), (a1, .inl (cI, 16, .inl bw)), (a2, .inl (cI, 120, .inl bars)), (a3, .inl (cI, 40, .inl puts)), (a4, .inl (cI, 40, .inl bap)), (q0, .inr (1, [.ref q1, .ref q2])), (q1, .inl (cI, 102, .inl g)), (q2, .inl (cI, 54, .inl r_2)), (kp0, .inl (cN, 5, .inr (.inr (.inr (.inr kf))))), (o0, .inr (3, [.ref o1, .int (nI J)])), (o1, .inl (cI, 16, .inl gk))] H := hP.sub [0, 12, 13, 1, 2, 3, 4, 5, 9, 10, 11, 6, 7, 8] rfl
  have hD : va_D A [(s0, .inr (5, [.ref h0, .ref sc0, .ref kp0, .ref a0, .ref q0, .ref d0, .ref c0, .ref ta0, .int km, .int rf])), (h0, .inr (3, [.ref h1, .int (nI J)])), (h1, .inl (cI, 16, .inl r_1)), (a0, .inr (0, [.ref a1, .ref a2, .ref a3, .ref a4, .int 0, .int cnt, .int len, .int stp, .int sta, .int pm, .int bm])), (a1, .inl (cI, 16, .inl bw)), (a2, .inl (cI, 120, .inl bars)), (a3, .inl (cI, 40, .inl puts)), (a4, .inl (cI, 40, .inl bap)), (q0, .inr (1, [.ref q1, .ref q2])), (q1, .inl (cI, 102, .inl g)), (q2, .inl (cI, 54, .inl r_2)), (kp0, .inl (cN, 5, .inr (.inr (.inr (.inr kf))))), (o0, .inr (3, [.ref o1, .int (nI J)])), (o1, .inl (cI, 16, .inl gk))] := hD.sub [0, 12, 13, 1, 2, 3, 4, 5, 9, 10, 11, 6, 7, 8] (by decide) rfl
  refine lv_aload_n hx hb dX6_back_47 rfl (lv_at hl 1 rfl) ?_
  refine va_get (D := (dC, dI)) (ci := 5) (v := .ref h0) (C := RX6) (T := TX6) (N := 10) hx hb hts (by decide +kernel) hown hK hP 0 rfl rfl 0 (by decide) (hts (.fieldLink RX6 12 "Shortring" "net" "LShortring$Net;") (by decide +kernel)) (fun _ h9 => h9) rfl dX6_back_48 ?_
  refine kCall (va_runVN (As := []) (rest := []) ⟨hx, hb, hml, hown, hts⟩ (k_X3_edgesInAll l dC dI cI cN h0 h1 J r_1 (by first | assumption | omega | exact Int32.le_refl _ | decide)) ⟨va_cnB 0 hts gX6_back_X3_edgesInAll_n130 rfl rfl rfl (hN.1 13 _ rfl) (hts (.initialized RX3) (by decide +kernel)) (by decide +kernel) ⟨Nat.le_of_ble_eq_true rfl, Nat.le_of_ble_eq_true rfl⟩, hts (.instanceMethod yX3_edgesInAll) (by decide +kernel), hts (.selects RX3 yX3_edgesInAll yX3_edgesInAll) (by decide +kernel)⟩ (kW_V hP hK hD hN (ci := 3) (q0 := 1) rfl rfl [1, 2] rfl rfl rfl) rfl rfl hl.1 rfl (lv_room (Nat.le_of_ble_eq_true rfl)) dX6_back_51 ⟨Nat.zero_le _, Nat.zero_le _⟩) hP hS (fun H locs hP hS => ?_)
  have he := hr.trans hρ
  exact W.iret (v := P_edgesInAll J r_1) hx hb hr0 (fun t ht hW => kVi_end (by rw [← he]) (by rw [← he]; exact hP) hS ht) hS.2.2 dX6_back_54
def P_backN  : Int32 ⊕ Nat :=
  Sum.inr 2
abbrev rm_X6_backN : Room := { frames := 1, cells := 0, slots := 0, locals := 21 }
set_option maxHeartbeats 4000000 in
set_option maxRecDepth 100000 in
theorem k_X6_backN (l : Launch) (dC : Nat → ClassId) (dI : Nat → Nat → Nat) (cI cN : ClassId) (h0 : Nat) (s0 : Nat) (sc0 : Nat) (kp0 : Nat) (ta0 : Nat) (km : Int32) (rf : Int32) (a0 : Nat) (q0 : Nat) (d0 : Nat) (c0 : Nat) (kf : Nat → Option Nat) (number : Int32) (hkg : P_keptAt km kf number = none) (v : Int32) (hok : P_backN = .inl v) : Met l yX6_back wsX6_back rm_X6_backN (va_Pc [.ref s0, .int number] (kW dC dI cI cN [(s0, .inr (5, [.ref h0, .ref sc0, .ref kp0, .ref a0, .ref q0, .ref d0, .ref c0, .ref ta0, .int km, .int rf])), (kp0, .inl (cN, 5, .inr (.inr (.inr (.inr kf)))))])) (kR v) 0 0 (fun _ => False) := by
  refine Met.ofW (cc := cX6_back) (maxL := 3) (ret := (some .int)) (by decide) rfl ?_
  intro p e s m args below meth c s₁ B hml hv
  obtain ⟨rfl, hP, hK, hD, hN⟩ := hv
  have hx := B.exec
  have hb := B.bytes
  have hr0 := B.returns
  have hts := atoms_spec (ws := wsX6_back) B.pre
  have hown : s.vm.findClass RX6 = some m.cls := findClass_of_methodNamed B.named
  have hlocks := B.notSynchronized
  have hS : va_S (fun _ => False) s.heap s.heap [] := va_S.rf
  have hl := lv_entry ([.ref s0, .int number]) (n := 3) (Nat.le_of_ble_eq_true rfl)
  rw [lg_entry_eq]
  generalize (lg_sl ([.ref s0, .int number]) ++ List.replicate (3 - (lg_sl ([.ref s0, .int number])).length) Slot.unset).toArray = ls at hl ⊢
  have hl : lv_has ls 3 [(0, .ref s0), (1, .int number)] := hl
  obtain ⟨ρ, hρ⟩ : ∃ ρ : Int32 ⊕ Nat, ρ = P_backN := ⟨_, rfl⟩
  have hr : P_backN = ρ := hρ.symm
  rewrite [P_backN] at hr
  refine lv_aload_n hx hb dX6_back_0 rfl (lv_at hl 0 rfl) ?_
  refine lv_iload_n hx hb dX6_back_1 rfl (lv_at hl 1 rfl) ?_
  refine kCallq (va_runV (As := [.int number]) (rest := []) ⟨hx, hb, hml, hown, hts⟩ (k_X6_keptAt l dC dI cI cN h0 s0 sc0 kp0 ta0 km rf a0 q0 d0 c0 kf number) (cwV 1 hts gX6_back_X6_keptAt rfl rfl rfl (by decide +kernel) ⟨Nat.le_of_ble_eq_true rfl, Nat.le_of_ble_eq_true rfl⟩) (kW_V hP hK hD hN (ci := 5) (q0 := 0) rfl rfl [0, 1] rfl rfl rfl) rfl rfl hl.1 rfl (lv_room (Nat.le_of_ble_eq_true rfl)) dX6_back_2 ⟨Nat.zero_le _, Nat.zero_le _⟩) hP hS (fun H locs hP hS => ?_)
  refine kRenV (y := .null) (by rw [hkg]; first | done | rfl) ?_
  refine lv_astore_nN (lv' := [(2, .null), (0, .ref s0), (1, .int number)]) hx hb dX6_back_5 rfl hl (by decide) rfl (fun ls hl => ?_)
  refine lv_aload_nN hx hb dX6_back_6 rfl (lv_at hl 0 rfl) ?_
  refine lv_ifnonnullN hx hb dX6_back_7 ?_
  cases hr.trans (hρ.trans hok)
theorem gfX6_back_2 : ∀ w ∈ (vx_atS RX6 95 (kCls 2) kNs).filter goodWord, w ∈ wsX6_back := fun w h => List.mem_cons_of_mem _ (List.mem_append_right _ h)
abbrev rx_X6_back : Room := { frames := 6, cells := 1, slots := 6, locals := 82 }
set_option maxHeartbeats 4000000 in
set_option maxRecDepth 100000 in
theorem e_X6_back (l : Launch) (hl9 : l.stackTraces = false) (dC : Nat → ClassId) (dI : Nat → Nat → Nat) (cI cN : ClassId) (h0 : Nat) (s0 : Nat) (sc0 : Nat) (kp0 : Nat) (ta0 : Nat) (km : Int32) (rf : Int32) (a0 : Nat) (q0 : Nat) (d0 : Nat) (c0 : Nat) (kf : Nat → Option Nat) (number : Int32) (hkg : P_keptAt km kf number = none) (kx : Nat) (hex : P_backN = .inr kx) : vx_Met l yX6_back wsX6_back rx_X6_back (va_Pc [.ref s0, .int number] (kWE dC dI cI cN [(s0, .inr (5, [.ref h0, .ref sc0, .ref kp0, .ref a0, .ref q0, .ref d0, .ref c0, .ref ta0, .int km, .int rf])), (kp0, .inl (cN, 5, .inr (.inr (.inr (.inr kf)))))])) kNoi (kX kx) 1 6 (fun _ => False) := by
  refine vx_ofW (cc := cX6_back) (maxL := 3) (ret := (some .int)) (by decide) rfl ?_
  intro p e s m args below meth c s₁ B hml hxt hv
  obtain ⟨rfl, ⟨hP, hK, hD, hN⟩, hE⟩ := hv
  have hx := B.exec
  have hb := B.bytes
  have hr0 := B.returns
  have hts := atoms_spec (ws := wsX6_back) B.pre
  have hown : s.vm.findClass RX6 = some m.cls := findClass_of_methodNamed B.named
  have hlocks := B.notSynchronized
  have hS : va_S (fun _ => False) s.heap s.heap [] := va_S.rf
  have hl := lv_entry ([.ref s0, .int number]) (n := 3) (Nat.le_of_ble_eq_true rfl)
  rw [lg_entry_eq]
  generalize (lg_sl ([.ref s0, .int number]) ++ List.replicate (3 - (lg_sl ([.ref s0, .int number])).length) Slot.unset).toArray = ls at hl ⊢
  have hl : lv_has ls 3 [(0, .ref s0), (1, .int number)] := hl
  obtain ⟨ρ, hρ⟩ : ∃ ρ : Int32 ⊕ Nat, ρ = P_backN := ⟨_, rfl⟩
  have hr : P_backN = ρ := hρ.symm
  rewrite [P_backN] at hr
  refine lv_aload_n hx hb dX6_back_0 rfl (lv_at hl 0 rfl) ?_
  refine lv_iload_n hx hb dX6_back_1 rfl (lv_at hl 1 rfl) ?_
  refine kCallq (va_runV (As := [.int number]) (rest := []) ⟨hx, hb, hml, hown, hts⟩ (k_X6_keptAt l dC dI cI cN h0 s0 sc0 kp0 ta0 km rf a0 q0 d0 c0 kf number) (cwV 1 hts gX6_back_X6_keptAt rfl rfl rfl (by decide +kernel) ⟨Nat.le_of_ble_eq_true rfl, Nat.le_of_ble_eq_true rfl⟩) (kW_V hP hK hD hN (ci := 5) (q0 := 0) rfl rfl [0, 1] rfl rfl rfl) rfl rfl hl.1 rfl (lv_room (Nat.le_of_ble_eq_true rfl)) dX6_back_2 ⟨Nat.zero_le _, Nat.zero_le _⟩) hP hS (fun H locs hP hS => ?_)
  refine kRenV (y := .null) (by rw [hkg]; first | done | rfl) ?_
  refine lv_astore_nN (lv' := [(2, .null), (0, .ref s0), (1, .int number)]) hx hb dX6_back_5 rfl hl (by decide) rfl (fun ls hl => ?_)
  refine lv_aload_nN hx hb dX6_back_6 rfl (lv_at hl 0 rfl) ?_
  refine lv_ifnonnullN hx hb dX6_back_7 ?_
  exact kThrowSW hx hb hl9 hown 2 (ik := 91) (is := 315) (ic := 95) (Sum.inr.inj (hr.trans (hρ.trans hex))) (by decide +kernel) (hts (.classLink RX6 91 "java/lang/IndexOutOfBoundsException") (by decide +kernel)) (hts (.initialized "java/lang/IndexOutOfBoundsException") (by decide +kernel)) 21 rfl (fun w h => hts w (gfX6_back_2 w h)) kBad2 (kHg kOt2) hE hS (hl.1.trans hml.symm) dX6_back_10 dX6_back_13 dX6_back_14 dX6_back_17 dX6_back_20 hxt (Nat.le_of_ble_eq_true rfl) (Nat.le_of_ble_eq_true rfl) (Nat.le_of_ble_eq_true rfl) (Nat.le_of_ble_eq_true rfl) hlocks
def P_keep (K : Nat) (f : Nat → Int32) (km : Int32) : Int32 ⊕ Nat :=
  if (nI K) = 0 then
    Sum.inr 3
  else
    if km < 0 then
      Sum.inr 3
    else
      if km < (5 : Int32) then
        bd (P_take (fun _ => 0) f) (fun r_4 =>
          Sum.inl km)
      else
        Sum.inr 3
abbrev rm_X6_keep : Room := { frames := 2, cells := 2, slots := 18, locals := 43 }
set_option maxHeartbeats 4000000 in
set_option maxRecDepth 100000 in
theorem k_X6_keep (l : Launch) (dC : Nat → ClassId) (dI : Nat → Nat → Nat) (cI cN : ClassId) (s0 : Nat) (sc0 : Nat) (kp0 : Nat) (ta0 : Nat) (km : Int32) (rf : Int32) (a0 : Nat) (q0 : Nat) (d0 : Nat) (c0 : Nat) (h0 : Nat) (h1 : Nat) (K : Nat) (f : Nat → Int32) (kf : Nat → Option Nat) (hK : K ≤ 16) (sz : Nat) (v : Int32) (hok : P_keep K f km = .inl v) : Met l yX6_keep wsX6_keep rm_X6_keep (va_Pc [.ref s0] (kU dC dI cI cN [(s0, .inr (5, [.ref h0, .ref sc0, .ref kp0, .ref a0, .ref q0, .ref d0, .ref c0, .ref ta0, .int km, .int rf])), (h0, .inr (3, [.ref h1, .int (nI K)])), (h1, .inl (cI, 16, .inl f)), (kp0, .inl (cN, 5, .inr (.inr (.inr (.inr kf)))))] sz)) (kNI dC dI v (fun w : va_W => ∃ (w_1 w_2 : Nat) (r_4 : Nat → Int32), r_4 = P_take (fun _ => 0) f ∧ w = [(s0, .inr (5, [.ref h0, .ref sc0, .ref kp0, .ref a0, .ref q0, .ref d0, .ref c0, .ref ta0, .int (km + (1 : Int32)), .int rf])), (h0, .inr (3, [.ref h1, .int (nI K)])), (h1, .inl (cI, 16, .inl f)), (kp0, .inl (cN, 5, .inr (.inr (.inr (.inr (va_up kf (km).toNatClampNeg (some w_1))))))), (w_1, .inr (3, [.ref w_2, .int (nI K)])), (w_2, .inl (cI, 16, .inl r_4))]) (va_A [(s0, .inr (5, [.ref h0, .ref sc0, .ref kp0, .ref a0, .ref q0, .ref d0, .ref c0, .ref ta0, .int km, .int rf])), (h0, .inr (3, [.ref h1, .int (nI K)])), (h1, .inl (cI, 16, .inl f)), (kp0, .inl (cN, 5, .inr (.inr (.inr (.inr kf)))))] sz)) 2 18 (va_A [(s0, .inr (5, [.ref h0, .ref sc0, .ref kp0, .ref a0, .ref q0, .ref d0, .ref c0, .ref ta0, .int km, .int rf])), (h0, .inr (3, [.ref h1, .int (nI K)])), (h1, .inl (cI, 16, .inl f)), (kp0, .inl (cN, 5, .inr (.inr (.inr (.inr kf)))))] sz) := by
  refine Met.ofW (cc := cX6_keep) (maxL := 3) (ret := (some .int)) (by decide) rfl ?_
  intro p e s m args below meth c s₁ B hml hv
  obtain ⟨rfl, hsz, hP, hK, hD0, hN⟩ := hv
  have hx := B.exec
  have hb := B.bytes
  have hr0 := B.returns
  have hts := atoms_spec (ws := wsX6_keep) B.pre
  have hown : s.vm.findClass RX6 = some m.cls := findClass_of_methodNamed B.named
  have hlocks := B.notSynchronized
  subst hsz
  have hD := hD0.self (sz := s.heap.size)
  generalize hAe : va_A [(s0, .inr (5, [.ref h0, .ref sc0, .ref kp0, .ref a0, .ref q0, .ref d0, .ref c0, .ref ta0, .int km, .int rf])), (h0, .inr (3, [.ref h1, .int (nI K)])), (h1, .inl (cI, 16, .inl f)), (kp0, .inl (cN, 5, .inr (.inr (.inr (.inr kf)))))] s.heap.size = A at hD ⊢
  have hA : ∀ q : Nat, s.heap.size ≤ q → A q := fun q h => by rw [← hAe]; exact Or.inr h
  have hS : va_S A s.heap s.heap [] := va_S.rf
  have hl := lv_entry ([.ref s0]) (n := 3) (Nat.le_of_ble_eq_true rfl)
  rw [lg_entry_eq]
  generalize (lg_sl ([.ref s0]) ++ List.replicate (3 - (lg_sl ([.ref s0])).length) Slot.unset).toArray = ls at hl ⊢
  have hl : lv_has ls 3 [(0, .ref s0)] := hl
  obtain ⟨ρ, hρ⟩ : ∃ ρ : Int32 ⊕ Nat, ρ = P_keep K f km := ⟨_, rfl⟩
  have hr : P_keep K f km = ρ := hρ.symm
  rewrite [P_keep] at hr
  refine lv_aload_n hx hb dX6_keep_0 rfl (lv_at hl 0 rfl) ?_
  refine va_get (D := (dC, dI)) (ci := 5) (v := .ref h0) (C := RX6) (T := TX6) (N := 10) hx hb hts (by decide +kernel) hown hK hP 0 rfl rfl 0 (by decide) (hts (.fieldLink RX6 12 "Shortring" "net" "LShortring$Net;") (by decide +kernel)) (fun _ h9 => h9) rfl dX6_keep_1 ?_
  refine va_getN (D := (dC, dI)) (ci := 3) (v := .int (nI K)) (C := RX3) (T := TX3) (N := 2) hx hb hts (by decide +kernel) hown hK hP 1 rfl rfl 1 (by decide) (va_Nw.use rfl (hN.2 0 _ rfl)) (fun _ h9 => h9) rfl dX6_keep_4 ?_
  refine lv_if_eq (tgt := 29) hx hb dX6_keep_7 (by decide) (fun c_1 => ?_) (fun c_1 => ?_)
  · have hr := if_to hr c_1
    cases hr.trans (hρ.trans hok)
  · have hr := if_no hr c_1
    refine lv_aload_n hx hb dX6_keep_10 rfl (lv_at hl 0 rfl) ?_
    refine va_get (D := (dC, dI)) (ci := 5) (v := .int km) (C := RX6) (T := TX6) (N := 10) hx hb hts (by decide +kernel) hown hK hP 0 rfl rfl 8 (by decide) (hts (.fieldLink RX6 55 "Shortring" "keptMany" "I") (by decide +kernel)) (fun _ h9 => h9) rfl dX6_keep_11 ?_
    refine lv_if_lt (tgt := 29) hx hb dX6_keep_14 (by decide) (fun c_2 => ?_) (fun c_2 => ?_)
    · have hr := if_to hr c_2
      cases hr.trans (hρ.trans hok)
    · have hr := if_no hr c_2
      refine lv_aload_n hx hb dX6_keep_17 rfl (lv_at hl 0 rfl) ?_
      refine va_get (D := (dC, dI)) (ci := 5) (v := .int km) (C := RX6) (T := TX6) (N := 10) hx hb hts (by decide +kernel) hown hK hP 0 rfl rfl 8 (by decide) (hts (.fieldLink RX6 55 "Shortring" "keptMany" "I") (by decide +kernel)) (fun _ h9 => h9) rfl dX6_keep_18 ?_
      refine lv_aload_n hx hb dX6_keep_21 rfl (lv_at hl 0 rfl) ?_
      refine va_get (D := (dC, dI)) (ci := 5) (v := .ref kp0) (C := RX6) (T := TX6) (N := 10) hx hb hts (by decide +kernel) hown hK hP 0 rfl rfl 2 (by decide) (hts (.fieldLink RX6 19 "Shortring" "kept" "[LShortring$Net;") (by decide +kernel)) (fun _ h9 => h9) rfl dX6_keep_22 ?_
      refine va_alen (v := 5) hx hb hK hP 3 1 rfl rfl rfl dX6_keep_25 ?_
      refine lv_icmp_lt (tgt := 40) hx hb dX6_keep_26 (by decide) (fun c_3 => ?_) (fun c_3 => ?_)
      · have hr := if_to hr c_3
        refine va_new (ci := 3) (fs := [.null, .int 0]) (C := RX3) (T := TX3) (N := 2) hx hb hts (by decide +kernel) tyX3 tyX3_ok hown (hts (.classLink RX6 9 RX3) (by decide +kernel)) (hts (.instantiable RX3 2) (by decide +kernel)) (hts (.initialized RX3) (by decide +kernel)) hK hP hD hS hA rfl (fun j hj => by rcases (show j = 0 ∨ j = 1 by omega) with rfl | rfl <;> rfl) (Nat.le_of_ble_eq_true rfl) (Nat.le_of_ble_eq_true rfl) dX6_keep_40 (fun w_1 H hP hD hS => ?_)
        have hP : va_P (dC, dI) kCl [(s0, .inr (5, [.ref h0, .ref sc0, .ref kp0, .ref a0, .ref q0, .ref d0, .ref c0, .ref ta0, .int km, .int rf])), (h0, .inr (3, [.ref h1, .int (nI K)])), (h1, .inl (cI, 16, .inl f)), (kp0, .inl (cN, 5, .inr (.inr (.inr (.inr kf))))), (w_1, .inr (3, [.null, .int 0]))] H := hP
        have hD : va_D A [(s0, .inr (5, [.ref h0, .ref sc0, .ref kp0, .ref a0, .ref q0, .ref d0, .ref c0, .ref ta0, .int km, .int rf])), (h0, .inr (3, [.ref h1, .int (nI K)])), (h1, .inl (cI, 16, .inl f)), (kp0, .inl (cN, 5, .inr (.inr (.inr (.inr kf))))), (w_1, .inr (3, [.null, .int 0]))] := hD
        refine lv_dup hx hb dX6_keep_43 rfl ?_
        refine kCallN (wr := [(s0, .inr (5, [.ref h0, .ref sc0, .ref kp0, .ref a0, .ref q0, .ref d0, .ref c0, .ref ta0, .int km, .int rf])), (h0, .inr (3, [.ref h1, .int (nI K)])), (h1, .inl (cI, 16, .inl f)), (kp0, .inl (cN, 5, .inr (.inr (.inr (.inr kf)))))]) (va_runIN (As := []) (rest := [.ref w_1]) ⟨hx, hb, hml, hown, hts⟩ (k_X3_init l dC dI cI cN w_1 _) ⟨va_cnB 0 hts gX6_keep_X3_init_n11 rfl rfl rfl (hN.1 0 _ rfl) (hts (.initialized RX3) (by decide +kernel)) (by decide +kernel) ⟨Nat.le_of_ble_eq_true rfl, Nat.le_of_ble_eq_true rfl⟩, rfl, hts (.instanceMethod yX3_init) (by decide +kernel)⟩ (kU_S hP hK hD hN [4] rfl rfl rfl) rfl rfl hl.1 rfl (lv_room (Nat.le_of_ble_eq_true rfl)) dX6_keep_44 ⟨Nat.le_of_ble_eq_true rfl, Nat.le_of_ble_eq_true rfl⟩) hP hD hS hA [4] [0, 1, 2, 3] rfl rfl rfl (by decide) (fun H locs w9 hw9 hP hD hS => ?_)
        obtain ⟨w_2, rfl⟩ := hw9
        have hP : va_P (dC, dI) kCl [(s0, .inr (5, [.ref h0, .ref sc0, .ref kp0, .ref a0, .ref q0, .ref d0, .ref c0, .ref ta0, .int km, .int rf])), (h0, .inr (3, [.ref h1, .int (nI K)])), (h1, .inl (cI, 16, .inl f)), (kp0, .inl (cN, 5, .inr (.inr (.inr (.inr kf))))), (w_1, .inr (3, [.ref w_2, .int 0])), (w_2, .inl (cI, 16, .inl (fun _ => 0)))] H := hP
        have hD : va_D A [(s0, .inr (5, [.ref h0, .ref sc0, .ref kp0, .ref a0, .ref q0, .ref d0, .ref c0, .ref ta0, .int km, .int rf])), (h0, .inr (3, [.ref h1, .int (nI K)])), (h1, .inl (cI, 16, .inl f)), (kp0, .inl (cN, 5, .inr (.inr (.inr (.inr kf))))), (w_1, .inr (3, [.ref w_2, .int 0])), (w_2, .inl (cI, 16, .inl (fun _ => 0)))] := hD
        refine lv_astore_n (lv' := [(1, .ref w_1), (0, .ref s0)]) hx hb dX6_keep_47 rfl hl (by decide) rfl (fun ls hl => ?_)
        refine lv_aload_n hx hb dX6_keep_48 rfl (lv_at hl 0 rfl) ?_
        refine lv_aload_n hx hb dX6_keep_49 rfl (lv_at hl 1 rfl) ?_
        refine va_get (D := (dC, dI)) (ci := 5) (v := .ref h0) (C := RX6) (T := TX6) (N := 10) hx hb hts (by decide +kernel) hown hK hP 0 rfl rfl 0 (by decide) (hts (.fieldLink RX6 12 "Shortring" "net" "LShortring$Net;") (by decide +kernel)) (fun _ h9 => h9) rfl dX6_keep_50 ?_
        refine kCallV (wr := [(s0, .inr (5, [.ref h0, .ref sc0, .ref kp0, .ref a0, .ref q0, .ref d0, .ref c0, .ref ta0, .int km, .int rf])), (kp0, .inl (cN, 5, .inr (.inr (.inr (.inr kf)))))]) (va_runVN (As := [.ref h0]) (rest := []) ⟨hx, hb, hml, hown, hts⟩ (k_X3_take l dC dI cI cN w_1 w_2 0 (fun _ => 0) h0 h1 K f (by first | assumption | omega | exact Int32.le_refl _ | decide) _) ⟨va_cnB 1 hts gX6_keep_X3_take_n144 rfl rfl rfl (hN.1 14 _ rfl) (hts (.initialized RX3) (by decide +kernel)) (by decide +kernel) ⟨Nat.le_of_ble_eq_true rfl, Nat.le_of_ble_eq_true rfl⟩, hts (.instanceMethod yX3_take) (by decide +kernel), hts (.selects RX3 yX3_take yX3_take) (by decide +kernel)⟩ (kU_V hP hK hD hN (ci := 3) (q0 := 4) rfl rfl [4, 5, 1, 2] rfl rfl rfl) rfl rfl hl.1 rfl (lv_room (Nat.le_of_ble_eq_true rfl)) dX6_keep_53 ⟨Nat.le_of_ble_eq_true rfl, Nat.le_of_ble_eq_true rfl⟩) hP hD hS hA [4, 5, 1, 2] [0, 3] rfl rfl rfl rfl (by decide) rfl (fun H locs hP hD hS => ?_)
        obtain ⟨r_4, er_4⟩ : ∃ y : Nat → Int32, y = (P_take (fun _ => 0) f) := ⟨_, rfl⟩
        try rw [← er_4] at hP hD
        have hr := bd_to hr er_4
        have hP : va_P (dC, dI) kCl [(s0, .inr (5, [.ref h0, .ref sc0, .ref kp0, .ref a0, .ref q0, .ref d0, .ref c0, .ref ta0, .int km, .int rf])), (h0, .inr (3, [.ref h1, .int (nI K)])), (h1, .inl (cI, 16, .inl f)), (kp0, .inl (cN, 5, .inr (.inr (.inr (.inr kf))))), (w_1, .inr (3, [.ref w_2, .int (nI K)])), (w_2, .inl (cI, 16, .inl r_4))] H := hP.sub [0, 4, 5, 1, 2, 3] rfl
        have hD : va_D A [(s0, .inr (5, [.ref h0, .ref sc0, .ref kp0, .ref a0, .ref q0, .ref d0, .ref c0, .ref ta0, .int km, .int rf])), (h0, .inr (3, [.ref h1, .int (nI K)])), (h1, .inl (cI, 16, .inl f)), (kp0, .inl (cN, 5, .inr (.inr (.inr (.inr kf))))), (w_1, .inr (3, [.ref w_2, .int (nI K)])), (w_2, .inl (cI, 16, .inl r_4))] := hD.sub [0, 4, 5, 1, 2, 3] (by decide) rfl
        refine lv_aload_n hx hb dX6_keep_56 rfl (lv_at hl 1 rfl) ?_
        refine va_get (D := (dC, dI)) (ci := 5) (v := .int km) (C := RX6) (T := TX6) (N := 10) hx hb hts (by decide +kernel) hown hK hP 0 rfl rfl 8 (by decide) (hts (.fieldLink RX6 55 "Shortring" "keptMany" "I") (by decide +kernel)) (fun _ h9 => h9) rfl dX6_keep_57 ?_
        refine lv_istore_n (lv' := [(2, .int km), (1, .ref w_1), (0, .ref s0)]) hx hb dX6_keep_60 rfl hl (by decide) rfl (fun ls hl => ?_)
        refine lv_aload_n hx hb dX6_keep_61 rfl (lv_at hl 2 rfl) ?_
        refine va_get (D := (dC, dI)) (ci := 5) (v := .ref kp0) (C := RX6) (T := TX6) (N := 10) hx hb hts (by decide +kernel) hown hK hP 0 rfl rfl 2 (by decide) (hts (.fieldLink RX6 19 "Shortring" "kept" "[LShortring$Net;") (by decide +kernel)) (fun _ h9 => h9) rfl dX6_keep_62 ?_
        refine lv_iload_n hx hb dX6_keep_65 rfl (lv_at hl 0 rfl) ?_
        refine lv_aload_n hx hb dX6_keep_66 rfl (lv_at hl 1 rfl) ?_
        refine va_astq hx hb hK hP hD hS 3 1 4 3 rfl rfl rfl rfl (kIn2 (N := 5) (by decide) (kNlt (by assumption)) (by assumption)) dX6_keep_67 (fun H locs hP hD hS => ?_)
        have hP : va_P (dC, dI) kCl [(s0, .inr (5, [.ref h0, .ref sc0, .ref kp0, .ref a0, .ref q0, .ref d0, .ref c0, .ref ta0, .int km, .int rf])), (h0, .inr (3, [.ref h1, .int (nI K)])), (h1, .inl (cI, 16, .inl f)), (kp0, .inl (cN, 5, .inr (.inr (.inr (.inr (va_up kf (km).toNatClampNeg (some w_1))))))), (w_1, .inr (3, [.ref w_2, .int (nI K)])), (w_2, .inl (cI, 16, .inl r_4))] H := hP
        have hD : va_D A [(s0, .inr (5, [.ref h0, .ref sc0, .ref kp0, .ref a0, .ref q0, .ref d0, .ref c0, .ref ta0, .int km, .int rf])), (h0, .inr (3, [.ref h1, .int (nI K)])), (h1, .inl (cI, 16, .inl f)), (kp0, .inl (cN, 5, .inr (.inr (.inr (.inr (va_up kf (km).toNatClampNeg (some w_1))))))), (w_1, .inr (3, [.ref w_2, .int (nI K)])), (w_2, .inl (cI, 16, .inl r_4))] := hD
        refine lv_aload_n hx hb dX6_keep_68 rfl (lv_at hl 2 rfl) ?_
        refine lv_dup hx hb dX6_keep_69 rfl ?_
        refine va_get (D := (dC, dI)) (ci := 5) (v := .int km) (C := RX6) (T := TX6) (N := 10) hx hb hts (by decide +kernel) hown hK hP 0 rfl rfl 8 (by decide) (hts (.fieldLink RX6 55 "Shortring" "keptMany" "I") (by decide +kernel)) (fun _ h9 => h9) rfl dX6_keep_70 ?_
        refine lv_iconst (v := 1) hx hb dX6_keep_73 (by decide) ?_
        refine lv_iadd hx hb dX6_keep_74 ?_
        refine va_put (D := (dC, dI)) (ci := 5) (v := .int (km + (1 : Int32))) (ty := .int) (C := RX6) (T := TX6) (N := 10) hx hb hts (by decide +kernel) tyX6 tyX6_ok nmX6 hown hK hP hD hS 0 rfl rfl 8 (by decide) (hts (.fieldLink RX6 55 "Shortring" "keptMany" "I") (by decide +kernel)) (fun _ h9 => h9) rfl (by decide +kernel) rfl rfl (Nat.le_of_ble_eq_true rfl) dX6_keep_75 (fun H locs hP hD hS => ?_)
        have hP : va_P (dC, dI) kCl [(s0, .inr (5, [.ref h0, .ref sc0, .ref kp0, .ref a0, .ref q0, .ref d0, .ref c0, .ref ta0, .int (km + (1 : Int32)), .int rf])), (h0, .inr (3, [.ref h1, .int (nI K)])), (h1, .inl (cI, 16, .inl f)), (kp0, .inl (cN, 5, .inr (.inr (.inr (.inr (va_up kf (km).toNatClampNeg (some w_1))))))), (w_1, .inr (3, [.ref w_2, .int (nI K)])), (w_2, .inl (cI, 16, .inl r_4))] H := hP
        have hD : va_D A [(s0, .inr (5, [.ref h0, .ref sc0, .ref kp0, .ref a0, .ref q0, .ref d0, .ref c0, .ref ta0, .int (km + (1 : Int32)), .int rf])), (h0, .inr (3, [.ref h1, .int (nI K)])), (h1, .inl (cI, 16, .inl f)), (kp0, .inl (cN, 5, .inr (.inr (.inr (.inr (va_up kf (km).toNatClampNeg (some w_1))))))), (w_1, .inr (3, [.ref w_2, .int (nI K)])), (w_2, .inl (cI, 16, .inl r_4))] := hD
        refine lv_iload_n hx hb dX6_keep_78 rfl (lv_at hl 0 rfl) ?_
        have he := Sum.inl.inj (hr.trans (hρ.trans hok))
        subst he
        refine W.widen (k := 2) (n := 18) (Nat.le_of_ble_eq_true rfl) (Nat.le_of_ble_eq_true rfl) ?_
        exact W.iret (v := km) hx hb hr0 (fun t ht hW => kNI_end rfl ⟨w_1, w_2, r_4, er_4, rfl⟩ hP hD hS ht) hS.2.2 dX6_keep_79
      · have hr := if_no hr c_3
        cases hr.trans (hρ.trans hok)
theorem gfX6_keep_3 : ∀ w ∈ (vx_atS RX6 110 (kCls 3) kNs).filter goodWord, w ∈ wsX6_keep := fun w h => List.mem_cons_of_mem _ (List.mem_append_right _ h)
abbrev rx_X6_keep : Room := { frames := 6, cells := 1, slots := 6, locals := 82 }
set_option maxHeartbeats 4000000 in
set_option maxRecDepth 100000 in
theorem e_X6_keep (l : Launch) (hl9 : l.stackTraces = false) (dC : Nat → ClassId) (dI : Nat → Nat → Nat) (cI cN : ClassId) (s0 : Nat) (sc0 : Nat) (kp0 : Nat) (ta0 : Nat) (km : Int32) (rf : Int32) (a0 : Nat) (q0 : Nat) (d0 : Nat) (c0 : Nat) (h0 : Nat) (h1 : Nat) (K : Nat) (f : Nat → Int32) (kf : Nat → Option Nat) (hK : K ≤ 16) (kx : Nat) (hex : P_keep K f km = .inr kx) : vx_Met l yX6_keep wsX6_keep rx_X6_keep (va_Pc [.ref s0] (kWE dC dI cI cN [(s0, .inr (5, [.ref h0, .ref sc0, .ref kp0, .ref a0, .ref q0, .ref d0, .ref c0, .ref ta0, .int km, .int rf])), (h0, .inr (3, [.ref h1, .int (nI K)])), (h1, .inl (cI, 16, .inl f)), (kp0, .inl (cN, 5, .inr (.inr (.inr (.inr kf)))))])) kNoi (kX kx) 1 6 (fun _ => False) := by
  refine vx_ofW (cc := cX6_keep) (maxL := 3) (ret := (some .int)) (by decide) rfl ?_
  intro p e s m args below meth c s₁ B hml hxt hv
  obtain ⟨rfl, ⟨hP, hK, hD, hN⟩, hE⟩ := hv
  have hx := B.exec
  have hb := B.bytes
  have hr0 := B.returns
  have hts := atoms_spec (ws := wsX6_keep) B.pre
  have hown : s.vm.findClass RX6 = some m.cls := findClass_of_methodNamed B.named
  have hlocks := B.notSynchronized
  have hS : va_S (fun _ => False) s.heap s.heap [] := va_S.rf
  have hl := lv_entry ([.ref s0]) (n := 3) (Nat.le_of_ble_eq_true rfl)
  rw [lg_entry_eq]
  generalize (lg_sl ([.ref s0]) ++ List.replicate (3 - (lg_sl ([.ref s0])).length) Slot.unset).toArray = ls at hl ⊢
  have hl : lv_has ls 3 [(0, .ref s0)] := hl
  obtain ⟨ρ, hρ⟩ : ∃ ρ : Int32 ⊕ Nat, ρ = P_keep K f km := ⟨_, rfl⟩
  have hr : P_keep K f km = ρ := hρ.symm
  rewrite [P_keep] at hr
  refine lv_aload_n hx hb dX6_keep_0 rfl (lv_at hl 0 rfl) ?_
  refine va_get (D := (dC, dI)) (ci := 5) (v := .ref h0) (C := RX6) (T := TX6) (N := 10) hx hb hts (by decide +kernel) hown hK hP 0 rfl rfl 0 (by decide) (hts (.fieldLink RX6 12 "Shortring" "net" "LShortring$Net;") (by decide +kernel)) (fun _ h9 => h9) rfl dX6_keep_1 ?_
  refine va_getN (D := (dC, dI)) (ci := 3) (v := .int (nI K)) (C := RX3) (T := TX3) (N := 2) hx hb hts (by decide +kernel) hown hK hP 1 rfl rfl 1 (by decide) (va_Nw.use rfl (hN.2 0 _ rfl)) (fun _ h9 => h9) rfl dX6_keep_4 ?_
  refine lv_if_eq (tgt := 29) hx hb dX6_keep_7 (by decide) (fun c_1 => ?_) (fun c_1 => ?_)
  · have hr := if_to hr c_1
    exact kThrowSW hx hb hl9 hown 3 (ik := 106) (is := 309) (ic := 110) (Sum.inr.inj (hr.trans (hρ.trans hex))) (by decide +kernel) (hts (.classLink RX6 106 "java/lang/IllegalStateException") (by decide +kernel)) (hts (.initialized "java/lang/IllegalStateException") (by decide +kernel)) 20 rfl (fun w h => hts w (gfX6_keep_3 w h)) kBad3 (kHg kOt3) hE hS (hl.1.trans hml.symm) dX6_keep_29 dX6_keep_32 dX6_keep_33 dX6_keep_36 dX6_keep_39 hxt (Nat.le_of_ble_eq_true rfl) (Nat.le_of_ble_eq_true rfl) (Nat.le_of_ble_eq_true rfl) (Nat.le_of_ble_eq_true rfl) hlocks
  · have hr := if_no hr c_1
    refine lv_aload_n hx hb dX6_keep_10 rfl (lv_at hl 0 rfl) ?_
    refine va_get (D := (dC, dI)) (ci := 5) (v := .int km) (C := RX6) (T := TX6) (N := 10) hx hb hts (by decide +kernel) hown hK hP 0 rfl rfl 8 (by decide) (hts (.fieldLink RX6 55 "Shortring" "keptMany" "I") (by decide +kernel)) (fun _ h9 => h9) rfl dX6_keep_11 ?_
    refine lv_if_lt (tgt := 29) hx hb dX6_keep_14 (by decide) (fun c_2 => ?_) (fun c_2 => ?_)
    · have hr := if_to hr c_2
      exact kThrowSW hx hb hl9 hown 3 (ik := 106) (is := 309) (ic := 110) (Sum.inr.inj (hr.trans (hρ.trans hex))) (by decide +kernel) (hts (.classLink RX6 106 "java/lang/IllegalStateException") (by decide +kernel)) (hts (.initialized "java/lang/IllegalStateException") (by decide +kernel)) 20 rfl (fun w h => hts w (gfX6_keep_3 w h)) kBad3 (kHg kOt3) hE hS (hl.1.trans hml.symm) dX6_keep_29 dX6_keep_32 dX6_keep_33 dX6_keep_36 dX6_keep_39 hxt (Nat.le_of_ble_eq_true rfl) (Nat.le_of_ble_eq_true rfl) (Nat.le_of_ble_eq_true rfl) (Nat.le_of_ble_eq_true rfl) hlocks
    · have hr := if_no hr c_2
      refine lv_aload_n hx hb dX6_keep_17 rfl (lv_at hl 0 rfl) ?_
      refine va_get (D := (dC, dI)) (ci := 5) (v := .int km) (C := RX6) (T := TX6) (N := 10) hx hb hts (by decide +kernel) hown hK hP 0 rfl rfl 8 (by decide) (hts (.fieldLink RX6 55 "Shortring" "keptMany" "I") (by decide +kernel)) (fun _ h9 => h9) rfl dX6_keep_18 ?_
      refine lv_aload_n hx hb dX6_keep_21 rfl (lv_at hl 0 rfl) ?_
      refine va_get (D := (dC, dI)) (ci := 5) (v := .ref kp0) (C := RX6) (T := TX6) (N := 10) hx hb hts (by decide +kernel) hown hK hP 0 rfl rfl 2 (by decide) (hts (.fieldLink RX6 19 "Shortring" "kept" "[LShortring$Net;") (by decide +kernel)) (fun _ h9 => h9) rfl dX6_keep_22 ?_
      refine va_alen (v := 5) hx hb hK hP 3 1 rfl rfl rfl dX6_keep_25 ?_
      refine lv_icmp_lt (tgt := 40) hx hb dX6_keep_26 (by decide) (fun c_3 => ?_) (fun c_3 => ?_)
      · have hr := if_to hr c_3
        exact kNoway (hr.trans (hρ.trans hex)) (by simp only [bd]; (repeat' split) <;> exact ⟨_, rfl⟩)
      · have hr := if_no hr c_3
        exact kThrowSW hx hb hl9 hown 3 (ik := 106) (is := 309) (ic := 110) (Sum.inr.inj (hr.trans (hρ.trans hex))) (by decide +kernel) (hts (.classLink RX6 106 "java/lang/IllegalStateException") (by decide +kernel)) (hts (.initialized "java/lang/IllegalStateException") (by decide +kernel)) 20 rfl (fun w h => hts w (gfX6_keep_3 w h)) kBad3 (kHg kOt3) hE hS (hl.1.trans hml.symm) dX6_keep_29 dX6_keep_32 dX6_keep_33 dX6_keep_36 dX6_keep_39 hxt (Nat.le_of_ble_eq_true rfl) (Nat.le_of_ble_eq_true rfl) (Nat.le_of_ble_eq_true rfl) (Nat.le_of_ble_eq_true rfl) hlocks
