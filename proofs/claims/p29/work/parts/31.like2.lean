/-! likeness of whole nets (printed by wip/gen) -/
def L_turnsOf_32 (K : Nat) (k : Int32 → Int32 → (Nat → Int32) → (Nat → Int32) → (Nat → Int32) → Int32 → Int32 × Nat × (Nat → Int32) × Nat × (Nat → Int32) × (Nat → Int32) × Int32) : Nat → Nat → Int32 → Int32 → (Nat → Int32) → (Nat → Int32) → (Nat → Int32) → Int32 → Int32 × Nat × (Nat → Int32) × Nat × (Nat → Int32) × (Nat → Int32) × Int32
  | 0, knot, turns, seen, fa, fb, ia, pa => k turns seen fa fb ia pa
  | n + 1, knot, turns, seen, fa, fb, ia, pa =>
    if (P_holds seen (nI knot)) = 0 then
      bd (P_partWith fa (nI knot)) (fun part_1 =>
        bd (P_partsLike fa K K fb ia pa part_1 seen) (fun r_2 =>
          bd ((1 : Int32) + r_2.1) (fun places_3 =>
            bd (if (turns * places_3) < (1000 : Int32) then (turns * places_3) else (1000 : Int32)) (fun turns_4 =>
              bd (P_waysOf fa K K fb r_2.2.1 r_2.2.2 part_1 part_1 1000) (fun r_5 =>
                bd (if (turns_4 * r_5.1) < (1000 : Int32) then (turns_4 * r_5.1) else (1000 : Int32)) (fun turns_6 =>
                  bd (seen ||| part_1) (fun seen_7 =>
                    L_turnsOf_32 K k n (knot + 1) turns_6 seen_7 fa fb r_5.2.1 r_5.2.2)))))))
    else
      L_turnsOf_32 K k n (knot + 1) turns seen fa fb ia pa
def P_turnsOf (KF : Nat) (ff : Nat → Int32) (KT : Nat) (tf : Nat → Int32) (im : Nat → Int32) (pl : Int32) (K : Nat) (f : Nat → Int32) : Int32 × Nat × (Nat → Int32) × Nat × (Nat → Int32) × (Nat → Int32) × Int32 :=
  if (nI K) = 0 then
    (0, KF, ff, KT, tf, im, pl)
  else
    bd (P_take ff f) (fun r_2 =>
      bd (P_take tf f) (fun r_3 =>
        L_turnsOf_32 K (fun turns seen fa fb ia pa => (turns, K, fa, K, fb, ia, pa)) K 0 1 0 r_2 r_3 im pl))
abbrev rm_X2_turnsOf : Room := { frames := 21, cells := 0, slots := 0, locals := 573 }
set_option maxHeartbeats 4000000 in
set_option maxRecDepth 100000 in
theorem k_X2_turnsOf (l : Launch) (dC : Nat → ClassId) (dI : Nat → Nat → Nat) (cI cN : ClassId) (d0 : Nat) (f0 : Nat) (f1 : Nat) (t0 : Nat) (t1 : Nat) (d1 : Nat) (KF : Nat) (ff : Nat → Int32) (KT : Nat) (tf : Nat → Int32) (im : Nat → Int32) (pl : Int32) (h0 : Nat) (h1 : Nat) (K : Nat) (f : Nat → Int32) (hK : K ≤ 16) (sz : Nat) : Met l yX2_turnsOf wsX2_turnsOf rm_X2_turnsOf (va_Pc [.ref d0, .ref h0] (kU dC dI cI cN [(d0, .inr (2, [.ref f0, .ref t0, .ref d1, .int pl])), (f0, .inr (3, [.ref f1, .int (nI KF)])), (f1, .inl (cI, 16, .inl ff)), (t0, .inr (3, [.ref t1, .int (nI KT)])), (t1, .inl (cI, 16, .inl tf)), (d1, .inl (cI, 16, .inl im)), (h0, .inr (3, [.ref h1, .int (nI K)])), (h1, .inl (cI, 16, .inl f))] sz)) (kVi dC dI (P_turnsOf KF ff KT tf im pl K f).1 [(d0, .inr (2, [.ref f0, .ref t0, .ref d1, .int ((P_turnsOf KF ff KT tf im pl K f).2.2.2.2.2.2)])), (f0, .inr (3, [.ref f1, .int (nI ((P_turnsOf KF ff KT tf im pl K f).2.1))])), (f1, .inl (cI, 16, .inl ((P_turnsOf KF ff KT tf im pl K f).2.2.1))), (t0, .inr (3, [.ref t1, .int (nI ((P_turnsOf KF ff KT tf im pl K f).2.2.2.1))])), (t1, .inl (cI, 16, .inl ((P_turnsOf KF ff KT tf im pl K f).2.2.2.2.1))), (d1, .inl (cI, 16, .inl ((P_turnsOf KF ff KT tf im pl K f).2.2.2.2.2.1))), (h0, .inr (3, [.ref h1, .int (nI K)])), (h1, .inl (cI, 16, .inl f))] (va_A [(d0, .inr (2, [.ref f0, .ref t0, .ref d1, .int pl])), (f0, .inr (3, [.ref f1, .int (nI KF)])), (f1, .inl (cI, 16, .inl ff)), (t0, .inr (3, [.ref t1, .int (nI KT)])), (t1, .inl (cI, 16, .inl tf)), (d1, .inl (cI, 16, .inl im)), (h0, .inr (3, [.ref h1, .int (nI K)])), (h1, .inl (cI, 16, .inl f))] sz)) 0 0 (va_A [(d0, .inr (2, [.ref f0, .ref t0, .ref d1, .int pl])), (f0, .inr (3, [.ref f1, .int (nI KF)])), (f1, .inl (cI, 16, .inl ff)), (t0, .inr (3, [.ref t1, .int (nI KT)])), (t1, .inl (cI, 16, .inl tf)), (d1, .inl (cI, 16, .inl im)), (h0, .inr (3, [.ref h1, .int (nI K)])), (h1, .inl (cI, 16, .inl f))] sz) := by
  refine Met.ofW (cc := cX2_turnsOf) (maxL := 7) (ret := (some .int)) (by decide) rfl ?_
  intro p e s m args below meth c s₁ B hml hv
  obtain ⟨rfl, hsz, hP, hK, hD0, hN⟩ := hv
  have hx := B.exec
  have hb := B.bytes
  have hr0 := B.returns
  have hts := atoms_spec (ws := wsX2_turnsOf) B.pre
  have hown : s.vm.findClass RX2 = some m.cls := findClass_of_methodNamed B.named
  have hlocks := B.notSynchronized
  subst hsz
  have hD := hD0.self (sz := s.heap.size)
  generalize hAe : va_A [(d0, .inr (2, [.ref f0, .ref t0, .ref d1, .int pl])), (f0, .inr (3, [.ref f1, .int (nI KF)])), (f1, .inl (cI, 16, .inl ff)), (t0, .inr (3, [.ref t1, .int (nI KT)])), (t1, .inl (cI, 16, .inl tf)), (d1, .inl (cI, 16, .inl im)), (h0, .inr (3, [.ref h1, .int (nI K)])), (h1, .inl (cI, 16, .inl f))] s.heap.size = A at hD ⊢
  have hA : ∀ q : Nat, s.heap.size ≤ q → A q := fun q h => by rw [← hAe]; exact Or.inr h
  have hS : va_S A s.heap s.heap [] := va_S.rf
  have hl := lv_entry ([.ref d0, .ref h0]) (n := 7) (Nat.le_of_ble_eq_true rfl)
  rw [lg_entry_eq]
  generalize (lg_sl ([.ref d0, .ref h0]) ++ List.replicate (7 - (lg_sl ([.ref d0, .ref h0])).length) Slot.unset).toArray = ls at hl ⊢
  have hl : lv_has ls 7 [(0, .ref d0), (1, .ref h0)] := hl
  obtain ⟨ρ, hρ⟩ : ∃ ρ : Int32 × Nat × (Nat → Int32) × Nat × (Nat → Int32) × (Nat → Int32) × Int32, ρ = P_turnsOf KF ff KT tf im pl K f := ⟨_, rfl⟩
  have hr : P_turnsOf KF ff KT tf im pl K f = ρ := hρ.symm
  rewrite [P_turnsOf] at hr
  refine lv_aload_n hx hb dX2_turnsOf_0 rfl (lv_at hl 1 rfl) ?_
  refine va_getN (D := (dC, dI)) (ci := 3) (v := .int (nI K)) (C := RX3) (T := TX3) (N := 2) hx hb hts (by decide +kernel) hown hK hP 6 rfl rfl 1 (by decide) (va_Nw.use rfl (hN.2 10 _ rfl)) (fun _ h9 => h9) rfl dX2_turnsOf_1 ?_
  refine lv_if_ne (tgt := 9) hx hb dX2_turnsOf_4 (by decide) (fun c_1 => ?_) (fun c_1 => ?_)
  · have hr := if_no hr c_1
    refine lv_aload_n hx hb dX2_turnsOf_9 rfl (lv_at hl 0 rfl) ?_
    refine va_get (D := (dC, dI)) (ci := 2) (v := .ref f0) (C := RX2) (T := TX2) (N := 4) hx hb hts (by decide +kernel) hown hK hP 0 rfl rfl 0 (by decide) (hts (.fieldLink RX2 12 "Shortring$Likeness" "from" "LShortring$Net;") (by decide +kernel)) (fun _ h9 => h9) rfl dX2_turnsOf_10 ?_
    refine lv_aload_n hx hb dX2_turnsOf_13 rfl (lv_at hl 1 rfl) ?_
    refine kCallV (wr := [(d0, .inr (2, [.ref f0, .ref t0, .ref d1, .int pl])), (t0, .inr (3, [.ref t1, .int (nI KT)])), (t1, .inl (cI, 16, .inl tf)), (d1, .inl (cI, 16, .inl im))]) (va_runVN (As := [.ref h0]) (rest := []) ⟨hx, hb, hml, hown, hts⟩ (k_X3_take l dC dI cI cN f0 f1 KF ff h0 h1 K f (by first | assumption | omega | exact Int32.le_refl _ | decide) _) ⟨va_cnB 1 hts gX2_turnsOf_X3_take_n32 rfl rfl rfl (hN.1 55 _ rfl) (hts (.initialized RX3) (by decide +kernel)) (by decide +kernel) ⟨Nat.le_of_ble_eq_true rfl, Nat.le_of_ble_eq_true rfl⟩, hts (.instanceMethod yX3_take) (by decide +kernel), hts (.selects RX3 yX3_take yX3_take) (by decide +kernel)⟩ (kU_V hP hK hD hN (ci := 3) (q0 := 1) rfl rfl [1, 2, 6, 7] rfl rfl rfl) rfl rfl hl.1 rfl (lv_room (Nat.le_of_ble_eq_true rfl)) dX2_turnsOf_14 ⟨Nat.zero_le _, Nat.zero_le _⟩) hP hD hS hA [1, 2, 6, 7] [0, 3, 4, 5] rfl rfl rfl rfl (by decide) rfl (fun H locs hP hD hS => ?_)
    obtain ⟨r_2, er_2⟩ : ∃ y : Nat → Int32, y = (P_take ff f) := ⟨_, rfl⟩
    try rw [← er_2] at hP hD
    have hr := bd_to hr er_2
    have hP : va_P (dC, dI) kCl [(d0, .inr (2, [.ref f0, .ref t0, .ref d1, .int pl])), (f0, .inr (3, [.ref f1, .int (nI K)])), (f1, .inl (cI, 16, .inl r_2)), (t0, .inr (3, [.ref t1, .int (nI KT)])), (t1, .inl (cI, 16, .inl tf)), (d1, .inl (cI, 16, .inl im)), (h0, .inr (3, [.ref h1, .int (nI K)])), (h1, .inl (cI, 16, .inl f))] H := hP.sub [0, 4, 5, 1, 2, 3, 6, 7] rfl
    have hD : va_D A [(d0, .inr (2, [.ref f0, .ref t0, .ref d1, .int pl])), (f0, .inr (3, [.ref f1, .int (nI K)])), (f1, .inl (cI, 16, .inl r_2)), (t0, .inr (3, [.ref t1, .int (nI KT)])), (t1, .inl (cI, 16, .inl tf)), (d1, .inl (cI, 16, .inl im)), (h0, .inr (3, [.ref h1, .int (nI K)])), (h1, .inl (cI, 16, .inl f))] := hD.sub [0, 4, 5, 1, 2, 3, 6, 7] (by decide) rfl
    refine lv_aload_n hx hb dX2_turnsOf_17 rfl (lv_at hl 0 rfl) ?_
    refine va_get (D := (dC, dI)) (ci := 2) (v := .ref t0) (C := RX2) (T := TX2) (N := 4) hx hb hts (by decide +kernel) hown hK hP 0 rfl rfl 1 (by decide) (hts (.fieldLink RX2 18 "Shortring$Likeness" "to" "LShortring$Net;") (by decide +kernel)) (fun _ h9 => h9) rfl dX2_turnsOf_18 ?_
    refine lv_aload_n hx hb dX2_turnsOf_21 rfl (lv_at hl 1 rfl) ?_
    refine kCallV (wr := [(d0, .inr (2, [.ref f0, .ref t0, .ref d1, .int pl])), (f0, .inr (3, [.ref f1, .int (nI K)])), (f1, .inl (cI, 16, .inl r_2)), (d1, .inl (cI, 16, .inl im))]) (va_runVN (As := [.ref h0]) (rest := []) ⟨hx, hb, hml, hown, hts⟩ (k_X3_take l dC dI cI cN t0 t1 KT tf h0 h1 K f (by first | assumption | omega | exact Int32.le_refl _ | decide) _) ⟨va_cnB 1 hts gX2_turnsOf_X3_take_n32 rfl rfl rfl (hN.1 55 _ rfl) (hts (.initialized RX3) (by decide +kernel)) (by decide +kernel) ⟨Nat.le_of_ble_eq_true rfl, Nat.le_of_ble_eq_true rfl⟩, hts (.instanceMethod yX3_take) (by decide +kernel), hts (.selects RX3 yX3_take yX3_take) (by decide +kernel)⟩ (kU_V hP hK hD hN (ci := 3) (q0 := 3) rfl rfl [3, 4, 6, 7] rfl rfl rfl) rfl rfl hl.1 rfl (lv_room (Nat.le_of_ble_eq_true rfl)) dX2_turnsOf_22 ⟨Nat.zero_le _, Nat.zero_le _⟩) hP hD hS hA [3, 4, 6, 7] [0, 1, 2, 5] rfl rfl rfl rfl (by decide) rfl (fun H locs hP hD hS => ?_)
    obtain ⟨r_3, er_3⟩ : ∃ y : Nat → Int32, y = (P_take tf f) := ⟨_, rfl⟩
    try rw [← er_3] at hP hD
    have hr := bd_to hr er_3
    have hP : va_P (dC, dI) kCl [(d0, .inr (2, [.ref f0, .ref t0, .ref d1, .int pl])), (f0, .inr (3, [.ref f1, .int (nI K)])), (f1, .inl (cI, 16, .inl r_2)), (t0, .inr (3, [.ref t1, .int (nI K)])), (t1, .inl (cI, 16, .inl r_3)), (d1, .inl (cI, 16, .inl im)), (h0, .inr (3, [.ref h1, .int (nI K)])), (h1, .inl (cI, 16, .inl f))] H := hP.sub [0, 1, 2, 4, 5, 3, 6, 7] rfl
    have hD : va_D A [(d0, .inr (2, [.ref f0, .ref t0, .ref d1, .int pl])), (f0, .inr (3, [.ref f1, .int (nI K)])), (f1, .inl (cI, 16, .inl r_2)), (t0, .inr (3, [.ref t1, .int (nI K)])), (t1, .inl (cI, 16, .inl r_3)), (d1, .inl (cI, 16, .inl im)), (h0, .inr (3, [.ref h1, .int (nI K)])), (h1, .inl (cI, 16, .inl f))] := hD.sub [0, 1, 2, 4, 5, 3, 6, 7] (by decide) rfl
    refine lv_iconst (v := 1) hx hb dX2_turnsOf_25 (by decide) ?_
    refine lv_istore_n (lv' := [(2, .int 1), (0, .ref d0), (1, .ref h0)]) hx hb dX2_turnsOf_26 rfl hl (by decide) rfl (fun ls hl => ?_)
    refine lv_iconst (v := 0) hx hb dX2_turnsOf_27 (by decide) ?_
    refine lv_istore_n (lv' := [(3, .int 0), (2, .int 1), (0, .ref d0), (1, .ref h0)]) hx hb dX2_turnsOf_28 rfl hl (by decide) rfl (fun ls hl => ?_)
    refine lv_iconst (v := 0) hx hb dX2_turnsOf_29 (by decide) ?_
    refine lv_istore (lv' := [(4, .int 0), (3, .int 0), (2, .int 1), (0, .ref d0), (1, .ref h0)]) hx hb dX2_turnsOf_30 hl (by decide) rfl (fun ls hl => ?_)
    have ex_32 : ∀ (turns : Int32) (seen : Int32) (fa : Nat → Int32) (fb : Nat → Int32) (ia : Nat → Int32) (pa : Int32) (H : Heap) (locs : List Loc) (ls : Array Slot), ((turns, K, fa, K, fb, ia, pa)) = ρ → va_P (dC, dI) kCl [(d0, .inr (2, [.ref f0, .ref t0, .ref d1, .int pa])), (f0, .inr (3, [.ref f1, .int (nI K)])), (f1, .inl (cI, 16, .inl fa)), (t0, .inr (3, [.ref t1, .int (nI K)])), (t1, .inl (cI, 16, .inl fb)), (d1, .inl (cI, 16, .inl ia)), (h0, .inr (3, [.ref h1, .int (nI K)])), (h1, .inl (cI, 16, .inl f))] H → va_D A [(d0, .inr (2, [.ref f0, .ref t0, .ref d1, .int pa])), (f0, .inr (3, [.ref f1, .int (nI K)])), (f1, .inl (cI, 16, .inl fa)), (t0, .inr (3, [.ref t1, .int (nI K)])), (t1, .inl (cI, 16, .inl fb)), (d1, .inl (cI, 16, .inl ia)), (h0, .inr (3, [.ref h1, .int (nI K)])), (h1, .inl (cI, 16, .inl f))] → va_S A s.heap H locs → lv_has ls 7 [(2, .int turns), (3, .int seen), (0, .ref d0), (1, .ref h0)] → W p l e (headSpec wsX2_turnsOf rm_X2_turnsOf).room s m (([.ref d0, .ref h0] : List Value).toArray) below meth c H locs 0 0 (MQ below (kVi dC dI (P_turnsOf KF ff KT tf im pl K f).1 [(d0, .inr (2, [.ref f0, .ref t0, .ref d1, .int ((P_turnsOf KF ff KT tf im pl K f).2.2.2.2.2.2)])), (f0, .inr (3, [.ref f1, .int (nI ((P_turnsOf KF ff KT tf im pl K f).2.1))])), (f1, .inl (cI, 16, .inl ((P_turnsOf KF ff KT tf im pl K f).2.2.1))), (t0, .inr (3, [.ref t1, .int (nI ((P_turnsOf KF ff KT tf im pl K f).2.2.2.1))])), (t1, .inl (cI, 16, .inl ((P_turnsOf KF ff KT tf im pl K f).2.2.2.2.1))), (d1, .inl (cI, 16, .inl ((P_turnsOf KF ff KT tf im pl K f).2.2.2.2.2.1))), (h0, .inr (3, [.ref h1, .int (nI K)])), (h1, .inl (cI, 16, .inl f))] A) (([.ref d0, .ref h0] : List Value).toArray) s 0 0 A) (F0 m 117 ls []) := by
      intro turns seen fa fb ia pa H locs ls hr hP hD hS hl
      refine lv_iload_n hx hb dX2_turnsOf_117 rfl (lv_at hl 0 rfl) ?_
      have he := hr.trans hρ
      exact W.iret (v := turns) hx hb hr0 (fun t ht hW => kVi_end (by rw [← he]) (by rw [← he]; exact hP) hS ht) hS.2.2 dX2_turnsOf_118
    have lp_32 : ∀ (n_32 knot : Nat) (turns : Int32) (seen : Int32) (fa : Nat → Int32) (fb : Nat → Int32) (ia : Nat → Int32) (pa : Int32) (H : Heap) (locs : List Loc) (ls : Array Slot), knot + n_32 = K → L_turnsOf_32 K (fun turns seen fa fb ia pa => (turns, K, fa, K, fb, ia, pa)) n_32 knot turns seen fa fb ia pa = ρ → va_P (dC, dI) kCl [(d0, .inr (2, [.ref f0, .ref t0, .ref d1, .int pa])), (f0, .inr (3, [.ref f1, .int (nI K)])), (f1, .inl (cI, 16, .inl fa)), (t0, .inr (3, [.ref t1, .int (nI K)])), (t1, .inl (cI, 16, .inl fb)), (d1, .inl (cI, 16, .inl ia)), (h0, .inr (3, [.ref h1, .int (nI K)])), (h1, .inl (cI, 16, .inl f))] H → va_D A [(d0, .inr (2, [.ref f0, .ref t0, .ref d1, .int pa])), (f0, .inr (3, [.ref f1, .int (nI K)])), (f1, .inl (cI, 16, .inl fa)), (t0, .inr (3, [.ref t1, .int (nI K)])), (t1, .inl (cI, 16, .inl fb)), (d1, .inl (cI, 16, .inl ia)), (h0, .inr (3, [.ref h1, .int (nI K)])), (h1, .inl (cI, 16, .inl f))] → va_S A s.heap H locs → lv_has ls 7 [(4, .int (nI knot)), (2, .int turns), (3, .int seen), (0, .ref d0), (1, .ref h0)] → W p l e (headSpec wsX2_turnsOf rm_X2_turnsOf).room s m (([.ref d0, .ref h0] : List Value).toArray) below meth c H locs 0 0 (MQ below (kVi dC dI (P_turnsOf KF ff KT tf im pl K f).1 [(d0, .inr (2, [.ref f0, .ref t0, .ref d1, .int ((P_turnsOf KF ff KT tf im pl K f).2.2.2.2.2.2)])), (f0, .inr (3, [.ref f1, .int (nI ((P_turnsOf KF ff KT tf im pl K f).2.1))])), (f1, .inl (cI, 16, .inl ((P_turnsOf KF ff KT tf im pl K f).2.2.1))), (t0, .inr (3, [.ref t1, .int (nI ((P_turnsOf KF ff KT tf im pl K f).2.2.2.1))])), (t1, .inl (cI, 16, .inl ((P_turnsOf KF ff KT tf im pl K f).2.2.2.2.1))), (d1, .inl (cI, 16, .inl ((P_turnsOf KF ff KT tf im pl K f).2.2.2.2.2.1))), (h0, .inr (3, [.ref h1, .int (nI K)])), (h1, .inl (cI, 16, .inl f))] A) (([.ref d0, .ref h0] : List Value).toArray) s 0 0 A) (F0 m 32 ls []) := by
      intro n_32
      induction n_32 with
      | zero =>
        intro knot turns seen fa fb ia pa H locs ls hi hr hP hD hS hl
        rewrite [L_turnsOf_32] at hr
        refine lv_iload hx hb dX2_turnsOf_32 (lv_at hl 0 rfl) ?_
        refine lv_aload_n hx hb dX2_turnsOf_34 rfl (lv_at hl 3 rfl) ?_
        refine va_get (D := (dC, dI)) (ci := 2) (v := .ref f0) (C := RX2) (T := TX2) (N := 4) hx hb hts (by decide +kernel) hown hK hP 0 rfl rfl 0 (by decide) (hts (.fieldLink RX2 12 "Shortring$Likeness" "from" "LShortring$Net;") (by decide +kernel)) (fun _ h9 => h9) rfl dX2_turnsOf_35 ?_
        refine va_getN (D := (dC, dI)) (ci := 3) (v := .int (nI K)) (C := RX3) (T := TX3) (N := 2) hx hb hts (by decide +kernel) hown hK hP 1 rfl rfl 1 (by decide) (va_Nw.use rfl (hN.2 10 _ rfl)) (fun _ h9 => h9) rfl dX2_turnsOf_38 ?_
        refine lv_icmp_ge (tgt := 117) hx hb dX2_turnsOf_41 (by decide) (fun c_4 => ?_) (fun c_4 => ?_)
        · exact ex_32 turns seen fa fb ia pa _ _ _ hr hP hD hS (lv_sub hl [1, 2, 3, 4] rfl)
        · exact absurd (kTop (i := knot) (N := K) rfl (by omega)) c_4
      | succ n_32 ih_32 =>
        intro knot turns seen fa fb ia pa H locs ls hi hr hP hD hS hl
        rewrite [L_turnsOf_32] at hr
        refine lv_iload hx hb dX2_turnsOf_32 (lv_at hl 0 rfl) ?_
        refine lv_aload_n hx hb dX2_turnsOf_34 rfl (lv_at hl 3 rfl) ?_
        refine va_get (D := (dC, dI)) (ci := 2) (v := .ref f0) (C := RX2) (T := TX2) (N := 4) hx hb hts (by decide +kernel) hown hK hP 0 rfl rfl 0 (by decide) (hts (.fieldLink RX2 12 "Shortring$Likeness" "from" "LShortring$Net;") (by decide +kernel)) (fun _ h9 => h9) rfl dX2_turnsOf_35 ?_
        refine va_getN (D := (dC, dI)) (ci := 3) (v := .int (nI K)) (C := RX3) (T := TX3) (N := 2) hx hb hts (by decide +kernel) hown hK hP 1 rfl rfl 1 (by decide) (va_Nw.use rfl (hN.2 10 _ rfl)) (fun _ h9 => h9) rfl dX2_turnsOf_38 ?_
        refine lv_icmp_ge (tgt := 117) hx hb dX2_turnsOf_41 (by decide) (fun c_5 => ?_) (fun c_5 => ?_)
        · exact absurd c_5 (kLow (i := knot) (N := K) rfl (by omega) (by omega))
        · refine lv_iload_n hx hb dX2_turnsOf_44 rfl (lv_at hl 2 rfl) ?_
          refine lv_iload hx hb dX2_turnsOf_45 (lv_at hl 0 rfl) ?_
          refine kCall (va_runSN (As := [.int seen, .int (nI knot)]) (rest := []) ⟨hx, hb, hml, hown, hts⟩ (k_X6_holds l dC dI cI cN seen (nI knot)) ⟨va_cnB 2 hts gX2_turnsOf_X6_holds_n36 rfl rfl rfl (hN.1 56 _ rfl) (hts (.initialized RX6) (by decide +kernel)) (by decide +kernel) ⟨Nat.le_of_ble_eq_true rfl, Nat.le_of_ble_eq_true rfl⟩, hts (.static yX6_holds) (by decide +kernel), trivial⟩ (kW_S hP hK hD hN [] rfl rfl rfl) rfl rfl hl.1 rfl (lv_room (Nat.le_of_ble_eq_true rfl)) dX2_turnsOf_47 ⟨Nat.zero_le _, Nat.zero_le _⟩) hP hS (fun H locs hP hS => ?_)
          refine lv_if_ne (tgt := 111) hx hb dX2_turnsOf_50 (by decide) (fun c_6 => ?_) (fun c_6 => ?_)
          · have hr := if_no hr c_6
            refine lv_iinc (v := nI (knot + 1)) (lv' := [(4, .int (nI (knot + 1))), (2, .int turns), (3, .int seen), (0, .ref d0), (1, .ref h0)]) hx hb dX2_turnsOf_111 hl (k := 0) rfl (nI_1 _) (by decide) rfl (fun ls hl => ?_)
            refine lv_goto (tgt := 32) hx hb dX2_turnsOf_114 (by decide) ?_
            exact ih_32 (knot + 1) turns seen fa fb ia pa _ _ _ (by omega) hr hP hD hS (lv_sub hl [0, 1, 2, 3, 4] rfl)
          · have hr := if_to hr c_6
            refine lv_aload_n hx hb dX2_turnsOf_53 rfl (lv_at hl 3 rfl) ?_
            refine va_get (D := (dC, dI)) (ci := 2) (v := .ref f0) (C := RX2) (T := TX2) (N := 4) hx hb hts (by decide +kernel) hown hK hP 0 rfl rfl 0 (by decide) (hts (.fieldLink RX2 12 "Shortring$Likeness" "from" "LShortring$Net;") (by decide +kernel)) (fun _ h9 => h9) rfl dX2_turnsOf_54 ?_
            refine lv_iload hx hb dX2_turnsOf_57 (lv_at hl 0 rfl) ?_
            refine kCall (va_runSN (As := [.ref f0, .int (nI knot)]) (rest := []) ⟨hx, hb, hml, hown, hts⟩ (k_X5_partWith l dC dI cI cN f0 f1 K fa (nI knot) (by first | assumption | omega | exact Int32.le_refl _ | decide)) ⟨va_cnB 2 hts gX2_turnsOf_X5_partWith_n40 rfl rfl rfl (hN.1 57 _ rfl) (hts (.initialized RX5) (by decide +kernel)) (by decide +kernel) ⟨Nat.le_of_ble_eq_true rfl, Nat.le_of_ble_eq_true rfl⟩, hts (.static yX5_partWith) (by decide +kernel), trivial⟩ (kW_S hP hK hD hN [1, 2] rfl rfl rfl) rfl rfl hl.1 rfl (lv_room (Nat.le_of_ble_eq_true rfl)) dX2_turnsOf_59 ⟨Nat.zero_le _, Nat.zero_le _⟩) hP hS (fun H locs hP hS => ?_)
            refine lv_topi (fun part_7 epart_7 => ?_)
            have hr := bd_to hr epart_7
            refine lv_istore (lv' := [(5, .int part_7), (4, .int (nI knot)), (2, .int turns), (3, .int seen), (0, .ref d0), (1, .ref h0)]) hx hb dX2_turnsOf_62 hl (by decide) rfl (fun ls hl => ?_)
            refine lv_iconst (v := 1) hx hb dX2_turnsOf_64 (by decide) ?_
            refine lv_aload_n hx hb dX2_turnsOf_65 rfl (lv_at hl 4 rfl) ?_
            refine lv_iload hx hb dX2_turnsOf_66 (lv_at hl 0 rfl) ?_
            refine lv_iload_n hx hb dX2_turnsOf_68 rfl (lv_at hl 3 rfl) ?_
            refine kCallVi (wr := [(h0, .inr (3, [.ref h1, .int (nI K)])), (h1, .inl (cI, 16, .inl f))]) (va_runV (As := [.int part_7, .int seen]) (rest := [.int 1]) ⟨hx, hb, hml, hown, hts⟩ (k_X2_partsLike l dC dI cI cN d0 f0 f1 t0 t1 d1 K fa K fb ia pa part_7 seen (by first | assumption | omega | exact Int32.le_refl _ | decide) (by first | assumption | omega | exact Int32.le_refl _ | decide) _) (cwV 2 hts gX2_turnsOf_X2_partsLike rfl rfl rfl (by decide +kernel) ⟨Nat.le_of_ble_eq_true rfl, Nat.le_of_ble_eq_true rfl⟩) (kU_V hP hK hD hN (ci := 2) (q0 := 0) rfl rfl [0, 1, 2, 3, 4, 5] rfl rfl rfl) rfl rfl hl.1 rfl (lv_room (Nat.le_of_ble_eq_true rfl)) dX2_turnsOf_69 ⟨Nat.zero_le _, Nat.zero_le _⟩) hP hD hS hA [0, 1, 2, 3, 4, 5] [6, 7] rfl rfl rfl rfl (by decide) rfl (fun H locs hP hD hS => ?_)
            obtain ⟨r_8, er_8⟩ : ∃ y : Int32 × (Nat → Int32) × Int32, y = (P_partsLike fa K K fb ia pa part_7 seen) := ⟨_, rfl⟩
            rw [← er_8]
            try rw [← er_8] at hP hD
            have hr := bd_to hr er_8
            have hP : va_P (dC, dI) kCl [(d0, .inr (2, [.ref f0, .ref t0, .ref d1, .int r_8.2.2])), (f0, .inr (3, [.ref f1, .int (nI K)])), (f1, .inl (cI, 16, .inl fa)), (t0, .inr (3, [.ref t1, .int (nI K)])), (t1, .inl (cI, 16, .inl fb)), (d1, .inl (cI, 16, .inl r_8.2.1)), (h0, .inr (3, [.ref h1, .int (nI K)])), (h1, .inl (cI, 16, .inl f))] H := hP.sub [2, 3, 4, 5, 6, 7, 0, 1] rfl
            have hD : va_D A [(d0, .inr (2, [.ref f0, .ref t0, .ref d1, .int r_8.2.2])), (f0, .inr (3, [.ref f1, .int (nI K)])), (f1, .inl (cI, 16, .inl fa)), (t0, .inr (3, [.ref t1, .int (nI K)])), (t1, .inl (cI, 16, .inl fb)), (d1, .inl (cI, 16, .inl r_8.2.1)), (h0, .inr (3, [.ref h1, .int (nI K)])), (h1, .inl (cI, 16, .inl f))] := hD.sub [2, 3, 4, 5, 6, 7, 0, 1] (by decide) rfl
            refine lv_iadd hx hb dX2_turnsOf_72 ?_
            refine lv_topi (fun places_9 eplaces_9 => ?_)
            have hr := bd_to hr eplaces_9
            refine lv_istore (lv' := [(6, .int places_9), (5, .int part_7), (4, .int (nI knot)), (2, .int turns), (3, .int seen), (0, .ref d0), (1, .ref h0)]) hx hb dX2_turnsOf_73 hl (by decide) rfl (fun ls hl => ?_)
            refine lv_sipush (v := 1000) hx hb dX2_turnsOf_75 (by decide) ?_
            refine lv_iload_n hx hb dX2_turnsOf_78 rfl (lv_at hl 3 rfl) ?_
            refine lv_iload hx hb dX2_turnsOf_79 (lv_at hl 0 rfl) ?_
            refine lv_imul hx hb dX2_turnsOf_81 ?_
            refine va_mmin hx hb (hml.trans hl.1.symm) hown (hts (.methodLink RX2 50 Lib.Math.min.name) (by decide +kernel)) (hts (.static Lib.Math.min.name) (by decide +kernel)) (hts (.initialized "java/lang/Math") (by decide +kernel)) (hts (.code Lib.Math.min.name Lib.Math.min.code 2 (some .int)) (by decide +kernel)) (Nat.le_of_ble_eq_true rfl) (Nat.le_of_ble_eq_true rfl) (Nat.zero_le _) (Nat.zero_le _) dX2_turnsOf_82 ?_
            refine lv_topi (fun turns_10 eturns_10 => ?_)
            have hr := bd_to hr eturns_10
            refine lv_istore_n (lv' := [(2, .int turns_10), (6, .int places_9), (5, .int part_7), (4, .int (nI knot)), (3, .int seen), (0, .ref d0), (1, .ref h0)]) hx hb dX2_turnsOf_85 rfl hl (by decide) rfl (fun ls hl => ?_)
            refine lv_sipush (v := 1000) hx hb dX2_turnsOf_86 (by decide) ?_
            refine lv_iload_n hx hb dX2_turnsOf_89 rfl (lv_at hl 0 rfl) ?_
            refine lv_aload_n hx hb dX2_turnsOf_90 rfl (lv_at hl 5 rfl) ?_
            refine lv_iload hx hb dX2_turnsOf_91 (lv_at hl 2 rfl) ?_
            refine lv_iload hx hb dX2_turnsOf_93 (lv_at hl 2 rfl) ?_
            refine lv_sipush (v := 1000) hx hb dX2_turnsOf_95 (by decide) ?_
            refine kCallVi (wr := [(h0, .inr (3, [.ref h1, .int (nI K)])), (h1, .inl (cI, 16, .inl f))]) (va_runV (As := [.int part_7, .int part_7, .int 1000]) (rest := [.int turns_10, .int 1000]) ⟨hx, hb, hml, hown, hts⟩ (k_X2_waysOf l dC dI cI cN d0 f0 f1 t0 t1 d1 K fa K fb r_8.2.1 r_8.2.2 part_7 part_7 1000 (by first | assumption | omega | exact Int32.le_refl _ | decide) (by first | assumption | omega | exact Int32.le_refl _ | decide) _) (cwV 3 hts gX2_turnsOf_X2_waysOf rfl rfl rfl (by decide +kernel) ⟨Nat.le_of_ble_eq_true rfl, Nat.le_of_ble_eq_true rfl⟩) (kU_V hP hK hD hN (ci := 2) (q0 := 0) rfl rfl [0, 1, 2, 3, 4, 5] rfl rfl rfl) rfl rfl hl.1 rfl (lv_room (Nat.le_of_ble_eq_true rfl)) dX2_turnsOf_98 ⟨Nat.zero_le _, Nat.zero_le _⟩) hP hD hS hA [0, 1, 2, 3, 4, 5] [6, 7] rfl rfl rfl rfl (by decide) rfl (fun H locs hP hD hS => ?_)
            obtain ⟨r_11, er_11⟩ : ∃ y : Int32 × (Nat → Int32) × Int32, y = (P_waysOf fa K K fb r_8.2.1 r_8.2.2 part_7 part_7 1000) := ⟨_, rfl⟩
            rw [← er_11]
            try rw [← er_11] at hP hD
            have hr := bd_to hr er_11
            have hP : va_P (dC, dI) kCl [(d0, .inr (2, [.ref f0, .ref t0, .ref d1, .int r_11.2.2])), (f0, .inr (3, [.ref f1, .int (nI K)])), (f1, .inl (cI, 16, .inl fa)), (t0, .inr (3, [.ref t1, .int (nI K)])), (t1, .inl (cI, 16, .inl fb)), (d1, .inl (cI, 16, .inl r_11.2.1)), (h0, .inr (3, [.ref h1, .int (nI K)])), (h1, .inl (cI, 16, .inl f))] H := hP.sub [2, 3, 4, 5, 6, 7, 0, 1] rfl
            have hD : va_D A [(d0, .inr (2, [.ref f0, .ref t0, .ref d1, .int r_11.2.2])), (f0, .inr (3, [.ref f1, .int (nI K)])), (f1, .inl (cI, 16, .inl fa)), (t0, .inr (3, [.ref t1, .int (nI K)])), (t1, .inl (cI, 16, .inl fb)), (d1, .inl (cI, 16, .inl r_11.2.1)), (h0, .inr (3, [.ref h1, .int (nI K)])), (h1, .inl (cI, 16, .inl f))] := hD.sub [2, 3, 4, 5, 6, 7, 0, 1] (by decide) rfl
            refine lv_imul hx hb dX2_turnsOf_101 ?_
            refine va_mmin hx hb (hml.trans hl.1.symm) hown (hts (.methodLink RX2 50 Lib.Math.min.name) (by decide +kernel)) (hts (.static Lib.Math.min.name) (by decide +kernel)) (hts (.initialized "java/lang/Math") (by decide +kernel)) (hts (.code Lib.Math.min.name Lib.Math.min.code 2 (some .int)) (by decide +kernel)) (Nat.le_of_ble_eq_true rfl) (Nat.le_of_ble_eq_true rfl) (Nat.zero_le _) (Nat.zero_le _) dX2_turnsOf_102 ?_
            refine lv_topi (fun turns_12 eturns_12 => ?_)
            have hr := bd_to hr eturns_12
            refine lv_istore_n (lv' := [(2, .int turns_12), (6, .int places_9), (5, .int part_7), (4, .int (nI knot)), (3, .int seen), (0, .ref d0), (1, .ref h0)]) hx hb dX2_turnsOf_105 rfl hl (by decide) rfl (fun ls hl => ?_)
            refine lv_iload_n hx hb dX2_turnsOf_106 rfl (lv_at hl 4 rfl) ?_
            refine lv_iload hx hb dX2_turnsOf_107 (lv_at hl 2 rfl) ?_
            refine lv_ior hx hb dX2_turnsOf_109 ?_
            refine lv_topi (fun seen_13 eseen_13 => ?_)
            have hr := bd_to hr eseen_13
            refine lv_istore_n (lv' := [(3, .int seen_13), (2, .int turns_12), (6, .int places_9), (5, .int part_7), (4, .int (nI knot)), (0, .ref d0), (1, .ref h0)]) hx hb dX2_turnsOf_110 rfl hl (by decide) rfl (fun ls hl => ?_)
            refine lv_iinc (v := nI (knot + 1)) (lv' := [(4, .int (nI (knot + 1))), (3, .int seen_13), (2, .int turns_12), (6, .int places_9), (5, .int part_7), (0, .ref d0), (1, .ref h0)]) hx hb dX2_turnsOf_111 hl (k := 4) rfl (nI_1 _) (by decide) rfl (fun ls hl => ?_)
            refine lv_goto (tgt := 32) hx hb dX2_turnsOf_114 (by decide) ?_
            exact ih_32 (knot + 1) turns_12 seen_13 fa fb r_11.2.1 r_11.2.2 _ _ _ (by omega) hr hP hD hS (lv_sub hl [0, 2, 1, 5, 6] rfl)
    exact lp_32 K 0 1 0 r_2 r_3 im pl _ _ _ (by omega) hr hP hD hS (lv_sub hl [0, 2, 1, 3, 4] rfl)
  · have hr := if_to hr c_1
    refine lv_iconst (v := 0) hx hb dX2_turnsOf_7 (by decide) ?_
    have he := hr.trans hρ
    exact W.iret (v := 0) hx hb hr0 (fun t ht hW => kVi_end (by rw [← he]) (by rw [← he]; exact hP) hS ht) hS.2.2 dX2_turnsOf_8
def L_areAlike_59 (K J : Nat) (k : Int32 → Int32 → (Nat → Int32) → (Nat → Int32) → (Nat → Int32) → Int32 → Int32 × Nat × (Nat → Int32) × Nat × (Nat → Int32) × (Nat → Int32) × Int32) : Nat → Nat → Int32 → Int32 → (Nat → Int32) → (Nat → Int32) → (Nat → Int32) → Int32 → Int32 × Nat × (Nat → Int32) × Nat × (Nat → Int32) × (Nat → Int32) × Int32
  | 0, knot, seen, left, fa, fb, ia, pa => k seen left fa fb ia pa
  | n + 1, knot, seen, left, fa, fb, ia, pa =>
    if (P_holds seen (nI knot)) = 0 then
      bd (P_partWith fa (nI knot)) (fun part_1 =>
        bd (P_partMatching fa K J fb ia pa part_1 left) (fun r_2 =>
          bd (r_2.1) (fun match__3 =>
            if match__3 = 0 then
              (0, K, fa, J, fb, r_2.2.1, r_2.2.2)
            else
              bd (seen ||| part_1) (fun seen_4 =>
                bd (left &&& (match__3 ^^^ (-1 : Int32))) (fun left_5 =>
                  L_areAlike_59 K J k n (knot + 1) seen_4 left_5 fa fb r_2.2.1 r_2.2.2)))))
    else
      L_areAlike_59 K J k n (knot + 1) seen left fa fb ia pa
def P_areAlike (KF : Nat) (ff : Nat → Int32) (KT : Nat) (tf : Nat → Int32) (im : Nat → Int32) (pl : Int32) (K : Nat) (f : Nat → Int32) (J : Nat) (g : Nat → Int32) : Int32 × Nat × (Nat → Int32) × Nat × (Nat → Int32) × (Nat → Int32) × Int32 :=
  if (nI K) = (nI J) then
    if (P_edgesInAll K f) = (P_edgesInAll J g) then
      bd (P_take ff f) (fun r_3 =>
        bd (P_take tf g) (fun r_4 =>
          bd ((P_bit (nI J)) - (1 : Int32)) (fun left_5 =>
            L_areAlike_59 K J (fun seen left fa fb ia pa => if left = 0 then (1, K, fa, J, fb, ia, pa) else (0, K, fa, J, fb, ia, pa)) K 0 0 left_5 r_3 r_4 im pl)))
    else
      (0, KF, ff, KT, tf, im, pl)
  else
    (0, KF, ff, KT, tf, im, pl)
abbrev rm_X2_areAlike : Room := { frames := 21, cells := 0, slots := 0, locals := 572 }
set_option maxHeartbeats 4000000 in
set_option maxRecDepth 100000 in
theorem k_X2_areAlike (l : Launch) (dC : Nat → ClassId) (dI : Nat → Nat → Nat) (cI cN : ClassId) (d0 : Nat) (f0 : Nat) (f1 : Nat) (t0 : Nat) (t1 : Nat) (d1 : Nat) (KF : Nat) (ff : Nat → Int32) (KT : Nat) (tf : Nat → Int32) (im : Nat → Int32) (pl : Int32) (h0 : Nat) (h1 : Nat) (K : Nat) (f : Nat → Int32) (o0 : Nat) (o1 : Nat) (J : Nat) (g : Nat → Int32) (hK : K ≤ 16) (hJ : J ≤ 16) (sz : Nat) : Met l yX2_areAlike wsX2_areAlike rm_X2_areAlike (va_Pc [.ref d0, .ref h0, .ref o0] (kU dC dI cI cN [(d0, .inr (2, [.ref f0, .ref t0, .ref d1, .int pl])), (f0, .inr (3, [.ref f1, .int (nI KF)])), (f1, .inl (cI, 16, .inl ff)), (t0, .inr (3, [.ref t1, .int (nI KT)])), (t1, .inl (cI, 16, .inl tf)), (d1, .inl (cI, 16, .inl im)), (h0, .inr (3, [.ref h1, .int (nI K)])), (h1, .inl (cI, 16, .inl f)), (o0, .inr (3, [.ref o1, .int (nI J)])), (o1, .inl (cI, 16, .inl g))] sz)) (kVi dC dI (P_areAlike KF ff KT tf im pl K f J g).1 [(d0, .inr (2, [.ref f0, .ref t0, .ref d1, .int ((P_areAlike KF ff KT tf im pl K f J g).2.2.2.2.2.2)])), (f0, .inr (3, [.ref f1, .int (nI ((P_areAlike KF ff KT tf im pl K f J g).2.1))])), (f1, .inl (cI, 16, .inl ((P_areAlike KF ff KT tf im pl K f J g).2.2.1))), (t0, .inr (3, [.ref t1, .int (nI ((P_areAlike KF ff KT tf im pl K f J g).2.2.2.1))])), (t1, .inl (cI, 16, .inl ((P_areAlike KF ff KT tf im pl K f J g).2.2.2.2.1))), (d1, .inl (cI, 16, .inl ((P_areAlike KF ff KT tf im pl K f J g).2.2.2.2.2.1))), (h0, .inr (3, [.ref h1, .int (nI K)])), (h1, .inl (cI, 16, .inl f)), (o0, .inr (3, [.ref o1, .int (nI J)])), (o1, .inl (cI, 16, .inl g))] (va_A [(d0, .inr (2, [.ref f0, .ref t0, .ref d1, .int pl])), (f0, .inr (3, [.ref f1, .int (nI KF)])), (f1, .inl (cI, 16, .inl ff)), (t0, .inr (3, [.ref t1, .int (nI KT)])), (t1, .inl (cI, 16, .inl tf)), (d1, .inl (cI, 16, .inl im)), (h0, .inr (3, [.ref h1, .int (nI K)])), (h1, .inl (cI, 16, .inl f)), (o0, .inr (3, [.ref o1, .int (nI J)])), (o1, .inl (cI, 16, .inl g))] sz)) 0 0 (va_A [(d0, .inr (2, [.ref f0, .ref t0, .ref d1, .int pl])), (f0, .inr (3, [.ref f1, .int (nI KF)])), (f1, .inl (cI, 16, .inl ff)), (t0, .inr (3, [.ref t1, .int (nI KT)])), (t1, .inl (cI, 16, .inl tf)), (d1, .inl (cI, 16, .inl im)), (h0, .inr (3, [.ref h1, .int (nI K)])), (h1, .inl (cI, 16, .inl f)), (o0, .inr (3, [.ref o1, .int (nI J)])), (o1, .inl (cI, 16, .inl g))] sz) := by
  refine Met.ofW (cc := cX2_areAlike) (maxL := 8) (ret := (some .boolean)) (by decide) rfl ?_
  intro p e s m args below meth c s₁ B hml hv
  obtain ⟨rfl, hsz, hP, hK, hD0, hN⟩ := hv
  have hx := B.exec
  have hb := B.bytes
  have hr0 := B.returns
  have hts := atoms_spec (ws := wsX2_areAlike) B.pre
  have hown : s.vm.findClass RX2 = some m.cls := findClass_of_methodNamed B.named
  have hlocks := B.notSynchronized
  subst hsz
  have hD := hD0.self (sz := s.heap.size)
  generalize hAe : va_A [(d0, .inr (2, [.ref f0, .ref t0, .ref d1, .int pl])), (f0, .inr (3, [.ref f1, .int (nI KF)])), (f1, .inl (cI, 16, .inl ff)), (t0, .inr (3, [.ref t1, .int (nI KT)])), (t1, .inl (cI, 16, .inl tf)), (d1, .inl (cI, 16, .inl im)), (h0, .inr (3, [.ref h1, .int (nI K)])), (h1, .inl (cI, 16, .inl f)), (o0, .inr (3, [.ref o1, .int (nI J)])), (o1, .inl (cI, 16, .inl g))] s.heap.size = A at hD ⊢
  have hA : ∀ q : Nat, s.heap.size ≤ q → A q := fun q h => by rw [← hAe]; exact Or.inr h
  have hS : va_S A s.heap s.heap [] := va_S.rf
  have hl := lv_entry ([.ref d0, .ref h0, .ref o0]) (n := 8) (Nat.le_of_ble_eq_true rfl)
  rw [lg_entry_eq]
  generalize (lg_sl ([.ref d0, .ref h0, .ref o0]) ++ List.replicate (8 - (lg_sl ([.ref d0, .ref h0, .ref o0])).length) Slot.unset).toArray = ls at hl ⊢
  have hl : lv_has ls 8 [(0, .ref d0), (1, .ref h0), (2, .ref o0)] := hl
  obtain ⟨ρ, hρ⟩ : ∃ ρ : Int32 × Nat × (Nat → Int32) × Nat × (Nat → Int32) × (Nat → Int32) × Int32, ρ = P_areAlike KF ff KT tf im pl K f J g := ⟨_, rfl⟩
  have hr : P_areAlike KF ff KT tf im pl K f J g = ρ := hρ.symm
  rewrite [P_areAlike] at hr
  refine lv_aload_n hx hb dX2_areAlike_0 rfl (lv_at hl 1 rfl) ?_
  refine va_getN (D := (dC, dI)) (ci := 3) (v := .int (nI K)) (C := RX3) (T := TX3) (N := 2) hx hb hts (by decide +kernel) hown hK hP 6 rfl rfl 1 (by decide) (va_Nw.use rfl (hN.2 10 _ rfl)) (fun _ h9 => h9) rfl dX2_areAlike_1 ?_
  refine lv_aload_n hx hb dX2_areAlike_4 rfl (lv_at hl 2 rfl) ?_
  refine va_getN (D := (dC, dI)) (ci := 3) (v := .int (nI J)) (C := RX3) (T := TX3) (N := 2) hx hb hts (by decide +kernel) hown hK hP 8 rfl rfl 1 (by decide) (va_Nw.use rfl (hN.2 10 _ rfl)) (fun _ h9 => h9) rfl dX2_areAlike_5 ?_
  refine lv_icmp_ne (tgt := 22) hx hb dX2_areAlike_8 (by decide) (fun c_1 => ?_) (fun c_1 => ?_)
  · have hr := if_no hr c_1
    refine lv_iconst (v := 0) hx hb dX2_areAlike_22 (by decide) ?_
    have he := hr.trans hρ
    exact W.zret (v := 0) hx hb hr0 rfl (fun t ht hW => kVi_end (by rw [← he]) (by rw [← he]; exact hP) hS ht) hS.2.2 dX2_areAlike_23
  · have hr := if_to hr c_1
    refine lv_aload_n hx hb dX2_areAlike_11 rfl (lv_at hl 1 rfl) ?_
    refine kCall (va_runVN (As := []) (rest := []) ⟨hx, hb, hml, hown, hts⟩ (k_X3_edgesInAll l dC dI cI cN h0 h1 K f (by first | assumption | omega | exact Int32.le_refl _ | decide)) ⟨va_cnB 0 hts gX2_areAlike_X3_edgesInAll_n59 rfl rfl rfl (hN.1 58 _ rfl) (hts (.initialized RX3) (by decide +kernel)) (by decide +kernel) ⟨Nat.le_of_ble_eq_true rfl, Nat.le_of_ble_eq_true rfl⟩, hts (.instanceMethod yX3_edgesInAll) (by decide +kernel), hts (.selects RX3 yX3_edgesInAll yX3_edgesInAll) (by decide +kernel)⟩ (kW_V hP hK hD hN (ci := 3) (q0 := 6) rfl rfl [6, 7] rfl rfl rfl) rfl rfl hl.1 rfl (lv_room (Nat.le_of_ble_eq_true rfl)) dX2_areAlike_12 ⟨Nat.zero_le _, Nat.zero_le _⟩) hP hS (fun H locs hP hS => ?_)
    refine lv_aload_n hx hb dX2_areAlike_15 rfl (lv_at hl 2 rfl) ?_
    refine kCall (va_runVN (As := []) (rest := [.int (P_edgesInAll K f)]) ⟨hx, hb, hml, hown, hts⟩ (k_X3_edgesInAll l dC dI cI cN o0 o1 J g (by first | assumption | omega | exact Int32.le_refl _ | decide)) ⟨va_cnB 0 hts gX2_areAlike_X3_edgesInAll_n59 rfl rfl rfl (hN.1 58 _ rfl) (hts (.initialized RX3) (by decide +kernel)) (by decide +kernel) ⟨Nat.le_of_ble_eq_true rfl, Nat.le_of_ble_eq_true rfl⟩, hts (.instanceMethod yX3_edgesInAll) (by decide +kernel), hts (.selects RX3 yX3_edgesInAll yX3_edgesInAll) (by decide +kernel)⟩ (kW_V hP hK hD hN (ci := 3) (q0 := 8) rfl rfl [8, 9] rfl rfl rfl) rfl rfl hl.1 rfl (lv_room (Nat.le_of_ble_eq_true rfl)) dX2_areAlike_16 ⟨Nat.zero_le _, Nat.zero_le _⟩) hP hS (fun H locs hP hS => ?_)
    refine lv_icmp_eq (tgt := 24) hx hb dX2_areAlike_19 (by decide) (fun c_2 => ?_) (fun c_2 => ?_)
    · have hr := if_to hr c_2
      refine lv_aload_n hx hb dX2_areAlike_24 rfl (lv_at hl 0 rfl) ?_
      refine va_get (D := (dC, dI)) (ci := 2) (v := .ref f0) (C := RX2) (T := TX2) (N := 4) hx hb hts (by decide +kernel) hown hK hP 0 rfl rfl 0 (by decide) (hts (.fieldLink RX2 12 "Shortring$Likeness" "from" "LShortring$Net;") (by decide +kernel)) (fun _ h9 => h9) rfl dX2_areAlike_25 ?_
      refine lv_aload_n hx hb dX2_areAlike_28 rfl (lv_at hl 1 rfl) ?_
      refine kCallV (wr := [(d0, .inr (2, [.ref f0, .ref t0, .ref d1, .int pl])), (t0, .inr (3, [.ref t1, .int (nI KT)])), (t1, .inl (cI, 16, .inl tf)), (d1, .inl (cI, 16, .inl im)), (o0, .inr (3, [.ref o1, .int (nI J)])), (o1, .inl (cI, 16, .inl g))]) (va_runVN (As := [.ref h0]) (rest := []) ⟨hx, hb, hml, hown, hts⟩ (k_X3_take l dC dI cI cN f0 f1 KF ff h0 h1 K f (by first | assumption | omega | exact Int32.le_refl _ | decide) _) ⟨va_cnB 1 hts gX2_areAlike_X3_take_n32 rfl rfl rfl (hN.1 55 _ rfl) (hts (.initialized RX3) (by decide +kernel)) (by decide +kernel) ⟨Nat.le_of_ble_eq_true rfl, Nat.le_of_ble_eq_true rfl⟩, hts (.instanceMethod yX3_take) (by decide +kernel), hts (.selects RX3 yX3_take yX3_take) (by decide +kernel)⟩ (kU_V hP hK hD hN (ci := 3) (q0 := 1) rfl rfl [1, 2, 6, 7] rfl rfl rfl) rfl rfl hl.1 rfl (lv_room (Nat.le_of_ble_eq_true rfl)) dX2_areAlike_29 ⟨Nat.zero_le _, Nat.zero_le _⟩) hP hD hS hA [1, 2, 6, 7] [0, 3, 4, 5, 8, 9] rfl rfl rfl rfl (by decide) rfl (fun H locs hP hD hS => ?_)
      obtain ⟨r_3, er_3⟩ : ∃ y : Nat → Int32, y = (P_take ff f) := ⟨_, rfl⟩
      try rw [← er_3] at hP hD
      have hr := bd_to hr er_3
      have hP : va_P (dC, dI) kCl [(d0, .inr (2, [.ref f0, .ref t0, .ref d1, .int pl])), (f0, .inr (3, [.ref f1, .int (nI K)])), (f1, .inl (cI, 16, .inl r_3)), (t0, .inr (3, [.ref t1, .int (nI KT)])), (t1, .inl (cI, 16, .inl tf)), (d1, .inl (cI, 16, .inl im)), (h0, .inr (3, [.ref h1, .int (nI K)])), (h1, .inl (cI, 16, .inl f)), (o0, .inr (3, [.ref o1, .int (nI J)])), (o1, .inl (cI, 16, .inl g))] H := hP.sub [0, 6, 7, 1, 2, 3, 8, 9, 4, 5] rfl
      have hD : va_D A [(d0, .inr (2, [.ref f0, .ref t0, .ref d1, .int pl])), (f0, .inr (3, [.ref f1, .int (nI K)])), (f1, .inl (cI, 16, .inl r_3)), (t0, .inr (3, [.ref t1, .int (nI KT)])), (t1, .inl (cI, 16, .inl tf)), (d1, .inl (cI, 16, .inl im)), (h0, .inr (3, [.ref h1, .int (nI K)])), (h1, .inl (cI, 16, .inl f)), (o0, .inr (3, [.ref o1, .int (nI J)])), (o1, .inl (cI, 16, .inl g))] := hD.sub [0, 6, 7, 1, 2, 3, 8, 9, 4, 5] (by decide) rfl
      refine lv_aload_n hx hb dX2_areAlike_32 rfl (lv_at hl 0 rfl) ?_
      refine va_get (D := (dC, dI)) (ci := 2) (v := .ref t0) (C := RX2) (T := TX2) (N := 4) hx hb hts (by decide +kernel) hown hK hP 0 rfl rfl 1 (by decide) (hts (.fieldLink RX2 18 "Shortring$Likeness" "to" "LShortring$Net;") (by decide +kernel)) (fun _ h9 => h9) rfl dX2_areAlike_33 ?_
      refine lv_aload_n hx hb dX2_areAlike_36 rfl (lv_at hl 2 rfl) ?_
      refine kCallV (wr := [(d0, .inr (2, [.ref f0, .ref t0, .ref d1, .int pl])), (f0, .inr (3, [.ref f1, .int (nI K)])), (f1, .inl (cI, 16, .inl r_3)), (d1, .inl (cI, 16, .inl im)), (h0, .inr (3, [.ref h1, .int (nI K)])), (h1, .inl (cI, 16, .inl f))]) (va_runVN (As := [.ref o0]) (rest := []) ⟨hx, hb, hml, hown, hts⟩ (k_X3_take l dC dI cI cN t0 t1 KT tf o0 o1 J g (by first | assumption | omega | exact Int32.le_refl _ | decide) _) ⟨va_cnB 1 hts gX2_areAlike_X3_take_n32 rfl rfl rfl (hN.1 55 _ rfl) (hts (.initialized RX3) (by decide +kernel)) (by decide +kernel) ⟨Nat.le_of_ble_eq_true rfl, Nat.le_of_ble_eq_true rfl⟩, hts (.instanceMethod yX3_take) (by decide +kernel), hts (.selects RX3 yX3_take yX3_take) (by decide +kernel)⟩ (kU_V hP hK hD hN (ci := 3) (q0 := 3) rfl rfl [3, 4, 8, 9] rfl rfl rfl) rfl rfl hl.1 rfl (lv_room (Nat.le_of_ble_eq_true rfl)) dX2_areAlike_37 ⟨Nat.zero_le _, Nat.zero_le _⟩) hP hD hS hA [3, 4, 8, 9] [0, 1, 2, 5, 6, 7] rfl rfl rfl rfl (by decide) rfl (fun H locs hP hD hS => ?_)
      obtain ⟨r_4, er_4⟩ : ∃ y : Nat → Int32, y = (P_take tf g) := ⟨_, rfl⟩
      try rw [← er_4] at hP hD
      have hr := bd_to hr er_4
      have hP : va_P (dC, dI) kCl [(d0, .inr (2, [.ref f0, .ref t0, .ref d1, .int pl])), (f0, .inr (3, [.ref f1, .int (nI K)])), (f1, .inl (cI, 16, .inl r_3)), (t0, .inr (3, [.ref t1, .int (nI J)])), (t1, .inl (cI, 16, .inl r_4)), (d1, .inl (cI, 16, .inl im)), (h0, .inr (3, [.ref h1, .int (nI K)])), (h1, .inl (cI, 16, .inl f)), (o0, .inr (3, [.ref o1, .int (nI J)])), (o1, .inl (cI, 16, .inl g))] H := hP.sub [0, 1, 2, 6, 7, 3, 4, 5, 8, 9] rfl
      have hD : va_D A [(d0, .inr (2, [.ref f0, .ref t0, .ref d1, .int pl])), (f0, .inr (3, [.ref f1, .int (nI K)])), (f1, .inl (cI, 16, .inl r_3)), (t0, .inr (3, [.ref t1, .int (nI J)])), (t1, .inl (cI, 16, .inl r_4)), (d1, .inl (cI, 16, .inl im)), (h0, .inr (3, [.ref h1, .int (nI K)])), (h1, .inl (cI, 16, .inl f)), (o0, .inr (3, [.ref o1, .int (nI J)])), (o1, .inl (cI, 16, .inl g))] := hD.sub [0, 1, 2, 6, 7, 3, 4, 5, 8, 9] (by decide) rfl
      refine lv_iconst (v := 0) hx hb dX2_areAlike_40 (by decide) ?_
      refine lv_istore_n (lv' := [(3, .int 0), (0, .ref d0), (1, .ref h0), (2, .ref o0)]) hx hb dX2_areAlike_41 rfl hl (by decide) rfl (fun ls hl => ?_)
      refine lv_aload_n hx hb dX2_areAlike_42 rfl (lv_at hl 1 rfl) ?_
      refine va_get (D := (dC, dI)) (ci := 2) (v := .ref t0) (C := RX2) (T := TX2) (N := 4) hx hb hts (by decide +kernel) hown hK hP 0 rfl rfl 1 (by decide) (hts (.fieldLink RX2 18 "Shortring$Likeness" "to" "LShortring$Net;") (by decide +kernel)) (fun _ h9 => h9) rfl dX2_areAlike_43 ?_
      refine va_getN (D := (dC, dI)) (ci := 3) (v := .int (nI J)) (C := RX3) (T := TX3) (N := 2) hx hb hts (by decide +kernel) hown hK hP 3 rfl rfl 1 (by decide) (va_Nw.use rfl (hN.2 10 _ rfl)) (fun _ h9 => h9) rfl dX2_areAlike_46 ?_
      refine kCall (va_runSN (As := [.int (nI J)]) (rest := []) ⟨hx, hb, hml, hown, hts⟩ (k_X6_bit l dC dI cI cN (nI J)) ⟨va_cnB 1 hts gX2_areAlike_X6_bit_n63 rfl rfl rfl (hN.1 59 _ rfl) (hts (.initialized RX6) (by decide +kernel)) (by decide +kernel) ⟨Nat.le_of_ble_eq_true rfl, Nat.le_of_ble_eq_true rfl⟩, hts (.static yX6_bit) (by decide +kernel), trivial⟩ (kW_S hP hK hD hN [] rfl rfl rfl) rfl rfl hl.1 rfl (lv_room (Nat.le_of_ble_eq_true rfl)) dX2_areAlike_49 ⟨Nat.zero_le _, Nat.zero_le _⟩) hP hS (fun H locs hP hS => ?_)
      refine lv_iconst (v := 1) hx hb dX2_areAlike_52 (by decide) ?_
      refine lv_isub hx hb dX2_areAlike_53 ?_
      refine lv_topi (fun left_5 eleft_5 => ?_)
      have hr := bd_to hr eleft_5
      refine lv_istore (lv' := [(4, .int left_5), (3, .int 0), (0, .ref d0), (1, .ref h0), (2, .ref o0)]) hx hb dX2_areAlike_54 hl (by decide) rfl (fun ls hl => ?_)
      refine lv_iconst (v := 0) hx hb dX2_areAlike_56 (by decide) ?_
      refine lv_istore (lv' := [(5, .int 0), (4, .int left_5), (3, .int 0), (0, .ref d0), (1, .ref h0), (2, .ref o0)]) hx hb dX2_areAlike_57 hl (by decide) rfl (fun ls hl => ?_)
      have ex_59 : ∀ (seen : Int32) (left : Int32) (fa : Nat → Int32) (fb : Nat → Int32) (ia : Nat → Int32) (pa : Int32) (H : Heap) (locs : List Loc) (ls : Array Slot), (if left = 0 then (1, K, fa, J, fb, ia, pa) else (0, K, fa, J, fb, ia, pa)) = ρ → va_P (dC, dI) kCl [(d0, .inr (2, [.ref f0, .ref t0, .ref d1, .int pa])), (f0, .inr (3, [.ref f1, .int (nI K)])), (f1, .inl (cI, 16, .inl fa)), (t0, .inr (3, [.ref t1, .int (nI J)])), (t1, .inl (cI, 16, .inl fb)), (d1, .inl (cI, 16, .inl ia)), (h0, .inr (3, [.ref h1, .int (nI K)])), (h1, .inl (cI, 16, .inl f)), (o0, .inr (3, [.ref o1, .int (nI J)])), (o1, .inl (cI, 16, .inl g))] H → va_D A [(d0, .inr (2, [.ref f0, .ref t0, .ref d1, .int pa])), (f0, .inr (3, [.ref f1, .int (nI K)])), (f1, .inl (cI, 16, .inl fa)), (t0, .inr (3, [.ref t1, .int (nI J)])), (t1, .inl (cI, 16, .inl fb)), (d1, .inl (cI, 16, .inl ia)), (h0, .inr (3, [.ref h1, .int (nI K)])), (h1, .inl (cI, 16, .inl f)), (o0, .inr (3, [.ref o1, .int (nI J)])), (o1, .inl (cI, 16, .inl g))] → va_S A s.heap H locs → lv_has ls 8 [(3, .int seen), (4, .int left), (0, .ref d0), (1, .ref h0), (2, .ref o0)] → W p l e (headSpec wsX2_areAlike rm_X2_areAlike).room s m (([.ref d0, .ref h0, .ref o0] : List Value).toArray) below meth c H locs 0 0 (MQ below (kVi dC dI (P_areAlike KF ff KT tf im pl K f J g).1 [(d0, .inr (2, [.ref f0, .ref t0, .ref d1, .int ((P_areAlike KF ff KT tf im pl K f J g).2.2.2.2.2.2)])), (f0, .inr (3, [.ref f1, .int (nI ((P_areAlike KF ff KT tf im pl K f J g).2.1))])), (f1, .inl (cI, 16, .inl ((P_areAlike KF ff KT tf im pl K f J g).2.2.1))), (t0, .inr (3, [.ref t1, .int (nI ((P_areAlike KF ff KT tf im pl K f J g).2.2.2.1))])), (t1, .inl (cI, 16, .inl ((P_areAlike KF ff KT tf im pl K f J g).2.2.2.2.1))), (d1, .inl (cI, 16, .inl ((P_areAlike KF ff KT tf im pl K f J g).2.2.2.2.2.1))), (h0, .inr (3, [.ref h1, .int (nI K)])), (h1, .inl (cI, 16, .inl f)), (o0, .inr (3, [.ref o1, .int (nI J)])), (o1, .inl (cI, 16, .inl g))] A) (([.ref d0, .ref h0, .ref o0] : List Value).toArray) s 0 0 A) (F0 m 128 ls []) := by
        intro seen left fa fb ia pa H locs ls hr hP hD hS hl
        refine lv_iload hx hb dX2_areAlike_128 (lv_at hl 1 rfl) ?_
        refine lv_if_ne (tgt := 137) hx hb dX2_areAlike_130 (by decide) (fun c_6 => ?_) (fun c_6 => ?_)
        · have hr := if_no hr c_6
          refine lv_iconst (v := 0) hx hb dX2_areAlike_137 (by decide) ?_
          have he := hr.trans hρ
          exact W.zret (v := 0) hx hb hr0 rfl (fun t ht hW => kVi_end (by rw [← he]) (by rw [← he]; exact hP) hS ht) hS.2.2 dX2_areAlike_138
        · have hr := if_to hr c_6
          refine lv_iconst (v := 1) hx hb dX2_areAlike_133 (by decide) ?_
          refine lv_goto (tgt := 138) hx hb dX2_areAlike_134 (by decide) ?_
          have he := hr.trans hρ
          exact W.zret (v := 1) hx hb hr0 rfl (fun t ht hW => kVi_end (by rw [← he]) (by rw [← he]; exact hP) hS ht) hS.2.2 dX2_areAlike_138
      have lp_59 : ∀ (n_59 knot : Nat) (seen : Int32) (left : Int32) (fa : Nat → Int32) (fb : Nat → Int32) (ia : Nat → Int32) (pa : Int32) (H : Heap) (locs : List Loc) (ls : Array Slot), knot + n_59 = K → L_areAlike_59 K J (fun seen left fa fb ia pa => if left = 0 then (1, K, fa, J, fb, ia, pa) else (0, K, fa, J, fb, ia, pa)) n_59 knot seen left fa fb ia pa = ρ → va_P (dC, dI) kCl [(d0, .inr (2, [.ref f0, .ref t0, .ref d1, .int pa])), (f0, .inr (3, [.ref f1, .int (nI K)])), (f1, .inl (cI, 16, .inl fa)), (t0, .inr (3, [.ref t1, .int (nI J)])), (t1, .inl (cI, 16, .inl fb)), (d1, .inl (cI, 16, .inl ia)), (h0, .inr (3, [.ref h1, .int (nI K)])), (h1, .inl (cI, 16, .inl f)), (o0, .inr (3, [.ref o1, .int (nI J)])), (o1, .inl (cI, 16, .inl g))] H → va_D A [(d0, .inr (2, [.ref f0, .ref t0, .ref d1, .int pa])), (f0, .inr (3, [.ref f1, .int (nI K)])), (f1, .inl (cI, 16, .inl fa)), (t0, .inr (3, [.ref t1, .int (nI J)])), (t1, .inl (cI, 16, .inl fb)), (d1, .inl (cI, 16, .inl ia)), (h0, .inr (3, [.ref h1, .int (nI K)])), (h1, .inl (cI, 16, .inl f)), (o0, .inr (3, [.ref o1, .int (nI J)])), (o1, .inl (cI, 16, .inl g))] → va_S A s.heap H locs → lv_has ls 8 [(5, .int (nI knot)), (3, .int seen), (4, .int left), (0, .ref d0), (1, .ref h0), (2, .ref o0)] → W p l e (headSpec wsX2_areAlike rm_X2_areAlike).room s m (([.ref d0, .ref h0, .ref o0] : List Value).toArray) below meth c H locs 0 0 (MQ below (kVi dC dI (P_areAlike KF ff KT tf im pl K f J g).1 [(d0, .inr (2, [.ref f0, .ref t0, .ref d1, .int ((P_areAlike KF ff KT tf im pl K f J g).2.2.2.2.2.2)])), (f0, .inr (3, [.ref f1, .int (nI ((P_areAlike KF ff KT tf im pl K f J g).2.1))])), (f1, .inl (cI, 16, .inl ((P_areAlike KF ff KT tf im pl K f J g).2.2.1))), (t0, .inr (3, [.ref t1, .int (nI ((P_areAlike KF ff KT tf im pl K f J g).2.2.2.1))])), (t1, .inl (cI, 16, .inl ((P_areAlike KF ff KT tf im pl K f J g).2.2.2.2.1))), (d1, .inl (cI, 16, .inl ((P_areAlike KF ff KT tf im pl K f J g).2.2.2.2.2.1))), (h0, .inr (3, [.ref h1, .int (nI K)])), (h1, .inl (cI, 16, .inl f)), (o0, .inr (3, [.ref o1, .int (nI J)])), (o1, .inl (cI, 16, .inl g))] A) (([.ref d0, .ref h0, .ref o0] : List Value).toArray) s 0 0 A) (F0 m 59 ls []) := by
        intro n_59
        induction n_59 with
        | zero =>
          intro knot seen left fa fb ia pa H locs ls hi hr hP hD hS hl
          rewrite [L_areAlike_59] at hr
          refine lv_iload hx hb dX2_areAlike_59 (lv_at hl 0 rfl) ?_
          refine lv_aload_n hx hb dX2_areAlike_61 rfl (lv_at hl 3 rfl) ?_
          refine va_get (D := (dC, dI)) (ci := 2) (v := .ref f0) (C := RX2) (T := TX2) (N := 4) hx hb hts (by decide +kernel) hown hK hP 0 rfl rfl 0 (by decide) (hts (.fieldLink RX2 12 "Shortring$Likeness" "from" "LShortring$Net;") (by decide +kernel)) (fun _ h9 => h9) rfl dX2_areAlike_62 ?_
          refine va_getN (D := (dC, dI)) (ci := 3) (v := .int (nI K)) (C := RX3) (T := TX3) (N := 2) hx hb hts (by decide +kernel) hown hK hP 1 rfl rfl 1 (by decide) (va_Nw.use rfl (hN.2 10 _ rfl)) (fun _ h9 => h9) rfl dX2_areAlike_65 ?_
          refine lv_icmp_ge (tgt := 128) hx hb dX2_areAlike_68 (by decide) (fun c_7 => ?_) (fun c_7 => ?_)
          · exact ex_59 seen left fa fb ia pa _ _ _ hr hP hD hS (lv_sub hl [1, 2, 3, 4, 5] rfl)
          · exact absurd (kTop (i := knot) (N := K) rfl (by omega)) c_7
        | succ n_59 ih_59 =>
          intro knot seen left fa fb ia pa H locs ls hi hr hP hD hS hl
          rewrite [L_areAlike_59] at hr
          refine lv_iload hx hb dX2_areAlike_59 (lv_at hl 0 rfl) ?_
          refine lv_aload_n hx hb dX2_areAlike_61 rfl (lv_at hl 3 rfl) ?_
          refine va_get (D := (dC, dI)) (ci := 2) (v := .ref f0) (C := RX2) (T := TX2) (N := 4) hx hb hts (by decide +kernel) hown hK hP 0 rfl rfl 0 (by decide) (hts (.fieldLink RX2 12 "Shortring$Likeness" "from" "LShortring$Net;") (by decide +kernel)) (fun _ h9 => h9) rfl dX2_areAlike_62 ?_
          refine va_getN (D := (dC, dI)) (ci := 3) (v := .int (nI K)) (C := RX3) (T := TX3) (N := 2) hx hb hts (by decide +kernel) hown hK hP 1 rfl rfl 1 (by decide) (va_Nw.use rfl (hN.2 10 _ rfl)) (fun _ h9 => h9) rfl dX2_areAlike_65 ?_
          refine lv_icmp_ge (tgt := 128) hx hb dX2_areAlike_68 (by decide) (fun c_8 => ?_) (fun c_8 => ?_)
          · exact absurd c_8 (kLow (i := knot) (N := K) rfl (by omega) (by omega))
          · refine lv_iload_n hx hb dX2_areAlike_71 rfl (lv_at hl 1 rfl) ?_
            refine lv_iload hx hb dX2_areAlike_72 (lv_at hl 0 rfl) ?_
            refine kCall (va_runSN (As := [.int seen, .int (nI knot)]) (rest := []) ⟨hx, hb, hml, hown, hts⟩ (k_X6_holds l dC dI cI cN seen (nI knot)) ⟨va_cnB 2 hts gX2_areAlike_X6_holds_n36 rfl rfl rfl (hN.1 56 _ rfl) (hts (.initialized RX6) (by decide +kernel)) (by decide +kernel) ⟨Nat.le_of_ble_eq_true rfl, Nat.le_of_ble_eq_true rfl⟩, hts (.static yX6_holds) (by decide +kernel), trivial⟩ (kW_S hP hK hD hN [] rfl rfl rfl) rfl rfl hl.1 rfl (lv_room (Nat.le_of_ble_eq_true rfl)) dX2_areAlike_74 ⟨Nat.zero_le _, Nat.zero_le _⟩) hP hS (fun H locs hP hS => ?_)
            refine lv_if_ne (tgt := 122) hx hb dX2_areAlike_77 (by decide) (fun c_9 => ?_) (fun c_9 => ?_)
            · have hr := if_no hr c_9
              refine lv_iinc (v := nI (knot + 1)) (lv' := [(5, .int (nI (knot + 1))), (3, .int seen), (4, .int left), (0, .ref d0), (1, .ref h0), (2, .ref o0)]) hx hb dX2_areAlike_122 hl (k := 0) rfl (nI_1 _) (by decide) rfl (fun ls hl => ?_)
              refine lv_goto (tgt := 59) hx hb dX2_areAlike_125 (by decide) ?_
              exact ih_59 (knot + 1) seen left fa fb ia pa _ _ _ (by omega) hr hP hD hS (lv_sub hl [0, 1, 2, 3, 4, 5] rfl)
            · have hr := if_to hr c_9
              refine lv_aload_n hx hb dX2_areAlike_80 rfl (lv_at hl 3 rfl) ?_
              refine va_get (D := (dC, dI)) (ci := 2) (v := .ref f0) (C := RX2) (T := TX2) (N := 4) hx hb hts (by decide +kernel) hown hK hP 0 rfl rfl 0 (by decide) (hts (.fieldLink RX2 12 "Shortring$Likeness" "from" "LShortring$Net;") (by decide +kernel)) (fun _ h9 => h9) rfl dX2_areAlike_81 ?_
              refine lv_iload hx hb dX2_areAlike_84 (lv_at hl 0 rfl) ?_
              refine kCall (va_runSN (As := [.ref f0, .int (nI knot)]) (rest := []) ⟨hx, hb, hml, hown, hts⟩ (k_X5_partWith l dC dI cI cN f0 f1 K fa (nI knot) (by first | assumption | omega | exact Int32.le_refl _ | decide)) ⟨va_cnB 2 hts gX2_areAlike_X5_partWith_n40 rfl rfl rfl (hN.1 57 _ rfl) (hts (.initialized RX5) (by decide +kernel)) (by decide +kernel) ⟨Nat.le_of_ble_eq_true rfl, Nat.le_of_ble_eq_true rfl⟩, hts (.static yX5_partWith) (by decide +kernel), trivial⟩ (kW_S hP hK hD hN [1, 2] rfl rfl rfl) rfl rfl hl.1 rfl (lv_room (Nat.le_of_ble_eq_true rfl)) dX2_areAlike_86 ⟨Nat.zero_le _, Nat.zero_le _⟩) hP hS (fun H locs hP hS => ?_)
              refine lv_topi (fun part_10 epart_10 => ?_)
              have hr := bd_to hr epart_10
              refine lv_istore (lv' := [(6, .int part_10), (5, .int (nI knot)), (3, .int seen), (4, .int left), (0, .ref d0), (1, .ref h0), (2, .ref o0)]) hx hb dX2_areAlike_89 hl (by decide) rfl (fun ls hl => ?_)
              refine lv_aload_n hx hb dX2_areAlike_91 rfl (lv_at hl 4 rfl) ?_
              refine lv_iload hx hb dX2_areAlike_92 (lv_at hl 0 rfl) ?_
              refine lv_iload hx hb dX2_areAlike_94 (lv_at hl 3 rfl) ?_
              refine kCallVi (wr := [(h0, .inr (3, [.ref h1, .int (nI K)])), (h1, .inl (cI, 16, .inl f)), (o0, .inr (3, [.ref o1, .int (nI J)])), (o1, .inl (cI, 16, .inl g))]) (va_runV (As := [.int part_10, .int left]) (rest := []) ⟨hx, hb, hml, hown, hts⟩ (k_X2_partMatching l dC dI cI cN d0 f0 f1 t0 t1 d1 K fa J fb ia pa part_10 left (by first | assumption | omega | exact Int32.le_refl _ | decide) (by first | assumption | omega | exact Int32.le_refl _ | decide) _) (cwV 2 hts gX2_areAlike_X2_partMatching rfl rfl rfl (by decide +kernel) ⟨Nat.le_of_ble_eq_true rfl, Nat.le_of_ble_eq_true rfl⟩) (kU_V hP hK hD hN (ci := 2) (q0 := 0) rfl rfl [0, 1, 2, 3, 4, 5] rfl rfl rfl) rfl rfl hl.1 rfl (lv_room (Nat.le_of_ble_eq_true rfl)) dX2_areAlike_96 ⟨Nat.zero_le _, Nat.zero_le _⟩) hP hD hS hA [0, 1, 2, 3, 4, 5] [6, 7, 8, 9] rfl rfl rfl rfl (by decide) rfl (fun H locs hP hD hS => ?_)
              obtain ⟨r_11, er_11⟩ : ∃ y : Int32 × (Nat → Int32) × Int32, y = (P_partMatching fa K J fb ia pa part_10 left) := ⟨_, rfl⟩
              rw [← er_11]
              try rw [← er_11] at hP hD
              have hr := bd_to hr er_11
              have hP : va_P (dC, dI) kCl [(d0, .inr (2, [.ref f0, .ref t0, .ref d1, .int r_11.2.2])), (f0, .inr (3, [.ref f1, .int (nI K)])), (f1, .inl (cI, 16, .inl fa)), (t0, .inr (3, [.ref t1, .int (nI J)])), (t1, .inl (cI, 16, .inl fb)), (d1, .inl (cI, 16, .inl r_11.2.1)), (h0, .inr (3, [.ref h1, .int (nI K)])), (h1, .inl (cI, 16, .inl f)), (o0, .inr (3, [.ref o1, .int (nI J)])), (o1, .inl (cI, 16, .inl g))] H := hP.sub [4, 5, 6, 7, 8, 9, 0, 1, 2, 3] rfl
              have hD : va_D A [(d0, .inr (2, [.ref f0, .ref t0, .ref d1, .int r_11.2.2])), (f0, .inr (3, [.ref f1, .int (nI K)])), (f1, .inl (cI, 16, .inl fa)), (t0, .inr (3, [.ref t1, .int (nI J)])), (t1, .inl (cI, 16, .inl fb)), (d1, .inl (cI, 16, .inl r_11.2.1)), (h0, .inr (3, [.ref h1, .int (nI K)])), (h1, .inl (cI, 16, .inl f)), (o0, .inr (3, [.ref o1, .int (nI J)])), (o1, .inl (cI, 16, .inl g))] := hD.sub [4, 5, 6, 7, 8, 9, 0, 1, 2, 3] (by decide) rfl
              refine lv_topi (fun match__12 ematch__12 => ?_)
              have hr := bd_to hr ematch__12
              refine lv_istore (lv' := [(7, .int match__12), (6, .int part_10), (5, .int (nI knot)), (3, .int seen), (4, .int left), (0, .ref d0), (1, .ref h0), (2, .ref o0)]) hx hb dX2_areAlike_99 hl (by decide) rfl (fun ls hl => ?_)
              refine lv_iload hx hb dX2_areAlike_101 (lv_at hl 0 rfl) ?_
              refine lv_if_ne (tgt := 108) hx hb dX2_areAlike_103 (by decide) (fun c_13 => ?_) (fun c_13 => ?_)
              · have hr := if_no hr c_13
                refine lv_iload_n hx hb dX2_areAlike_108 rfl (lv_at hl 3 rfl) ?_
                refine lv_iload hx hb dX2_areAlike_109 (lv_at hl 1 rfl) ?_
                refine lv_ior hx hb dX2_areAlike_111 ?_
                refine lv_topi (fun seen_14 eseen_14 => ?_)
                have hr := bd_to hr eseen_14
                refine lv_istore_n (lv' := [(3, .int seen_14), (7, .int match__12), (6, .int part_10), (5, .int (nI knot)), (4, .int left), (0, .ref d0), (1, .ref h0), (2, .ref o0)]) hx hb dX2_areAlike_112 rfl hl (by decide) rfl (fun ls hl => ?_)
                refine lv_iload hx hb dX2_areAlike_113 (lv_at hl 4 rfl) ?_
                refine lv_iload hx hb dX2_areAlike_115 (lv_at hl 1 rfl) ?_
                refine lv_iconst (v := (-1)) hx hb dX2_areAlike_117 (by decide) ?_
                refine lv_ixor hx hb dX2_areAlike_118 ?_
                refine lv_iand hx hb dX2_areAlike_119 ?_
                refine lv_topi (fun left_15 eleft_15 => ?_)
                have hr := bd_to hr eleft_15
                refine lv_istore (lv' := [(4, .int left_15), (3, .int seen_14), (7, .int match__12), (6, .int part_10), (5, .int (nI knot)), (0, .ref d0), (1, .ref h0), (2, .ref o0)]) hx hb dX2_areAlike_120 hl (by decide) rfl (fun ls hl => ?_)
                refine lv_iinc (v := nI (knot + 1)) (lv' := [(5, .int (nI (knot + 1))), (4, .int left_15), (3, .int seen_14), (7, .int match__12), (6, .int part_10), (0, .ref d0), (1, .ref h0), (2, .ref o0)]) hx hb dX2_areAlike_122 hl (k := 4) rfl (nI_1 _) (by decide) rfl (fun ls hl => ?_)
                refine lv_goto (tgt := 59) hx hb dX2_areAlike_125 (by decide) ?_
                exact ih_59 (knot + 1) seen_14 left_15 fa fb r_11.2.1 r_11.2.2 _ _ _ (by omega) hr hP hD hS (lv_sub hl [0, 2, 1, 5, 6, 7] rfl)
              · have hr := if_to hr c_13
                refine lv_iconst (v := 0) hx hb dX2_areAlike_106 (by decide) ?_
                have he := hr.trans hρ
                exact W.zret (v := 0) hx hb hr0 rfl (fun t ht hW => kVi_end (by rw [← he]) (by rw [← he]; exact hP) hS ht) hS.2.2 dX2_areAlike_107
      exact lp_59 K 0 0 left_5 r_3 r_4 im pl _ _ _ (by omega) hr hP hD hS (lv_sub hl [0, 2, 1, 3, 4, 5] rfl)
    · have hr := if_no hr c_2
      refine lv_iconst (v := 0) hx hb dX2_areAlike_22 (by decide) ?_
      have he := hr.trans hρ
      exact W.zret (v := 0) hx hb hr0 rfl (fun t ht hW => kVi_end (by rw [← he]) (by rw [← he]; exact hP) hS ht) hS.2.2 dX2_areAlike_23
