/-! a net that is changed (printed by wip/gen) -/
def L_lay_7  (k : (Nat → Int32) → Nat → Int32) : Nat → Nat → (Nat → Int32) → Nat → Int32
  | 0, i, g => k g
  | n + 1, i, g =>
    L_lay_7 k n (i + 1) (upd g i (0 : Int32))
def P_lay (f : Nat → Int32) : Nat → Int32 :=
  L_lay_7 (fun g => g) 16 0 f
abbrev rm_X3_lay : Room := { frames := 0, cells := 0, slots := 0, locals := 0 }
set_option maxHeartbeats 4000000 in
set_option maxRecDepth 100000 in
theorem k_X3_lay (l : Launch) (dC : Nat → ClassId) (dI : Nat → Nat → Nat) (cI cN : ClassId) (h0 : Nat) (h1 : Nat) (K : Nat) (f : Nat → Int32) (M : Nat) (sz : Nat) : Met l yX3_lay wsX3_lay rm_X3_lay (va_Pc [.ref h0, .int (nI M)] (kU dC dI cI cN [(h0, .inr (3, [.ref h1, .int (nI K)])), (h1, .inl (cI, 16, .inl f))] sz)) (kV dC dI [(h0, .inr (3, [.ref h1, .int (nI M)])), (h1, .inl (cI, 16, .inl ((P_lay f))))] (va_A [(h0, .inr (3, [.ref h1, .int (nI K)])), (h1, .inl (cI, 16, .inl f))] sz)) 0 0 (va_A [(h0, .inr (3, [.ref h1, .int (nI K)])), (h1, .inl (cI, 16, .inl f))] sz) := by
  refine Met.ofW (cc := cX3_lay) (maxL := 3) (ret := none) (by decide) rfl ?_
  intro p e s m args below meth c s₁ B hml hv
  obtain ⟨rfl, hsz, hP, hK, hD0, hN⟩ := hv
  have hx := B.exec
  have hb := B.bytes
  have hr0 := B.returns
  have hts := atoms_spec (ws := wsX3_lay) B.pre
  have hown : s.vm.findClass RX3 = some m.cls := findClass_of_methodNamed B.named
  have hlocks := B.notSynchronized
  subst hsz
  have hD := hD0.self (sz := s.heap.size)
  generalize hAe : va_A [(h0, .inr (3, [.ref h1, .int (nI K)])), (h1, .inl (cI, 16, .inl f))] s.heap.size = A at hD ⊢
  have hA : ∀ q : Nat, s.heap.size ≤ q → A q := fun q h => by rw [← hAe]; exact Or.inr h
  have hS : va_S A s.heap s.heap [] := va_S.rf
  have hl := lv_entry ([.ref h0, .int (nI M)]) (n := 3) (Nat.le_of_ble_eq_true rfl)
  rw [lg_entry_eq]
  generalize (lg_sl ([.ref h0, .int (nI M)]) ++ List.replicate (3 - (lg_sl ([.ref h0, .int (nI M)])).length) Slot.unset).toArray = ls at hl ⊢
  have hl : lv_has ls 3 [(0, .ref h0), (1, .int (nI M))] := hl
  obtain ⟨ρ, hρ⟩ : ∃ ρ : Nat → Int32, ρ = P_lay f := ⟨_, rfl⟩
  have hr : P_lay f = ρ := hρ.symm
  rewrite [P_lay] at hr
  refine lv_aload_n hx hb dX3_lay_0 rfl (lv_at hl 0 rfl) ?_
  refine lv_iload_n hx hb dX3_lay_1 rfl (lv_at hl 1 rfl) ?_
  refine va_put (D := (dC, dI)) (ci := 3) (v := .int (nI M)) (ty := .int) (C := RX3) (T := TX3) (N := 2) hx hb hts (by decide +kernel) tyX3 tyX3_ok nmX3 hown hK hP hD hS 0 rfl rfl 1 (by decide) (hts (.fieldLink RX3 15 "Shortring$Net" "knots" "I") (by decide +kernel)) (fun _ h9 => h9) rfl (by decide +kernel) rfl rfl (Nat.le_of_ble_eq_true rfl) dX3_lay_2 (fun H locs hP hD hS => ?_)
  have hP : va_P (dC, dI) kCl [(h0, .inr (3, [.ref h1, .int (nI M)])), (h1, .inl (cI, 16, .inl f))] H := hP
  have hD : va_D A [(h0, .inr (3, [.ref h1, .int (nI M)])), (h1, .inl (cI, 16, .inl f))] := hD
  refine lv_iconst (v := 0) hx hb dX3_lay_5 (by decide) ?_
  refine lv_istore_n (lv' := [(2, .int 0), (0, .ref h0), (1, .int (nI M))]) hx hb dX3_lay_6 rfl hl (by decide) rfl (fun ls hl => ?_)
  have ex_7 : ∀ (g : Nat → Int32) (H : Heap) (locs : List Loc) (ls : Array Slot), (g) = ρ → va_P (dC, dI) kCl [(h0, .inr (3, [.ref h1, .int (nI M)])), (h1, .inl (cI, 16, .inl g))] H → va_D A [(h0, .inr (3, [.ref h1, .int (nI M)])), (h1, .inl (cI, 16, .inl g))] → va_S A s.heap H locs → lv_has ls 3 [(0, .ref h0), (1, .int (nI M))] → W p l e (headSpec wsX3_lay rm_X3_lay).room s m (([.ref h0, .int (nI M)] : List Value).toArray) below meth c H locs 0 0 (MQ below (kV dC dI [(h0, .inr (3, [.ref h1, .int (nI M)])), (h1, .inl (cI, 16, .inl ((P_lay f))))] A) (([.ref h0, .int (nI M)] : List Value).toArray) s 0 0 A) (F0 m 29 ls []) := by
    intro g H locs ls hr hP hD hS hl
    have he := hr.trans hρ
    exact W.vret hx hb hr0 (fun t ht hW => kV_end (by rw [← he]; exact hP) hS ht) hS.2.2 dX3_lay_29
  have lp_7 : ∀ (n_7 i : Nat) (g : Nat → Int32) (H : Heap) (locs : List Loc) (ls : Array Slot), i + n_7 = 16 → L_lay_7 (fun g => g) n_7 i g = ρ → va_P (dC, dI) kCl [(h0, .inr (3, [.ref h1, .int (nI M)])), (h1, .inl (cI, 16, .inl g))] H → va_D A [(h0, .inr (3, [.ref h1, .int (nI M)])), (h1, .inl (cI, 16, .inl g))] → va_S A s.heap H locs → lv_has ls 3 [(2, .int (nI i)), (0, .ref h0), (1, .int (nI M))] → W p l e (headSpec wsX3_lay rm_X3_lay).room s m (([.ref h0, .int (nI M)] : List Value).toArray) below meth c H locs 0 0 (MQ below (kV dC dI [(h0, .inr (3, [.ref h1, .int (nI M)])), (h1, .inl (cI, 16, .inl ((P_lay f))))] A) (([.ref h0, .int (nI M)] : List Value).toArray) s 0 0 A) (F0 m 7 ls []) := by
    intro n_7
    induction n_7 with
    | zero =>
      intro i g H locs ls hi hr hP hD hS hl
      rewrite [L_lay_7] at hr
      refine lv_iload_n hx hb dX3_lay_7 rfl (lv_at hl 0 rfl) ?_
      refine lv_aload_n hx hb dX3_lay_8 rfl (lv_at hl 1 rfl) ?_
      refine va_get (D := (dC, dI)) (ci := 3) (v := .ref h1) (C := RX3) (T := TX3) (N := 2) hx hb hts (by decide +kernel) hown hK hP 0 rfl rfl 0 (by decide) (hts (.fieldLink RX3 9 "Shortring$Net" "near" "[I") (by decide +kernel)) (fun _ h9 => h9) rfl dX3_lay_9 ?_
      refine va_alen (v := 16) hx hb hK hP 1 0 rfl rfl rfl dX3_lay_12 ?_
      refine lv_icmp_ge (tgt := 29) hx hb dX3_lay_13 (by decide) (fun c_1 => ?_) (fun c_1 => ?_)
      · exact ex_7 g _ _ _ hr hP hD hS (lv_sub hl [1, 2] rfl)
      · exact absurd (kTop (i := i) (N := 16) rfl (by omega)) c_1
    | succ n_7 ih_7 =>
      intro i g H locs ls hi hr hP hD hS hl
      rewrite [L_lay_7] at hr
      refine lv_iload_n hx hb dX3_lay_7 rfl (lv_at hl 0 rfl) ?_
      refine lv_aload_n hx hb dX3_lay_8 rfl (lv_at hl 1 rfl) ?_
      refine va_get (D := (dC, dI)) (ci := 3) (v := .ref h1) (C := RX3) (T := TX3) (N := 2) hx hb hts (by decide +kernel) hown hK hP 0 rfl rfl 0 (by decide) (hts (.fieldLink RX3 9 "Shortring$Net" "near" "[I") (by decide +kernel)) (fun _ h9 => h9) rfl dX3_lay_9 ?_
      refine va_alen (v := 16) hx hb hK hP 1 0 rfl rfl rfl dX3_lay_12 ?_
      refine lv_icmp_ge (tgt := 29) hx hb dX3_lay_13 (by decide) (fun c_2 => ?_) (fun c_2 => ?_)
      · exact absurd c_2 (kLow (i := i) (N := 16) rfl (by omega) (by omega))
      · refine lv_aload_n hx hb dX3_lay_16 rfl (lv_at hl 1 rfl) ?_
        refine va_get (D := (dC, dI)) (ci := 3) (v := .ref h1) (C := RX3) (T := TX3) (N := 2) hx hb hts (by decide +kernel) hown hK hP 0 rfl rfl 0 (by decide) (hts (.fieldLink RX3 9 "Shortring$Net" "near" "[I") (by decide +kernel)) (fun _ h9 => h9) rfl dX3_lay_17 ?_
        refine lv_iload_n hx hb dX3_lay_20 rfl (lv_at hl 0 rfl) ?_
        refine lv_iconst (v := 0) hx hb dX3_lay_21 (by decide) ?_
        refine va_iast hx hb hK hP hD hS 1 0 rfl rfl (vp_in_nI (by omega) (by omega)) dX3_lay_22 (fun H locs hP hD hS => ?_)
        rw [show (nI i).toNatClampNeg = i from nI_clamp (by omega)] at hP hD
        have hP : va_P (dC, dI) kCl [(h0, .inr (3, [.ref h1, .int (nI M)])), (h1, .inl (cI, 16, .inl (upd g i (0 : Int32))))] H := hP
        have hD : va_D A [(h0, .inr (3, [.ref h1, .int (nI M)])), (h1, .inl (cI, 16, .inl (upd g i (0 : Int32))))] := hD
        refine lv_iinc (v := nI (i + 1)) (lv' := [(2, .int (nI (i + 1))), (0, .ref h0), (1, .int (nI M))]) hx hb dX3_lay_23 hl (k := 0) rfl (nI_1 _) (by decide) rfl (fun ls hl => ?_)
        refine lv_goto (tgt := 7) hx hb dX3_lay_26 (by decide) ?_
        exact ih_7 (i + 1) (upd g i (0 : Int32)) _ _ _ (by omega) hr hP hD hS (lv_sub hl [0, 1, 2] rfl)
  exact lp_7 16 0 f _ _ _ (by omega) hr hP hD hS (lv_sub hl [0, 1, 2] rfl)
def L_take_10 (g : Nat → Int32) (k : (Nat → Int32) → Nat → Int32) : Nat → Nat → (Nat → Int32) → Nat → Int32
  | 0, i, a => k a
  | n + 1, i, a =>
    L_take_10 g k n (i + 1) (upd a i (P_nearOf g (nI i)))
def P_take (f g : Nat → Int32) : Nat → Int32 :=
  L_take_10 g (fun a => a) 16 0 f
abbrev rm_X3_take : Room := { frames := 1, cells := 0, slots := 0, locals := 21 }
set_option maxHeartbeats 4000000 in
set_option maxRecDepth 100000 in
theorem k_X3_take (l : Launch) (dC : Nat → ClassId) (dI : Nat → Nat → Nat) (cI cN : ClassId) (h0 : Nat) (h1 : Nat) (K : Nat) (f : Nat → Int32) (o0 : Nat) (o1 : Nat) (J : Nat) (g : Nat → Int32) (hJ : J ≤ 16) (sz : Nat) : Met l yX3_take wsX3_take rm_X3_take (va_Pc [.ref h0, .ref o0] (kU dC dI cI cN [(h0, .inr (3, [.ref h1, .int (nI K)])), (h1, .inl (cI, 16, .inl f)), (o0, .inr (3, [.ref o1, .int (nI J)])), (o1, .inl (cI, 16, .inl g))] sz)) (kV dC dI [(h0, .inr (3, [.ref h1, .int (nI J)])), (h1, .inl (cI, 16, .inl ((P_take f g)))), (o0, .inr (3, [.ref o1, .int (nI J)])), (o1, .inl (cI, 16, .inl g))] (va_A [(h0, .inr (3, [.ref h1, .int (nI K)])), (h1, .inl (cI, 16, .inl f)), (o0, .inr (3, [.ref o1, .int (nI J)])), (o1, .inl (cI, 16, .inl g))] sz)) 0 0 (va_A [(h0, .inr (3, [.ref h1, .int (nI K)])), (h1, .inl (cI, 16, .inl f)), (o0, .inr (3, [.ref o1, .int (nI J)])), (o1, .inl (cI, 16, .inl g))] sz) := by
  refine Met.ofW (cc := cX3_take) (maxL := 3) (ret := none) (by decide) rfl ?_
  intro p e s m args below meth c s₁ B hml hv
  obtain ⟨rfl, hsz, hP, hK, hD0, hN⟩ := hv
  have hx := B.exec
  have hb := B.bytes
  have hr0 := B.returns
  have hts := atoms_spec (ws := wsX3_take) B.pre
  have hown : s.vm.findClass RX3 = some m.cls := findClass_of_methodNamed B.named
  have hlocks := B.notSynchronized
  subst hsz
  have hD := hD0.self (sz := s.heap.size)
  generalize hAe : va_A [(h0, .inr (3, [.ref h1, .int (nI K)])), (h1, .inl (cI, 16, .inl f)), (o0, .inr (3, [.ref o1, .int (nI J)])), (o1, .inl (cI, 16, .inl g))] s.heap.size = A at hD ⊢
  have hA : ∀ q : Nat, s.heap.size ≤ q → A q := fun q h => by rw [← hAe]; exact Or.inr h
  have hS : va_S A s.heap s.heap [] := va_S.rf
  have hl := lv_entry ([.ref h0, .ref o0]) (n := 3) (Nat.le_of_ble_eq_true rfl)
  rw [lg_entry_eq]
  generalize (lg_sl ([.ref h0, .ref o0]) ++ List.replicate (3 - (lg_sl ([.ref h0, .ref o0])).length) Slot.unset).toArray = ls at hl ⊢
  have hl : lv_has ls 3 [(0, .ref h0), (1, .ref o0)] := hl
  obtain ⟨ρ, hρ⟩ : ∃ ρ : Nat → Int32, ρ = P_take f g := ⟨_, rfl⟩
  have hr : P_take f g = ρ := hρ.symm
  rewrite [P_take] at hr
  refine lv_aload_n hx hb dX3_take_0 rfl (lv_at hl 0 rfl) ?_
  refine lv_aload_n hx hb dX3_take_1 rfl (lv_at hl 1 rfl) ?_
  refine va_get (D := (dC, dI)) (ci := 3) (v := .int (nI J)) (C := RX3) (T := TX3) (N := 2) hx hb hts (by decide +kernel) hown hK hP 2 rfl rfl 1 (by decide) (hts (.fieldLink RX3 15 "Shortring$Net" "knots" "I") (by decide +kernel)) (fun _ h9 => h9) rfl dX3_take_2 ?_
  refine va_put (D := (dC, dI)) (ci := 3) (v := .int (nI J)) (ty := .int) (C := RX3) (T := TX3) (N := 2) hx hb hts (by decide +kernel) tyX3 tyX3_ok nmX3 hown hK hP hD hS 0 rfl rfl 1 (by decide) (hts (.fieldLink RX3 15 "Shortring$Net" "knots" "I") (by decide +kernel)) (fun _ h9 => h9) rfl (by decide +kernel) rfl rfl (Nat.le_of_ble_eq_true rfl) dX3_take_5 (fun H locs hP hD hS => ?_)
  have hP : va_P (dC, dI) kCl [(h0, .inr (3, [.ref h1, .int (nI J)])), (h1, .inl (cI, 16, .inl f)), (o0, .inr (3, [.ref o1, .int (nI J)])), (o1, .inl (cI, 16, .inl g))] H := hP
  have hD : va_D A [(h0, .inr (3, [.ref h1, .int (nI J)])), (h1, .inl (cI, 16, .inl f)), (o0, .inr (3, [.ref o1, .int (nI J)])), (o1, .inl (cI, 16, .inl g))] := hD
  refine lv_iconst (v := 0) hx hb dX3_take_8 (by decide) ?_
  refine lv_istore_n (lv' := [(2, .int 0), (0, .ref h0), (1, .ref o0)]) hx hb dX3_take_9 rfl hl (by decide) rfl (fun ls hl => ?_)
  have ex_10 : ∀ (a : Nat → Int32) (H : Heap) (locs : List Loc) (ls : Array Slot), (a) = ρ → va_P (dC, dI) kCl [(h0, .inr (3, [.ref h1, .int (nI J)])), (h1, .inl (cI, 16, .inl a)), (o0, .inr (3, [.ref o1, .int (nI J)])), (o1, .inl (cI, 16, .inl g))] H → va_D A [(h0, .inr (3, [.ref h1, .int (nI J)])), (h1, .inl (cI, 16, .inl a)), (o0, .inr (3, [.ref o1, .int (nI J)])), (o1, .inl (cI, 16, .inl g))] → va_S A s.heap H locs → lv_has ls 3 [(0, .ref h0), (1, .ref o0)] → W p l e (headSpec wsX3_take rm_X3_take).room s m (([.ref h0, .ref o0] : List Value).toArray) below meth c H locs 0 0 (MQ below (kV dC dI [(h0, .inr (3, [.ref h1, .int (nI J)])), (h1, .inl (cI, 16, .inl ((P_take f g)))), (o0, .inr (3, [.ref o1, .int (nI J)])), (o1, .inl (cI, 16, .inl g))] A) (([.ref h0, .ref o0] : List Value).toArray) s 0 0 A) (F0 m 36 ls []) := by
    intro a H locs ls hr hP hD hS hl
    have he := hr.trans hρ
    exact W.vret hx hb hr0 (fun t ht hW => kV_end (by rw [← he]; exact hP) hS ht) hS.2.2 dX3_take_36
  have lp_10 : ∀ (n_10 i : Nat) (a : Nat → Int32) (H : Heap) (locs : List Loc) (ls : Array Slot), i + n_10 = 16 → L_take_10 g (fun a => a) n_10 i a = ρ → va_P (dC, dI) kCl [(h0, .inr (3, [.ref h1, .int (nI J)])), (h1, .inl (cI, 16, .inl a)), (o0, .inr (3, [.ref o1, .int (nI J)])), (o1, .inl (cI, 16, .inl g))] H → va_D A [(h0, .inr (3, [.ref h1, .int (nI J)])), (h1, .inl (cI, 16, .inl a)), (o0, .inr (3, [.ref o1, .int (nI J)])), (o1, .inl (cI, 16, .inl g))] → va_S A s.heap H locs → lv_has ls 3 [(2, .int (nI i)), (0, .ref h0), (1, .ref o0)] → W p l e (headSpec wsX3_take rm_X3_take).room s m (([.ref h0, .ref o0] : List Value).toArray) below meth c H locs 0 0 (MQ below (kV dC dI [(h0, .inr (3, [.ref h1, .int (nI J)])), (h1, .inl (cI, 16, .inl ((P_take f g)))), (o0, .inr (3, [.ref o1, .int (nI J)])), (o1, .inl (cI, 16, .inl g))] A) (([.ref h0, .ref o0] : List Value).toArray) s 0 0 A) (F0 m 10 ls []) := by
    intro n_10
    induction n_10 with
    | zero =>
      intro i a H locs ls hi hr hP hD hS hl
      rewrite [L_take_10] at hr
      refine lv_iload_n hx hb dX3_take_10 rfl (lv_at hl 0 rfl) ?_
      refine lv_aload_n hx hb dX3_take_11 rfl (lv_at hl 1 rfl) ?_
      refine va_get (D := (dC, dI)) (ci := 3) (v := .ref h1) (C := RX3) (T := TX3) (N := 2) hx hb hts (by decide +kernel) hown hK hP 0 rfl rfl 0 (by decide) (hts (.fieldLink RX3 9 "Shortring$Net" "near" "[I") (by decide +kernel)) (fun _ h9 => h9) rfl dX3_take_12 ?_
      refine va_alen (v := 16) hx hb hK hP 1 0 rfl rfl rfl dX3_take_15 ?_
      refine lv_icmp_ge (tgt := 36) hx hb dX3_take_16 (by decide) (fun c_1 => ?_) (fun c_1 => ?_)
      · exact ex_10 a _ _ _ hr hP hD hS (lv_sub hl [1, 2] rfl)
      · exact absurd (kTop (i := i) (N := 16) rfl (by omega)) c_1
    | succ n_10 ih_10 =>
      intro i a H locs ls hi hr hP hD hS hl
      rewrite [L_take_10] at hr
      refine lv_iload_n hx hb dX3_take_10 rfl (lv_at hl 0 rfl) ?_
      refine lv_aload_n hx hb dX3_take_11 rfl (lv_at hl 1 rfl) ?_
      refine va_get (D := (dC, dI)) (ci := 3) (v := .ref h1) (C := RX3) (T := TX3) (N := 2) hx hb hts (by decide +kernel) hown hK hP 0 rfl rfl 0 (by decide) (hts (.fieldLink RX3 9 "Shortring$Net" "near" "[I") (by decide +kernel)) (fun _ h9 => h9) rfl dX3_take_12 ?_
      refine va_alen (v := 16) hx hb hK hP 1 0 rfl rfl rfl dX3_take_15 ?_
      refine lv_icmp_ge (tgt := 36) hx hb dX3_take_16 (by decide) (fun c_2 => ?_) (fun c_2 => ?_)
      · exact absurd c_2 (kLow (i := i) (N := 16) rfl (by omega) (by omega))
      · refine lv_aload_n hx hb dX3_take_19 rfl (lv_at hl 1 rfl) ?_
        refine va_get (D := (dC, dI)) (ci := 3) (v := .ref h1) (C := RX3) (T := TX3) (N := 2) hx hb hts (by decide +kernel) hown hK hP 0 rfl rfl 0 (by decide) (hts (.fieldLink RX3 9 "Shortring$Net" "near" "[I") (by decide +kernel)) (fun _ h9 => h9) rfl dX3_take_20 ?_
        refine lv_iload_n hx hb dX3_take_23 rfl (lv_at hl 0 rfl) ?_
        refine lv_aload_n hx hb dX3_take_24 rfl (lv_at hl 2 rfl) ?_
        refine lv_iload_n hx hb dX3_take_25 rfl (lv_at hl 0 rfl) ?_
        refine kCall (va_runV (As := [.int (nI i)]) (rest := [.int (nI i), .ref h1]) ⟨hx, hb, hml, hown, hts⟩ (k_X3_nearOf l dC dI cI cN o0 o1 J g (nI i) (by first | assumption | omega | exact Int32.le_refl _ | decide)) (cwV 1 hts gX3_take_X3_nearOf rfl rfl rfl (by decide +kernel) ⟨Nat.le_of_ble_eq_true rfl, Nat.le_of_ble_eq_true rfl⟩) (kW_V hP hK hD hN (ci := 3) (q0 := 2) rfl rfl [2, 3] rfl rfl rfl) rfl rfl hl.1 rfl (lv_room (Nat.le_of_ble_eq_true rfl)) dX3_take_26 ⟨Nat.zero_le _, Nat.zero_le _⟩) hP hS (fun H locs hP hS => ?_)
        refine va_iast hx hb hK hP hD hS 1 0 rfl rfl (vp_in_nI (by omega) (by omega)) dX3_take_29 (fun H locs hP hD hS => ?_)
        rw [show (nI i).toNatClampNeg = i from nI_clamp (by omega)] at hP hD
        have hP : va_P (dC, dI) kCl [(h0, .inr (3, [.ref h1, .int (nI J)])), (h1, .inl (cI, 16, .inl (upd a i (P_nearOf g (nI i))))), (o0, .inr (3, [.ref o1, .int (nI J)])), (o1, .inl (cI, 16, .inl g))] H := hP
        have hD : va_D A [(h0, .inr (3, [.ref h1, .int (nI J)])), (h1, .inl (cI, 16, .inl (upd a i (P_nearOf g (nI i))))), (o0, .inr (3, [.ref o1, .int (nI J)])), (o1, .inl (cI, 16, .inl g))] := hD
        refine lv_iinc (v := nI (i + 1)) (lv' := [(2, .int (nI (i + 1))), (0, .ref h0), (1, .ref o0)]) hx hb dX3_take_30 hl (k := 0) rfl (nI_1 _) (by decide) rfl (fun ls hl => ?_)
        refine lv_goto (tgt := 10) hx hb dX3_take_33 (by decide) ?_
        exact ih_10 (i + 1) (upd a i (P_nearOf g (nI i))) _ _ _ (by omega) hr hP hD hS (lv_sub hl [0, 1, 2] rfl)
  exact lp_10 16 0 f _ _ _ (by omega) hr hP hD hS (lv_sub hl [0, 1, 2] rfl)
def P_join (K : Nat) (f : Nat → Int32) (one other : Int32) : Nat → Int32 :=
  if (P_isKnot K one) = 0 then
    f
  else
    if (P_isKnot K other) = 0 then
      f
    else
      if one = other then
        f
      else
        bd (upd f (one).toNatClampNeg ((f (one).toNatClampNeg) ||| (P_bit other))) (fun f_4 =>
          bd (upd f_4 (other).toNatClampNeg ((f_4 (other).toNatClampNeg) ||| (P_bit one))) (fun f_5 =>
            f_5))
abbrev rm_X3_join : Room := { frames := 1, cells := 0, slots := 0, locals := 21 }
set_option maxHeartbeats 4000000 in
set_option maxRecDepth 100000 in
theorem k_X3_join (l : Launch) (dC : Nat → ClassId) (dI : Nat → Nat → Nat) (cI cN : ClassId) (h0 : Nat) (h1 : Nat) (K : Nat) (f : Nat → Int32) (one : Int32) (other : Int32) (hK : K ≤ 16) (sz : Nat) : Met l yX3_join wsX3_join rm_X3_join (va_Pc [.ref h0, .int one, .int other] (kU dC dI cI cN [(h0, .inr (3, [.ref h1, .int (nI K)])), (h1, .inl (cI, 16, .inl f))] sz)) (kV dC dI [(h0, .inr (3, [.ref h1, .int (nI K)])), (h1, .inl (cI, 16, .inl ((P_join K f one other))))] (va_A [(h0, .inr (3, [.ref h1, .int (nI K)])), (h1, .inl (cI, 16, .inl f))] sz)) 0 0 (va_A [(h0, .inr (3, [.ref h1, .int (nI K)])), (h1, .inl (cI, 16, .inl f))] sz) := by
  refine Met.ofW (cc := cX3_join) (maxL := 3) (ret := none) (by decide) rfl ?_
  intro p e s m args below meth c s₁ B hml hv
  obtain ⟨rfl, hsz, hP, hK, hD0, hN⟩ := hv
  have hx := B.exec
  have hb := B.bytes
  have hr0 := B.returns
  have hts := atoms_spec (ws := wsX3_join) B.pre
  have hown : s.vm.findClass RX3 = some m.cls := findClass_of_methodNamed B.named
  have hlocks := B.notSynchronized
  subst hsz
  have hD := hD0.self (sz := s.heap.size)
  generalize hAe : va_A [(h0, .inr (3, [.ref h1, .int (nI K)])), (h1, .inl (cI, 16, .inl f))] s.heap.size = A at hD ⊢
  have hA : ∀ q : Nat, s.heap.size ≤ q → A q := fun q h => by rw [← hAe]; exact Or.inr h
  have hS : va_S A s.heap s.heap [] := va_S.rf
  have hl := lv_entry ([.ref h0, .int one, .int other]) (n := 3) (Nat.le_of_ble_eq_true rfl)
  rw [lg_entry_eq]
  generalize (lg_sl ([.ref h0, .int one, .int other]) ++ List.replicate (3 - (lg_sl ([.ref h0, .int one, .int other])).length) Slot.unset).toArray = ls at hl ⊢
  have hl : lv_has ls 3 [(0, .ref h0), (1, .int one), (2, .int other)] := hl
  obtain ⟨ρ, hρ⟩ : ∃ ρ : Nat → Int32, ρ = P_join K f one other := ⟨_, rfl⟩
  have hr : P_join K f one other = ρ := hρ.symm
  rewrite [P_join] at hr
  refine lv_aload_n hx hb dX3_join_0 rfl (lv_at hl 0 rfl) ?_
  refine lv_iload_n hx hb dX3_join_1 rfl (lv_at hl 1 rfl) ?_
  refine kCall (va_runV (As := [.int one]) (rest := []) ⟨hx, hb, hml, hown, hts⟩ (k_X3_isKnot l dC dI cI cN h0 h1 K f one (by first | assumption | omega | exact Int32.le_refl _ | decide)) (cwV 1 hts gX3_join_X3_isKnot rfl rfl rfl (by decide +kernel) ⟨Nat.le_of_ble_eq_true rfl, Nat.le_of_ble_eq_true rfl⟩) (kW_V hP hK hD hN (ci := 3) (q0 := 0) rfl rfl [0, 1] rfl rfl rfl) rfl rfl hl.1 rfl (lv_room (Nat.le_of_ble_eq_true rfl)) dX3_join_2 ⟨Nat.zero_le _, Nat.zero_le _⟩) hP hS (fun H locs hP hS => ?_)
  refine lv_if_eq (tgt := 47) hx hb dX3_join_5 (by decide) (fun c_1 => ?_) (fun c_1 => ?_)
  · have hr := if_to hr c_1
    have he := hr.trans hρ
    exact W.vret hx hb hr0 (fun t ht hW => kV_end (by rw [← he]; exact hP) hS ht) hS.2.2 dX3_join_47
  · have hr := if_no hr c_1
    refine lv_aload_n hx hb dX3_join_8 rfl (lv_at hl 0 rfl) ?_
    refine lv_iload_n hx hb dX3_join_9 rfl (lv_at hl 2 rfl) ?_
    refine kCall (va_runV (As := [.int other]) (rest := []) ⟨hx, hb, hml, hown, hts⟩ (k_X3_isKnot l dC dI cI cN h0 h1 K f other (by first | assumption | omega | exact Int32.le_refl _ | decide)) (cwV 1 hts gX3_join_X3_isKnot rfl rfl rfl (by decide +kernel) ⟨Nat.le_of_ble_eq_true rfl, Nat.le_of_ble_eq_true rfl⟩) (kW_V hP hK hD hN (ci := 3) (q0 := 0) rfl rfl [0, 1] rfl rfl rfl) rfl rfl hl.1 rfl (lv_room (Nat.le_of_ble_eq_true rfl)) dX3_join_10 ⟨Nat.zero_le _, Nat.zero_le _⟩) hP hS (fun H locs hP hS => ?_)
    refine lv_if_eq (tgt := 47) hx hb dX3_join_13 (by decide) (fun c_2 => ?_) (fun c_2 => ?_)
    · have hr := if_to hr c_2
      have he := hr.trans hρ
      exact W.vret hx hb hr0 (fun t ht hW => kV_end (by rw [← he]; exact hP) hS ht) hS.2.2 dX3_join_47
    · have hr := if_no hr c_2
      refine lv_iload_n hx hb dX3_join_16 rfl (lv_at hl 1 rfl) ?_
      refine lv_iload_n hx hb dX3_join_17 rfl (lv_at hl 2 rfl) ?_
      refine lv_icmp_eq (tgt := 47) hx hb dX3_join_18 (by decide) (fun c_3 => ?_) (fun c_3 => ?_)
      · have hr := if_to hr c_3
        have he := hr.trans hρ
        exact W.vret hx hb hr0 (fun t ht hW => kV_end (by rw [← he]; exact hP) hS ht) hS.2.2 dX3_join_47
      · have hr := if_no hr c_3
        refine lv_aload_n hx hb dX3_join_21 rfl (lv_at hl 0 rfl) ?_
        refine va_get (D := (dC, dI)) (ci := 3) (v := .ref h1) (C := RX3) (T := TX3) (N := 2) hx hb hts (by decide +kernel) hown hK hP 0 rfl rfl 0 (by decide) (hts (.fieldLink RX3 9 "Shortring$Net" "near" "[I") (by decide +kernel)) (fun _ h9 => h9) rfl dX3_join_22 ?_
        refine lv_iload_n hx hb dX3_join_25 rfl (lv_at hl 1 rfl) ?_
        refine lv_dup2_11 hx hb dX3_join_26 rfl rfl ?_
        refine va_iald hx hb hK hP 1 0 rfl rfl (P_isKnot_in (by assumption)) dX3_join_27 ?_
        refine lv_iload_n hx hb dX3_join_28 rfl (lv_at hl 2 rfl) ?_
        refine kCall (va_runSN (As := [.int other]) (rest := [.int (f (one).toNatClampNeg), .int one, .ref h1]) ⟨hx, hb, hml, hown, hts⟩ (k_X6_bit l dC dI cI cN other) ⟨va_cnB 1 hts gX3_join_X6_bit_n36 rfl rfl rfl (hN.1 62 _ rfl) (hts (.initialized RX6) (by decide +kernel)) (by decide +kernel) ⟨Nat.le_of_ble_eq_true rfl, Nat.le_of_ble_eq_true rfl⟩, hts (.static yX6_bit) (by decide +kernel), trivial⟩ (kW_S hP hK hD hN [] rfl rfl rfl) rfl rfl hl.1 rfl (lv_room (Nat.le_of_ble_eq_true rfl)) dX3_join_29 ⟨Nat.zero_le _, Nat.zero_le _⟩) hP hS (fun H locs hP hS => ?_)
        refine lv_ior hx hb dX3_join_32 ?_
        refine va_iast hx hb hK hP hD hS 1 0 rfl rfl (P_isKnot_in (by assumption)) dX3_join_33 (fun H locs hP hD hS => ?_)
        have hP : va_P (dC, dI) kCl [(h0, .inr (3, [.ref h1, .int (nI K)])), (h1, .inl (cI, 16, .inl (upd f (one).toNatClampNeg ((f (one).toNatClampNeg) ||| (P_bit other)))))] H := hP
        have hD : va_D A [(h0, .inr (3, [.ref h1, .int (nI K)])), (h1, .inl (cI, 16, .inl (upd f (one).toNatClampNeg ((f (one).toNatClampNeg) ||| (P_bit other)))))] := hD
        obtain ⟨f_4, ef_4⟩ : ∃ y : Nat → Int32, y = upd f (one).toNatClampNeg ((f (one).toNatClampNeg) ||| (P_bit other)) := ⟨_, rfl⟩
        rw [← ef_4] at hP hD
        have hr := bd_to hr ef_4
        refine lv_aload_n hx hb dX3_join_34 rfl (lv_at hl 0 rfl) ?_
        refine va_get (D := (dC, dI)) (ci := 3) (v := .ref h1) (C := RX3) (T := TX3) (N := 2) hx hb hts (by decide +kernel) hown hK hP 0 rfl rfl 0 (by decide) (hts (.fieldLink RX3 9 "Shortring$Net" "near" "[I") (by decide +kernel)) (fun _ h9 => h9) rfl dX3_join_35 ?_
        refine lv_iload_n hx hb dX3_join_38 rfl (lv_at hl 2 rfl) ?_
        refine lv_dup2_11 hx hb dX3_join_39 rfl rfl ?_
        refine va_iald hx hb hK hP 1 0 rfl rfl (P_isKnot_in (by assumption)) dX3_join_40 ?_
        refine lv_iload_n hx hb dX3_join_41 rfl (lv_at hl 1 rfl) ?_
        refine kCall (va_runSN (As := [.int one]) (rest := [.int (f_4 (other).toNatClampNeg), .int other, .ref h1]) ⟨hx, hb, hml, hown, hts⟩ (k_X6_bit l dC dI cI cN one) ⟨va_cnB 1 hts gX3_join_X6_bit_n36 rfl rfl rfl (hN.1 62 _ rfl) (hts (.initialized RX6) (by decide +kernel)) (by decide +kernel) ⟨Nat.le_of_ble_eq_true rfl, Nat.le_of_ble_eq_true rfl⟩, hts (.static yX6_bit) (by decide +kernel), trivial⟩ (kW_S hP hK hD hN [] rfl rfl rfl) rfl rfl hl.1 rfl (lv_room (Nat.le_of_ble_eq_true rfl)) dX3_join_42 ⟨Nat.zero_le _, Nat.zero_le _⟩) hP hS (fun H locs hP hS => ?_)
        refine lv_ior hx hb dX3_join_45 ?_
        refine va_iast hx hb hK hP hD hS 1 0 rfl rfl (P_isKnot_in (by assumption)) dX3_join_46 (fun H locs hP hD hS => ?_)
        have hP : va_P (dC, dI) kCl [(h0, .inr (3, [.ref h1, .int (nI K)])), (h1, .inl (cI, 16, .inl (upd f_4 (other).toNatClampNeg ((f_4 (other).toNatClampNeg) ||| (P_bit one)))))] H := hP
        have hD : va_D A [(h0, .inr (3, [.ref h1, .int (nI K)])), (h1, .inl (cI, 16, .inl (upd f_4 (other).toNatClampNeg ((f_4 (other).toNatClampNeg) ||| (P_bit one)))))] := hD
        obtain ⟨f_5, ef_5⟩ : ∃ y : Nat → Int32, y = upd f_4 (other).toNatClampNeg ((f_4 (other).toNatClampNeg) ||| (P_bit one)) := ⟨_, rfl⟩
        rw [← ef_5] at hP hD
        have hr := bd_to hr ef_5
        have he := hr.trans hρ
        exact W.vret hx hb hr0 (fun t ht hW => kV_end (by rw [← he]; exact hP) hS ht) hS.2.2 dX3_join_47
def P_loosen (K : Nat) (f : Nat → Int32) (one other : Int32) : Nat → Int32 :=
  if (P_isKnot K one) = 0 then
    f
  else
    if (P_isKnot K other) = 0 then
      f
    else
      bd (upd f (one).toNatClampNeg ((f (one).toNatClampNeg) &&& ((P_bit other) ^^^ (-1 : Int32)))) (fun f_3 =>
        bd (upd f_3 (other).toNatClampNeg ((f_3 (other).toNatClampNeg) &&& ((P_bit one) ^^^ (-1 : Int32)))) (fun f_4 =>
          f_4))
abbrev rm_X3_loosen : Room := { frames := 1, cells := 0, slots := 0, locals := 21 }
set_option maxHeartbeats 4000000 in
set_option maxRecDepth 100000 in
theorem k_X3_loosen (l : Launch) (dC : Nat → ClassId) (dI : Nat → Nat → Nat) (cI cN : ClassId) (h0 : Nat) (h1 : Nat) (K : Nat) (f : Nat → Int32) (one : Int32) (other : Int32) (hK : K ≤ 16) (sz : Nat) : Met l yX3_loosen wsX3_loosen rm_X3_loosen (va_Pc [.ref h0, .int one, .int other] (kU dC dI cI cN [(h0, .inr (3, [.ref h1, .int (nI K)])), (h1, .inl (cI, 16, .inl f))] sz)) (kV dC dI [(h0, .inr (3, [.ref h1, .int (nI K)])), (h1, .inl (cI, 16, .inl ((P_loosen K f one other))))] (va_A [(h0, .inr (3, [.ref h1, .int (nI K)])), (h1, .inl (cI, 16, .inl f))] sz)) 0 0 (va_A [(h0, .inr (3, [.ref h1, .int (nI K)])), (h1, .inl (cI, 16, .inl f))] sz) := by
  refine Met.ofW (cc := cX3_loosen) (maxL := 3) (ret := none) (by decide) rfl ?_
  intro p e s m args below meth c s₁ B hml hv
  obtain ⟨rfl, hsz, hP, hK, hD0, hN⟩ := hv
  have hx := B.exec
  have hb := B.bytes
  have hr0 := B.returns
  have hts := atoms_spec (ws := wsX3_loosen) B.pre
  have hown : s.vm.findClass RX3 = some m.cls := findClass_of_methodNamed B.named
  have hlocks := B.notSynchronized
  subst hsz
  have hD := hD0.self (sz := s.heap.size)
  generalize hAe : va_A [(h0, .inr (3, [.ref h1, .int (nI K)])), (h1, .inl (cI, 16, .inl f))] s.heap.size = A at hD ⊢
  have hA : ∀ q : Nat, s.heap.size ≤ q → A q := fun q h => by rw [← hAe]; exact Or.inr h
  have hS : va_S A s.heap s.heap [] := va_S.rf
  have hl := lv_entry ([.ref h0, .int one, .int other]) (n := 3) (Nat.le_of_ble_eq_true rfl)
  rw [lg_entry_eq]
  generalize (lg_sl ([.ref h0, .int one, .int other]) ++ List.replicate (3 - (lg_sl ([.ref h0, .int one, .int other])).length) Slot.unset).toArray = ls at hl ⊢
  have hl : lv_has ls 3 [(0, .ref h0), (1, .int one), (2, .int other)] := hl
  obtain ⟨ρ, hρ⟩ : ∃ ρ : Nat → Int32, ρ = P_loosen K f one other := ⟨_, rfl⟩
  have hr : P_loosen K f one other = ρ := hρ.symm
  rewrite [P_loosen] at hr
  refine lv_aload_n hx hb dX3_loosen_0 rfl (lv_at hl 0 rfl) ?_
  refine lv_iload_n hx hb dX3_loosen_1 rfl (lv_at hl 1 rfl) ?_
  refine kCall (va_runV (As := [.int one]) (rest := []) ⟨hx, hb, hml, hown, hts⟩ (k_X3_isKnot l dC dI cI cN h0 h1 K f one (by first | assumption | omega | exact Int32.le_refl _ | decide)) (cwV 1 hts gX3_loosen_X3_isKnot rfl rfl rfl (by decide +kernel) ⟨Nat.le_of_ble_eq_true rfl, Nat.le_of_ble_eq_true rfl⟩) (kW_V hP hK hD hN (ci := 3) (q0 := 0) rfl rfl [0, 1] rfl rfl rfl) rfl rfl hl.1 rfl (lv_room (Nat.le_of_ble_eq_true rfl)) dX3_loosen_2 ⟨Nat.zero_le _, Nat.zero_le _⟩) hP hS (fun H locs hP hS => ?_)
  refine lv_if_eq (tgt := 46) hx hb dX3_loosen_5 (by decide) (fun c_1 => ?_) (fun c_1 => ?_)
  · have hr := if_to hr c_1
    have he := hr.trans hρ
    exact W.vret hx hb hr0 (fun t ht hW => kV_end (by rw [← he]; exact hP) hS ht) hS.2.2 dX3_loosen_46
  · have hr := if_no hr c_1
    refine lv_aload_n hx hb dX3_loosen_8 rfl (lv_at hl 0 rfl) ?_
    refine lv_iload_n hx hb dX3_loosen_9 rfl (lv_at hl 2 rfl) ?_
    refine kCall (va_runV (As := [.int other]) (rest := []) ⟨hx, hb, hml, hown, hts⟩ (k_X3_isKnot l dC dI cI cN h0 h1 K f other (by first | assumption | omega | exact Int32.le_refl _ | decide)) (cwV 1 hts gX3_loosen_X3_isKnot rfl rfl rfl (by decide +kernel) ⟨Nat.le_of_ble_eq_true rfl, Nat.le_of_ble_eq_true rfl⟩) (kW_V hP hK hD hN (ci := 3) (q0 := 0) rfl rfl [0, 1] rfl rfl rfl) rfl rfl hl.1 rfl (lv_room (Nat.le_of_ble_eq_true rfl)) dX3_loosen_10 ⟨Nat.zero_le _, Nat.zero_le _⟩) hP hS (fun H locs hP hS => ?_)
    refine lv_if_eq (tgt := 46) hx hb dX3_loosen_13 (by decide) (fun c_2 => ?_) (fun c_2 => ?_)
    · have hr := if_to hr c_2
      have he := hr.trans hρ
      exact W.vret hx hb hr0 (fun t ht hW => kV_end (by rw [← he]; exact hP) hS ht) hS.2.2 dX3_loosen_46
    · have hr := if_no hr c_2
      refine lv_aload_n hx hb dX3_loosen_16 rfl (lv_at hl 0 rfl) ?_
      refine va_get (D := (dC, dI)) (ci := 3) (v := .ref h1) (C := RX3) (T := TX3) (N := 2) hx hb hts (by decide +kernel) hown hK hP 0 rfl rfl 0 (by decide) (hts (.fieldLink RX3 9 "Shortring$Net" "near" "[I") (by decide +kernel)) (fun _ h9 => h9) rfl dX3_loosen_17 ?_
      refine lv_iload_n hx hb dX3_loosen_20 rfl (lv_at hl 1 rfl) ?_
      refine lv_dup2_11 hx hb dX3_loosen_21 rfl rfl ?_
      refine va_iald hx hb hK hP 1 0 rfl rfl (P_isKnot_in (by assumption)) dX3_loosen_22 ?_
      refine lv_iload_n hx hb dX3_loosen_23 rfl (lv_at hl 2 rfl) ?_
      refine kCall (va_runSN (As := [.int other]) (rest := [.int (f (one).toNatClampNeg), .int one, .ref h1]) ⟨hx, hb, hml, hown, hts⟩ (k_X6_bit l dC dI cI cN other) ⟨va_cnB 1 hts gX3_loosen_X6_bit_n36 rfl rfl rfl (hN.1 62 _ rfl) (hts (.initialized RX6) (by decide +kernel)) (by decide +kernel) ⟨Nat.le_of_ble_eq_true rfl, Nat.le_of_ble_eq_true rfl⟩, hts (.static yX6_bit) (by decide +kernel), trivial⟩ (kW_S hP hK hD hN [] rfl rfl rfl) rfl rfl hl.1 rfl (lv_room (Nat.le_of_ble_eq_true rfl)) dX3_loosen_24 ⟨Nat.zero_le _, Nat.zero_le _⟩) hP hS (fun H locs hP hS => ?_)
      refine lv_iconst (v := (-1)) hx hb dX3_loosen_27 (by decide) ?_
      refine lv_ixor hx hb dX3_loosen_28 ?_
      refine lv_iand hx hb dX3_loosen_29 ?_
      refine va_iast hx hb hK hP hD hS 1 0 rfl rfl (P_isKnot_in (by assumption)) dX3_loosen_30 (fun H locs hP hD hS => ?_)
      have hP : va_P (dC, dI) kCl [(h0, .inr (3, [.ref h1, .int (nI K)])), (h1, .inl (cI, 16, .inl (upd f (one).toNatClampNeg ((f (one).toNatClampNeg) &&& ((P_bit other) ^^^ (-1 : Int32))))))] H := hP
      have hD : va_D A [(h0, .inr (3, [.ref h1, .int (nI K)])), (h1, .inl (cI, 16, .inl (upd f (one).toNatClampNeg ((f (one).toNatClampNeg) &&& ((P_bit other) ^^^ (-1 : Int32))))))] := hD
      obtain ⟨f_3, ef_3⟩ : ∃ y : Nat → Int32, y = upd f (one).toNatClampNeg ((f (one).toNatClampNeg) &&& ((P_bit other) ^^^ (-1 : Int32))) := ⟨_, rfl⟩
      rw [← ef_3] at hP hD
      have hr := bd_to hr ef_3
      refine lv_aload_n hx hb dX3_loosen_31 rfl (lv_at hl 0 rfl) ?_
      refine va_get (D := (dC, dI)) (ci := 3) (v := .ref h1) (C := RX3) (T := TX3) (N := 2) hx hb hts (by decide +kernel) hown hK hP 0 rfl rfl 0 (by decide) (hts (.fieldLink RX3 9 "Shortring$Net" "near" "[I") (by decide +kernel)) (fun _ h9 => h9) rfl dX3_loosen_32 ?_
      refine lv_iload_n hx hb dX3_loosen_35 rfl (lv_at hl 2 rfl) ?_
      refine lv_dup2_11 hx hb dX3_loosen_36 rfl rfl ?_
      refine va_iald hx hb hK hP 1 0 rfl rfl (P_isKnot_in (by assumption)) dX3_loosen_37 ?_
      refine lv_iload_n hx hb dX3_loosen_38 rfl (lv_at hl 1 rfl) ?_
      refine kCall (va_runSN (As := [.int one]) (rest := [.int (f_3 (other).toNatClampNeg), .int other, .ref h1]) ⟨hx, hb, hml, hown, hts⟩ (k_X6_bit l dC dI cI cN one) ⟨va_cnB 1 hts gX3_loosen_X6_bit_n36 rfl rfl rfl (hN.1 62 _ rfl) (hts (.initialized RX6) (by decide +kernel)) (by decide +kernel) ⟨Nat.le_of_ble_eq_true rfl, Nat.le_of_ble_eq_true rfl⟩, hts (.static yX6_bit) (by decide +kernel), trivial⟩ (kW_S hP hK hD hN [] rfl rfl rfl) rfl rfl hl.1 rfl (lv_room (Nat.le_of_ble_eq_true rfl)) dX3_loosen_39 ⟨Nat.zero_le _, Nat.zero_le _⟩) hP hS (fun H locs hP hS => ?_)
      refine lv_iconst (v := (-1)) hx hb dX3_loosen_42 (by decide) ?_
      refine lv_ixor hx hb dX3_loosen_43 ?_
      refine lv_iand hx hb dX3_loosen_44 ?_
      refine va_iast hx hb hK hP hD hS 1 0 rfl rfl (P_isKnot_in (by assumption)) dX3_loosen_45 (fun H locs hP hD hS => ?_)
      have hP : va_P (dC, dI) kCl [(h0, .inr (3, [.ref h1, .int (nI K)])), (h1, .inl (cI, 16, .inl (upd f_3 (other).toNatClampNeg ((f_3 (other).toNatClampNeg) &&& ((P_bit one) ^^^ (-1 : Int32))))))] H := hP
      have hD : va_D A [(h0, .inr (3, [.ref h1, .int (nI K)])), (h1, .inl (cI, 16, .inl (upd f_3 (other).toNatClampNeg ((f_3 (other).toNatClampNeg) &&& ((P_bit one) ^^^ (-1 : Int32))))))] := hD
      obtain ⟨f_4, ef_4⟩ : ∃ y : Nat → Int32, y = upd f_3 (other).toNatClampNeg ((f_3 (other).toNatClampNeg) &&& ((P_bit one) ^^^ (-1 : Int32))) := ⟨_, rfl⟩
      rw [← ef_4] at hP hD
      have hr := bd_to hr ef_4
      have he := hr.trans hρ
      exact W.vret hx hb hr0 (fun t ht hW => kV_end (by rw [← he]; exact hP) hS ht) hS.2.2 dX3_loosen_46
