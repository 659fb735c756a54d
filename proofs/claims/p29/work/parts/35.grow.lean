/-! the object: grown (printed by wip/gen) -/
def L_grow_43 (K : Nat) (cnt len : Int32) (k : (Nat → Int32) → (Nat → Int32) → (Nat → Int32) → (Nat → Int32) → (Nat → Int32) → Int32 → Int32 → Int32 → Int32 → (Int32 × (Nat → Int32) × (Nat → Int32) × (Nat → Int32) × (Nat → Int32) × (Nat → Int32) × Int32 × Int32 × Int32 × Int32 × (Nat → Int32) × (Nat → Int32)) ⊕ Nat) : Nat → Nat → (Nat → Int32) → (Nat → Int32) → (Nat → Int32) → (Nat → Int32) → (Nat → Int32) → Int32 → Int32 → Int32 → Int32 → (Int32 × (Nat → Int32) × (Nat → Int32) × (Nat → Int32) × (Nat → Int32) × (Nat → Int32) × Int32 × Int32 × Int32 × Int32 × (Nat → Int32) × (Nat → Int32)) ⊕ Nat
  | 0, step, fa, b1, b2, b3, b4, x1, x2, x3, x4 => k fa b1 b2 b3 b4 x1 x2 x3 x4
  | n + 1, step, fa, b1, b2, b3, b4, x1, x2, x3, x4 =>
    if x2 = 0 then
      bd (P_step K fa b1 b2 b3 b4 cnt len x1 x2 x3 x4) (fun r_1 =>
        L_grow_43 K cnt len k n (step + 1) r_1.2.2.2.2.1 r_1.1 r_1.2.1 r_1.2.2.1 r_1.2.2.2.1 r_1.2.2.2.2.2.1 r_1.2.2.2.2.2.2.1 r_1.2.2.2.2.2.2.2.1 r_1.2.2.2.2.2.2.2.2)
    else
      k fa b1 b2 b3 b4 x1 x2 x3 x4
def P_grow (K : Nat) (f : Nat → Int32) (bw : Nat → Int32) (bars : Nat → Int32) (puts : Nat → Int32) (bap : Nat → Int32) (isOn : Int32) (cnt : Int32) (len : Int32) (stp : Int32) (sta : Int32) (pm : Int32) (bm : Int32) (g : Nat → Int32) (t : Nat → Int32) (steps : Int32) : (Int32 × (Nat → Int32) × (Nat → Int32) × (Nat → Int32) × (Nat → Int32) × (Nat → Int32) × Int32 × Int32 × Int32 × Int32 × (Nat → Int32) × (Nat → Int32)) ⊕ Nat :=
  if (P_isWithin steps 1 400) = 0 then
    Sum.inr 1
  else
    if isOn = 0 then
      Sum.inr 3
    else
      L_grow_43 K cnt len (fun fa b1 b2 b3 b4 x1 x2 x3 x4 => if x2 = (2 : Int32) then bd (P_prove g (nI K) cnt len) (fun r_5 => bd (P_look t K fa) (fun r_6 => Sum.inl (x2, fa, b1, b2, b3, b4, x1, x2, x3, x4, r_5, r_6))) else bd (P_look t K fa) (fun r_4 => Sum.inl (x2, fa, b1, b2, b3, b4, x1, x2, x3, x4, g, r_4))) steps.toNatClampNeg 0 f bw bars puts bap stp sta pm bm
theorem L_grow_inl {K : Nat} {cnt len : Int32} {k : (Nat → Int32) → (Nat → Int32) → (Nat → Int32) → (Nat → Int32) → (Nat → Int32) → Int32 → Int32 → Int32 → Int32 → (Int32 × (Nat → Int32) × (Nat → Int32) × (Nat → Int32) × (Nat → Int32) × (Nat → Int32) × Int32 × Int32 × Int32 × Int32 × (Nat → Int32) × (Nat → Int32)) ⊕ Nat} (hk : ∀ a b c d e f g h i, ∃ v, k a b c d e f g h i = Sum.inl v) : ∀ (n step : Nat) a b c d e f g h i, ∃ v, L_grow_43 K cnt len k n step a b c d e f g h i = Sum.inl v := by
  intro n
  induction n with
  | zero => intro step a b c d e f g h i; exact hk _ _ _ _ _ _ _ _ _
  | succ n ih =>
    intro step a b c d e f g h i
    rw [L_grow_43]
    by_cases c9 : g = 0
    · rw [if_pos c9]
      exact ih _ _ _ _ _ _ _ _ _ _
    · rw [if_neg c9]
      exact hk _ _ _ _ _ _ _ _ _
abbrev rm_X6_grow : Room := { frames := 6, cells := 0, slots := 0, locals := 143 }
set_option maxHeartbeats 4000000 in
set_option maxRecDepth 100000 in
theorem k_X6_grow (l : Launch) (dC : Nat → ClassId) (dI : Nat → Nat → Nat) (cI cN : ClassId) (s0 : Nat) (sc0 : Nat) (kp0 : Nat) (ta0 : Nat) (km : Int32) (rf : Int32) (d0 : Nat) (c0 : Nat) (h0 : Nat) (h1 : Nat) (K : Nat) (f : Nat → Int32) (a0 : Nat) (a1 : Nat) (a2 : Nat) (a3 : Nat) (a4 : Nat) (isOn : Int32) (cnt : Int32) (len : Int32) (stp : Int32) (sta : Int32) (pm : Int32) (bm : Int32) (bw : Nat → Int32) (bars : Nat → Int32) (puts : Nat → Int32) (bap : Nat → Int32) (q0 : Nat) (q1 : Nat) (q2 : Nat) (g : Nat → Int32) (t : Nat → Int32) (steps : Int32) (hK : K ≤ 16) (hbap : ∀ j, 0 ≤ bap j) (hbm : 0 ≤ bm) (sz : Nat) (v : Int32 × (Nat → Int32) × (Nat → Int32) × (Nat → Int32) × (Nat → Int32) × (Nat → Int32) × Int32 × Int32 × Int32 × Int32 × (Nat → Int32) × (Nat → Int32)) (hok : P_grow K f bw bars puts bap isOn cnt len stp sta pm bm g t steps = .inl v) : Met l yX6_grow wsX6_grow rm_X6_grow (va_Pc [.ref s0, .int steps] (kU dC dI cI cN [(s0, .inr (5, [.ref h0, .ref sc0, .ref kp0, .ref a0, .ref q0, .ref d0, .ref c0, .ref ta0, .int km, .int rf])), (h0, .inr (3, [.ref h1, .int (nI K)])), (h1, .inl (cI, 16, .inl f)), (a0, .inr (0, [.ref a1, .ref a2, .ref a3, .ref a4, .int isOn, .int cnt, .int len, .int stp, .int sta, .int pm, .int bm])), (a1, .inl (cI, 16, .inl bw)), (a2, .inl (cI, 120, .inl bars)), (a3, .inl (cI, 40, .inl puts)), (a4, .inl (cI, 40, .inl bap)), (q0, .inr (1, [.ref q1, .ref q2])), (q1, .inl (cI, 102, .inl g)), (q2, .inl (cI, 54, .inl t))] sz)) (kVi dC dI v.1 [(s0, .inr (5, [.ref h0, .ref sc0, .ref kp0, .ref a0, .ref q0, .ref d0, .ref c0, .ref ta0, .int km, .int rf])), (h0, .inr (3, [.ref h1, .int (nI K)])), (h1, .inl (cI, 16, .inl (v.2.1))), (a0, .inr (0, [.ref a1, .ref a2, .ref a3, .ref a4, .int isOn, .int cnt, .int len, .int (v.2.2.2.2.2.2.1), .int (v.2.2.2.2.2.2.2.1), .int (v.2.2.2.2.2.2.2.2.1), .int (v.2.2.2.2.2.2.2.2.2.1)])), (a1, .inl (cI, 16, .inl (v.2.2.1))), (a2, .inl (cI, 120, .inl (v.2.2.2.1))), (a3, .inl (cI, 40, .inl (v.2.2.2.2.1))), (a4, .inl (cI, 40, .inl (v.2.2.2.2.2.1))), (q0, .inr (1, [.ref q1, .ref q2])), (q1, .inl (cI, 102, .inl (v.2.2.2.2.2.2.2.2.2.2.1))), (q2, .inl (cI, 54, .inl (v.2.2.2.2.2.2.2.2.2.2.2)))] (va_A [(s0, .inr (5, [.ref h0, .ref sc0, .ref kp0, .ref a0, .ref q0, .ref d0, .ref c0, .ref ta0, .int km, .int rf])), (h0, .inr (3, [.ref h1, .int (nI K)])), (h1, .inl (cI, 16, .inl f)), (a0, .inr (0, [.ref a1, .ref a2, .ref a3, .ref a4, .int isOn, .int cnt, .int len, .int stp, .int sta, .int pm, .int bm])), (a1, .inl (cI, 16, .inl bw)), (a2, .inl (cI, 120, .inl bars)), (a3, .inl (cI, 40, .inl puts)), (a4, .inl (cI, 40, .inl bap)), (q0, .inr (1, [.ref q1, .ref q2])), (q1, .inl (cI, 102, .inl g)), (q2, .inl (cI, 54, .inl t))] sz)) 0 0 (va_A [(s0, .inr (5, [.ref h0, .ref sc0, .ref kp0, .ref a0, .ref q0, .ref d0, .ref c0, .ref ta0, .int km, .int rf])), (h0, .inr (3, [.ref h1, .int (nI K)])), (h1, .inl (cI, 16, .inl f)), (a0, .inr (0, [.ref a1, .ref a2, .ref a3, .ref a4, .int isOn, .int cnt, .int len, .int stp, .int sta, .int pm, .int bm])), (a1, .inl (cI, 16, .inl bw)), (a2, .inl (cI, 120, .inl bars)), (a3, .inl (cI, 40, .inl puts)), (a4, .inl (cI, 40, .inl bap)), (q0, .inr (1, [.ref q1, .ref q2])), (q1, .inl (cI, 102, .inl g)), (q2, .inl (cI, 54, .inl t))] sz) := by
  refine Met.ofW (cc := cX6_grow) (maxL := 3) (ret := (some .int)) (by decide) rfl ?_
  intro p e s m args below meth c s₁ B hml hv
  obtain ⟨rfl, hsz, hP, hK, hD0, hN⟩ := hv
  have hx := B.exec
  have hb := B.bytes
  have hr0 := B.returns
  have hts := atoms_spec (ws := wsX6_grow) B.pre
  have hown : s.vm.findClass RX6 = some m.cls := findClass_of_methodNamed B.named
  have hlocks := B.notSynchronized
  subst hsz
  have hD := hD0.self (sz := s.heap.size)
  generalize hAe : va_A [(s0, .inr (5, [.ref h0, .ref sc0, .ref kp0, .ref a0, .ref q0, .ref d0, .ref c0, .ref ta0, .int km, .int rf])), (h0, .inr (3, [.ref h1, .int (nI K)])), (h1, .inl (cI, 16, .inl f)), (a0, .inr (0, [.ref a1, .ref a2, .ref a3, .ref a4, .int isOn, .int cnt, .int len, .int stp, .int sta, .int pm, .int bm])), (a1, .inl (cI, 16, .inl bw)), (a2, .inl (cI, 120, .inl bars)), (a3, .inl (cI, 40, .inl puts)), (a4, .inl (cI, 40, .inl bap)), (q0, .inr (1, [.ref q1, .ref q2])), (q1, .inl (cI, 102, .inl g)), (q2, .inl (cI, 54, .inl t))] s.heap.size = A at hD ⊢
  have hA : ∀ q : Nat, s.heap.size ≤ q → A q := fun q h => by rw [← hAe]; exact Or.inr h
  have hS : va_S A s.heap s.heap [] := va_S.rf
  have hl := lv_entry ([.ref s0, .int steps]) (n := 3) (Nat.le_of_ble_eq_true rfl)
  rw [lg_entry_eq]
  generalize (lg_sl ([.ref s0, .int steps]) ++ List.replicate (3 - (lg_sl ([.ref s0, .int steps])).length) Slot.unset).toArray = ls at hl ⊢
  have hl : lv_has ls 3 [(0, .ref s0), (1, .int steps)] := hl
  obtain ⟨ρ, hρ⟩ : ∃ ρ : (Int32 × (Nat → Int32) × (Nat → Int32) × (Nat → Int32) × (Nat → Int32) × (Nat → Int32) × Int32 × Int32 × Int32 × Int32 × (Nat → Int32) × (Nat → Int32)) ⊕ Nat, ρ = P_grow K f bw bars puts bap isOn cnt len stp sta pm bm g t steps := ⟨_, rfl⟩
  have hr : P_grow K f bw bars puts bap isOn cnt len stp sta pm bm g t steps = ρ := hρ.symm
  rewrite [P_grow] at hr
  refine lv_iload_n hx hb dX6_grow_0 rfl (lv_at hl 1 rfl) ?_
  refine lv_iconst (v := 1) hx hb dX6_grow_1 (by decide) ?_
  refine lv_sipush (v := 400) hx hb dX6_grow_2 (by decide) ?_
  refine kCall (va_runS (As := [.int steps, .int 1, .int 400]) (rest := []) ⟨hx, hb, hml, hown, hts⟩ (k_X6_isWithin l dC dI cI cN steps 1 400) (va_cwS 3 hts gX6_grow_X6_isWithin rfl rfl rfl (by decide +kernel) ⟨Nat.le_of_ble_eq_true rfl, Nat.le_of_ble_eq_true rfl⟩) (kW_S hP hK hD hN [] rfl rfl rfl) rfl rfl hl.1 rfl (lv_room (Nat.le_of_ble_eq_true rfl)) dX6_grow_5 ⟨Nat.zero_le _, Nat.zero_le _⟩) hP hS (fun H locs hP hS => ?_)
  refine lv_if_ne (tgt := 21) hx hb dX6_grow_8 (by decide) (fun c_1 => ?_) (fun c_1 => ?_)
  · have hr := if_no hr c_1
    refine lv_aload_n hx hb dX6_grow_21 rfl (lv_at hl 0 rfl) ?_
    refine va_get (D := (dC, dI)) (ci := 5) (v := .ref a0) (C := RX6) (T := TX6) (N := 10) hx hb hts (by decide +kernel) hown hK hP 0 rfl rfl 3 (by decide) (hts (.fieldLink RX6 26 "Shortring" "hunt" "LShortring$Hunt;") (by decide +kernel)) (fun _ h9 => h9) rfl dX6_grow_22 ?_
    refine va_getN (D := (dC, dI)) (ci := 0) (v := .int isOn) (C := RX0) (T := TX0) (N := 11) hx hb hts (by decide +kernel) hown hK hP 3 rfl rfl 4 (by decide) (va_Nw.use rfl (hN.2 1 _ rfl)) (fun _ h9 => h9) rfl dX6_grow_25 ?_
    refine lv_if_ne (tgt := 41) hx hb dX6_grow_28 (by decide) (fun c_2 => ?_) (fun c_2 => ?_)
    · have hr := if_no hr c_2
      refine lv_iconst (v := 0) hx hb dX6_grow_41 (by decide) ?_
      refine lv_istore_n (lv' := [(2, .int 0), (0, .ref s0), (1, .int steps)]) hx hb dX6_grow_42 rfl hl (by decide) rfl (fun ls hl => ?_)
      have ex_43 : ∀ (fa : Nat → Int32) (b1 : Nat → Int32) (b2 : Nat → Int32) (b3 : Nat → Int32) (b4 : Nat → Int32) (x1 : Int32) (x2 : Int32) (x3 : Int32) (x4 : Int32) (H : Heap) (locs : List Loc) (ls : Array Slot), (if x2 = (2 : Int32) then bd (P_prove g (nI K) cnt len) (fun r_5 => bd (P_look t K fa) (fun r_6 => Sum.inl (x2, fa, b1, b2, b3, b4, x1, x2, x3, x4, r_5, r_6))) else bd (P_look t K fa) (fun r_4 => Sum.inl (x2, fa, b1, b2, b3, b4, x1, x2, x3, x4, g, r_4))) = ρ → va_P (dC, dI) kCl [(s0, .inr (5, [.ref h0, .ref sc0, .ref kp0, .ref a0, .ref q0, .ref d0, .ref c0, .ref ta0, .int km, .int rf])), (h0, .inr (3, [.ref h1, .int (nI K)])), (h1, .inl (cI, 16, .inl fa)), (a0, .inr (0, [.ref a1, .ref a2, .ref a3, .ref a4, .int isOn, .int cnt, .int len, .int x1, .int x2, .int x3, .int x4])), (a1, .inl (cI, 16, .inl b1)), (a2, .inl (cI, 120, .inl b2)), (a3, .inl (cI, 40, .inl b3)), (a4, .inl (cI, 40, .inl b4)), (q0, .inr (1, [.ref q1, .ref q2])), (q1, .inl (cI, 102, .inl g)), (q2, .inl (cI, 54, .inl t))] H → va_D A [(s0, .inr (5, [.ref h0, .ref sc0, .ref kp0, .ref a0, .ref q0, .ref d0, .ref c0, .ref ta0, .int km, .int rf])), (h0, .inr (3, [.ref h1, .int (nI K)])), (h1, .inl (cI, 16, .inl fa)), (a0, .inr (0, [.ref a1, .ref a2, .ref a3, .ref a4, .int isOn, .int cnt, .int len, .int x1, .int x2, .int x3, .int x4])), (a1, .inl (cI, 16, .inl b1)), (a2, .inl (cI, 120, .inl b2)), (a3, .inl (cI, 40, .inl b3)), (a4, .inl (cI, 40, .inl b4)), (q0, .inr (1, [.ref q1, .ref q2])), (q1, .inl (cI, 102, .inl g)), (q2, .inl (cI, 54, .inl t))] → va_S A s.heap H locs → lv_has ls 3 [(0, .ref s0), (1, .int steps)] → W p l e (headSpec wsX6_grow rm_X6_grow).room s m (([.ref s0, .int steps] : List Value).toArray) below meth c H locs 0 0 (MQ below (kVi dC dI v.1 [(s0, .inr (5, [.ref h0, .ref sc0, .ref kp0, .ref a0, .ref q0, .ref d0, .ref c0, .ref ta0, .int km, .int rf])), (h0, .inr (3, [.ref h1, .int (nI K)])), (h1, .inl (cI, 16, .inl (v.2.1))), (a0, .inr (0, [.ref a1, .ref a2, .ref a3, .ref a4, .int isOn, .int cnt, .int len, .int (v.2.2.2.2.2.2.1), .int (v.2.2.2.2.2.2.2.1), .int (v.2.2.2.2.2.2.2.2.1), .int (v.2.2.2.2.2.2.2.2.2.1)])), (a1, .inl (cI, 16, .inl (v.2.2.1))), (a2, .inl (cI, 120, .inl (v.2.2.2.1))), (a3, .inl (cI, 40, .inl (v.2.2.2.2.1))), (a4, .inl (cI, 40, .inl (v.2.2.2.2.2.1))), (q0, .inr (1, [.ref q1, .ref q2])), (q1, .inl (cI, 102, .inl (v.2.2.2.2.2.2.2.2.2.2.1))), (q2, .inl (cI, 54, .inl (v.2.2.2.2.2.2.2.2.2.2.2)))] A) (([.ref s0, .int steps] : List Value).toArray) s 0 0 A) (F0 m 75 ls []) := by
        intro fa b1 b2 b3 b4 x1 x2 x3 x4 H locs ls hr hP hD hS hl
        refine lv_aload_n hx hb dX6_grow_75 rfl (lv_at hl 0 rfl) ?_
        refine va_get (D := (dC, dI)) (ci := 5) (v := .ref a0) (C := RX6) (T := TX6) (N := 10) hx hb hts (by decide +kernel) hown hK hP 0 rfl rfl 3 (by decide) (hts (.fieldLink RX6 26 "Shortring" "hunt" "LShortring$Hunt;") (by decide +kernel)) (fun _ h9 => h9) rfl dX6_grow_76 ?_
        refine va_getN (D := (dC, dI)) (ci := 0) (v := .int x2) (C := RX0) (T := TX0) (N := 11) hx hb hts (by decide +kernel) hown hK hP 3 rfl rfl 8 (by decide) (va_Nw.use rfl (hN.2 2 _ rfl)) (fun _ h9 => h9) rfl dX6_grow_79 ?_
        refine lv_iconst (v := 2) hx hb dX6_grow_82 (by decide) ?_
        refine lv_icmp_ne (tgt := 114) hx hb dX6_grow_83 (by decide) (fun c_3 => ?_) (fun c_3 => ?_)
        · have hr := if_no hr c_3
          refine lv_aload_n hx hb dX6_grow_114 rfl (lv_at hl 0 rfl) ?_
          refine va_get (D := (dC, dI)) (ci := 5) (v := .ref q0) (C := RX6) (T := TX6) (N := 10) hx hb hts (by decide +kernel) hown hK hP 0 rfl rfl 4 (by decide) (hts (.fieldLink RX6 33 "Shortring" "ledger" "LShortring$Ledger;") (by decide +kernel)) (fun _ h9 => h9) rfl dX6_grow_115 ?_
          refine lv_aload_n hx hb dX6_grow_118 rfl (lv_at hl 0 rfl) ?_
          refine va_get (D := (dC, dI)) (ci := 5) (v := .ref h0) (C := RX6) (T := TX6) (N := 10) hx hb hts (by decide +kernel) hown hK hP 0 rfl rfl 0 (by decide) (hts (.fieldLink RX6 12 "Shortring" "net" "LShortring$Net;") (by decide +kernel)) (fun _ h9 => h9) rfl dX6_grow_119 ?_
          refine kCallV (wr := [(s0, .inr (5, [.ref h0, .ref sc0, .ref kp0, .ref a0, .ref q0, .ref d0, .ref c0, .ref ta0, .int km, .int rf])), (a0, .inr (0, [.ref a1, .ref a2, .ref a3, .ref a4, .int isOn, .int cnt, .int len, .int x1, .int x2, .int x3, .int x4])), (a1, .inl (cI, 16, .inl b1)), (a2, .inl (cI, 120, .inl b2)), (a3, .inl (cI, 40, .inl b3)), (a4, .inl (cI, 40, .inl b4))]) (va_runVN (As := [.ref h0]) (rest := []) ⟨hx, hb, hml, hown, hts⟩ (k_X1_look l dC dI cI cN q0 q1 q2 g t h0 h1 K fa (by first | assumption | omega | exact Int32.le_refl _ | decide) _) ⟨va_cnB 1 hts gX6_grow_X1_look_n83 rfl rfl rfl (hN.1 7 _ rfl) (hts (.initialized RX1) (by decide +kernel)) (by decide +kernel) ⟨Nat.le_of_ble_eq_true rfl, Nat.le_of_ble_eq_true rfl⟩, hts (.instanceMethod yX1_look) (by decide +kernel), hts (.selects RX1 yX1_look yX1_look) (by decide +kernel)⟩ (kU_V hP hK hD hN (ci := 1) (q0 := 8) rfl rfl [8, 9, 10, 1, 2] rfl rfl rfl) rfl rfl hl.1 rfl (lv_room (Nat.le_of_ble_eq_true rfl)) dX6_grow_122 ⟨Nat.zero_le _, Nat.zero_le _⟩) hP hD hS hA [8, 9, 10, 1, 2] [0, 3, 4, 5, 6, 7] rfl rfl rfl rfl (by decide) rfl (fun H locs hP hD hS => ?_)
          obtain ⟨r_4, er_4⟩ : ∃ y : Nat → Int32, y = (P_look t K fa) := ⟨_, rfl⟩
          try rw [← er_4] at hP hD
          have hr := bd_to hr er_4
          have hP : va_P (dC, dI) kCl [(s0, .inr (5, [.ref h0, .ref sc0, .ref kp0, .ref a0, .ref q0, .ref d0, .ref c0, .ref ta0, .int km, .int rf])), (h0, .inr (3, [.ref h1, .int (nI K)])), (h1, .inl (cI, 16, .inl fa)), (a0, .inr (0, [.ref a1, .ref a2, .ref a3, .ref a4, .int isOn, .int cnt, .int len, .int x1, .int x2, .int x3, .int x4])), (a1, .inl (cI, 16, .inl b1)), (a2, .inl (cI, 120, .inl b2)), (a3, .inl (cI, 40, .inl b3)), (a4, .inl (cI, 40, .inl b4)), (q0, .inr (1, [.ref q1, .ref q2])), (q1, .inl (cI, 102, .inl g)), (q2, .inl (cI, 54, .inl r_4))] H := hP.sub [0, 9, 10, 1, 2, 3, 4, 5, 6, 7, 8] rfl
          have hD : va_D A [(s0, .inr (5, [.ref h0, .ref sc0, .ref kp0, .ref a0, .ref q0, .ref d0, .ref c0, .ref ta0, .int km, .int rf])), (h0, .inr (3, [.ref h1, .int (nI K)])), (h1, .inl (cI, 16, .inl fa)), (a0, .inr (0, [.ref a1, .ref a2, .ref a3, .ref a4, .int isOn, .int cnt, .int len, .int x1, .int x2, .int x3, .int x4])), (a1, .inl (cI, 16, .inl b1)), (a2, .inl (cI, 120, .inl b2)), (a3, .inl (cI, 40, .inl b3)), (a4, .inl (cI, 40, .inl b4)), (q0, .inr (1, [.ref q1, .ref q2])), (q1, .inl (cI, 102, .inl g)), (q2, .inl (cI, 54, .inl r_4))] := hD.sub [0, 9, 10, 1, 2, 3, 4, 5, 6, 7, 8] (by decide) rfl
          refine lv_aload_n hx hb dX6_grow_125 rfl (lv_at hl 0 rfl) ?_
          refine va_get (D := (dC, dI)) (ci := 5) (v := .ref a0) (C := RX6) (T := TX6) (N := 10) hx hb hts (by decide +kernel) hown hK hP 0 rfl rfl 3 (by decide) (hts (.fieldLink RX6 26 "Shortring" "hunt" "LShortring$Hunt;") (by decide +kernel)) (fun _ h9 => h9) rfl dX6_grow_126 ?_
          refine va_getN (D := (dC, dI)) (ci := 0) (v := .int x2) (C := RX0) (T := TX0) (N := 11) hx hb hts (by decide +kernel) hown hK hP 3 rfl rfl 8 (by decide) (va_Nw.use rfl (hN.2 2 _ rfl)) (fun _ h9 => h9) rfl dX6_grow_129 ?_
          have he := Sum.inl.inj (hr.trans (hρ.trans hok))
          subst he
          exact W.iret (v := x2) hx hb hr0 (fun t ht hW => kVi_end rfl hP hS ht) hS.2.2 dX6_grow_132
        · have hr := if_to hr c_3
          refine lv_aload_n hx hb dX6_grow_86 rfl (lv_at hl 0 rfl) ?_
          refine va_get (D := (dC, dI)) (ci := 5) (v := .ref q0) (C := RX6) (T := TX6) (N := 10) hx hb hts (by decide +kernel) hown hK hP 0 rfl rfl 4 (by decide) (hts (.fieldLink RX6 33 "Shortring" "ledger" "LShortring$Ledger;") (by decide +kernel)) (fun _ h9 => h9) rfl dX6_grow_87 ?_
          refine lv_aload_n hx hb dX6_grow_90 rfl (lv_at hl 0 rfl) ?_
          refine va_get (D := (dC, dI)) (ci := 5) (v := .ref h0) (C := RX6) (T := TX6) (N := 10) hx hb hts (by decide +kernel) hown hK hP 0 rfl rfl 0 (by decide) (hts (.fieldLink RX6 12 "Shortring" "net" "LShortring$Net;") (by decide +kernel)) (fun _ h9 => h9) rfl dX6_grow_91 ?_
          refine va_getN (D := (dC, dI)) (ci := 3) (v := .int (nI K)) (C := RX3) (T := TX3) (N := 2) hx hb hts (by decide +kernel) hown hK hP 1 rfl rfl 1 (by decide) (va_Nw.use rfl (hN.2 0 _ rfl)) (fun _ h9 => h9) rfl dX6_grow_94 ?_
          refine lv_aload_n hx hb dX6_grow_97 rfl (lv_at hl 0 rfl) ?_
          refine va_get (D := (dC, dI)) (ci := 5) (v := .ref a0) (C := RX6) (T := TX6) (N := 10) hx hb hts (by decide +kernel) hown hK hP 0 rfl rfl 3 (by decide) (hts (.fieldLink RX6 26 "Shortring" "hunt" "LShortring$Hunt;") (by decide +kernel)) (fun _ h9 => h9) rfl dX6_grow_98 ?_
          refine va_getN (D := (dC, dI)) (ci := 0) (v := .int cnt) (C := RX0) (T := TX0) (N := 11) hx hb hts (by decide +kernel) hown hK hP 3 rfl rfl 5 (by decide) (va_Nw.use rfl (hN.2 3 _ rfl)) (fun _ h9 => h9) rfl dX6_grow_101 ?_
          refine lv_aload_n hx hb dX6_grow_104 rfl (lv_at hl 0 rfl) ?_
          refine va_get (D := (dC, dI)) (ci := 5) (v := .ref a0) (C := RX6) (T := TX6) (N := 10) hx hb hts (by decide +kernel) hown hK hP 0 rfl rfl 3 (by decide) (hts (.fieldLink RX6 26 "Shortring" "hunt" "LShortring$Hunt;") (by decide +kernel)) (fun _ h9 => h9) rfl dX6_grow_105 ?_
          refine va_getN (D := (dC, dI)) (ci := 0) (v := .int len) (C := RX0) (T := TX0) (N := 11) hx hb hts (by decide +kernel) hown hK hP 3 rfl rfl 6 (by decide) (va_Nw.use rfl (hN.2 4 _ rfl)) (fun _ h9 => h9) rfl dX6_grow_108 ?_
          refine kCallV (wr := [(s0, .inr (5, [.ref h0, .ref sc0, .ref kp0, .ref a0, .ref q0, .ref d0, .ref c0, .ref ta0, .int km, .int rf])), (h0, .inr (3, [.ref h1, .int (nI K)])), (h1, .inl (cI, 16, .inl fa)), (a0, .inr (0, [.ref a1, .ref a2, .ref a3, .ref a4, .int isOn, .int cnt, .int len, .int x1, .int x2, .int x3, .int x4])), (a1, .inl (cI, 16, .inl b1)), (a2, .inl (cI, 120, .inl b2)), (a3, .inl (cI, 40, .inl b3)), (a4, .inl (cI, 40, .inl b4))]) (va_runVN (As := [.int (nI K), .int cnt, .int len]) (rest := []) ⟨hx, hb, hml, hown, hts⟩ (k_X1_prove l dC dI cI cN q0 q1 q2 g t (nI K) cnt len _) ⟨va_cnB 3 hts gX6_grow_X1_prove_n211 rfl rfl rfl (hN.1 20 _ rfl) (hts (.initialized RX1) (by decide +kernel)) (by decide +kernel) ⟨Nat.le_of_ble_eq_true rfl, Nat.le_of_ble_eq_true rfl⟩, hts (.instanceMethod yX1_prove) (by decide +kernel), hts (.selects RX1 yX1_prove yX1_prove) (by decide +kernel)⟩ (kU_V hP hK hD hN (ci := 1) (q0 := 8) rfl rfl [8, 9, 10] rfl rfl rfl) rfl rfl hl.1 rfl (lv_room (Nat.le_of_ble_eq_true rfl)) dX6_grow_111 ⟨Nat.zero_le _, Nat.zero_le _⟩) hP hD hS hA [8, 9, 10] [0, 1, 2, 3, 4, 5, 6, 7] rfl rfl rfl rfl (by decide) rfl (fun H locs hP hD hS => ?_)
          obtain ⟨r_5, er_5⟩ : ∃ y : Nat → Int32, y = (P_prove g (nI K) cnt len) := ⟨_, rfl⟩
          try rw [← er_5] at hP hD
          have hr := bd_to hr er_5
          have hP : va_P (dC, dI) kCl [(s0, .inr (5, [.ref h0, .ref sc0, .ref kp0, .ref a0, .ref q0, .ref d0, .ref c0, .ref ta0, .int km, .int rf])), (h0, .inr (3, [.ref h1, .int (nI K)])), (h1, .inl (cI, 16, .inl fa)), (a0, .inr (0, [.ref a1, .ref a2, .ref a3, .ref a4, .int isOn, .int cnt, .int len, .int x1, .int x2, .int x3, .int x4])), (a1, .inl (cI, 16, .inl b1)), (a2, .inl (cI, 120, .inl b2)), (a3, .inl (cI, 40, .inl b3)), (a4, .inl (cI, 40, .inl b4)), (q0, .inr (1, [.ref q1, .ref q2])), (q1, .inl (cI, 102, .inl r_5)), (q2, .inl (cI, 54, .inl t))] H := hP.sub [0, 1, 2, 3, 4, 5, 6, 7, 8, 9, 10] rfl
          have hD : va_D A [(s0, .inr (5, [.ref h0, .ref sc0, .ref kp0, .ref a0, .ref q0, .ref d0, .ref c0, .ref ta0, .int km, .int rf])), (h0, .inr (3, [.ref h1, .int (nI K)])), (h1, .inl (cI, 16, .inl fa)), (a0, .inr (0, [.ref a1, .ref a2, .ref a3, .ref a4, .int isOn, .int cnt, .int len, .int x1, .int x2, .int x3, .int x4])), (a1, .inl (cI, 16, .inl b1)), (a2, .inl (cI, 120, .inl b2)), (a3, .inl (cI, 40, .inl b3)), (a4, .inl (cI, 40, .inl b4)), (q0, .inr (1, [.ref q1, .ref q2])), (q1, .inl (cI, 102, .inl r_5)), (q2, .inl (cI, 54, .inl t))] := hD.sub [0, 1, 2, 3, 4, 5, 6, 7, 8, 9, 10] (by decide) rfl
          refine lv_aload_n hx hb dX6_grow_114 rfl (lv_at hl 0 rfl) ?_
          refine va_get (D := (dC, dI)) (ci := 5) (v := .ref q0) (C := RX6) (T := TX6) (N := 10) hx hb hts (by decide +kernel) hown hK hP 0 rfl rfl 4 (by decide) (hts (.fieldLink RX6 33 "Shortring" "ledger" "LShortring$Ledger;") (by decide +kernel)) (fun _ h9 => h9) rfl dX6_grow_115 ?_
          refine lv_aload_n hx hb dX6_grow_118 rfl (lv_at hl 0 rfl) ?_
          refine va_get (D := (dC, dI)) (ci := 5) (v := .ref h0) (C := RX6) (T := TX6) (N := 10) hx hb hts (by decide +kernel) hown hK hP 0 rfl rfl 0 (by decide) (hts (.fieldLink RX6 12 "Shortring" "net" "LShortring$Net;") (by decide +kernel)) (fun _ h9 => h9) rfl dX6_grow_119 ?_
          refine kCallV (wr := [(s0, .inr (5, [.ref h0, .ref sc0, .ref kp0, .ref a0, .ref q0, .ref d0, .ref c0, .ref ta0, .int km, .int rf])), (a0, .inr (0, [.ref a1, .ref a2, .ref a3, .ref a4, .int isOn, .int cnt, .int len, .int x1, .int x2, .int x3, .int x4])), (a1, .inl (cI, 16, .inl b1)), (a2, .inl (cI, 120, .inl b2)), (a3, .inl (cI, 40, .inl b3)), (a4, .inl (cI, 40, .inl b4))]) (va_runVN (As := [.ref h0]) (rest := []) ⟨hx, hb, hml, hown, hts⟩ (k_X1_look l dC dI cI cN q0 q1 q2 r_5 t h0 h1 K fa (by first | assumption | omega | exact Int32.le_refl _ | decide) _) ⟨va_cnB 1 hts gX6_grow_X1_look_n83 rfl rfl rfl (hN.1 7 _ rfl) (hts (.initialized RX1) (by decide +kernel)) (by decide +kernel) ⟨Nat.le_of_ble_eq_true rfl, Nat.le_of_ble_eq_true rfl⟩, hts (.instanceMethod yX1_look) (by decide +kernel), hts (.selects RX1 yX1_look yX1_look) (by decide +kernel)⟩ (kU_V hP hK hD hN (ci := 1) (q0 := 8) rfl rfl [8, 9, 10, 1, 2] rfl rfl rfl) rfl rfl hl.1 rfl (lv_room (Nat.le_of_ble_eq_true rfl)) dX6_grow_122 ⟨Nat.zero_le _, Nat.zero_le _⟩) hP hD hS hA [8, 9, 10, 1, 2] [0, 3, 4, 5, 6, 7] rfl rfl rfl rfl (by decide) rfl (fun H locs hP hD hS => ?_)
          obtain ⟨r_6, er_6⟩ : ∃ y : Nat → Int32, y = (P_look t K fa) := ⟨_, rfl⟩
          try rw [← er_6] at hP hD
          have hr := bd_to hr er_6
          have hP : va_P (dC, dI) kCl [(s0, .inr (5, [.ref h0, .ref sc0, .ref kp0, .ref a0, .ref q0, .ref d0, .ref c0, .ref ta0, .int km, .int rf])), (h0, .inr (3, [.ref h1, .int (nI K)])), (h1, .inl (cI, 16, .inl fa)), (a0, .inr (0, [.ref a1, .ref a2, .ref a3, .ref a4, .int isOn, .int cnt, .int len, .int x1, .int x2, .int x3, .int x4])), (a1, .inl (cI, 16, .inl b1)), (a2, .inl (cI, 120, .inl b2)), (a3, .inl (cI, 40, .inl b3)), (a4, .inl (cI, 40, .inl b4)), (q0, .inr (1, [.ref q1, .ref q2])), (q1, .inl (cI, 102, .inl r_5)), (q2, .inl (cI, 54, .inl r_6))] H := hP.sub [0, 9, 10, 1, 2, 3, 4, 5, 6, 7, 8] rfl
          have hD : va_D A [(s0, .inr (5, [.ref h0, .ref sc0, .ref kp0, .ref a0, .ref q0, .ref d0, .ref c0, .ref ta0, .int km, .int rf])), (h0, .inr (3, [.ref h1, .int (nI K)])), (h1, .inl (cI, 16, .inl fa)), (a0, .inr (0, [.ref a1, .ref a2, .ref a3, .ref a4, .int isOn, .int cnt, .int len, .int x1, .int x2, .int x3, .int x4])), (a1, .inl (cI, 16, .inl b1)), (a2, .inl (cI, 120, .inl b2)), (a3, .inl (cI, 40, .inl b3)), (a4, .inl (cI, 40, .inl b4)), (q0, .inr (1, [.ref q1, .ref q2])), (q1, .inl (cI, 102, .inl r_5)), (q2, .inl (cI, 54, .inl r_6))] := hD.sub [0, 9, 10, 1, 2, 3, 4, 5, 6, 7, 8] (by decide) rfl
          refine lv_aload_n hx hb dX6_grow_125 rfl (lv_at hl 0 rfl) ?_
          refine va_get (D := (dC, dI)) (ci := 5) (v := .ref a0) (C := RX6) (T := TX6) (N := 10) hx hb hts (by decide +kernel) hown hK hP 0 rfl rfl 3 (by decide) (hts (.fieldLink RX6 26 "Shortring" "hunt" "LShortring$Hunt;") (by decide +kernel)) (fun _ h9 => h9) rfl dX6_grow_126 ?_
          refine va_getN (D := (dC, dI)) (ci := 0) (v := .int x2) (C := RX0) (T := TX0) (N := 11) hx hb hts (by decide +kernel) hown hK hP 3 rfl rfl 8 (by decide) (va_Nw.use rfl (hN.2 2 _ rfl)) (fun _ h9 => h9) rfl dX6_grow_129 ?_
          have he := Sum.inl.inj (hr.trans (hρ.trans hok))
          subst he
          exact W.iret (v := x2) hx hb hr0 (fun t ht hW => kVi_end rfl hP hS ht) hS.2.2 dX6_grow_132
      have lp_43 : ∀ (n_43 step : Nat) (fa : Nat → Int32) (b1 : Nat → Int32) (b2 : Nat → Int32) (b3 : Nat → Int32) (b4 : Nat → Int32) (x1 : Int32) (x2 : Int32) (x3 : Int32) (x4 : Int32) (H : Heap) (locs : List Loc) (ls : Array Slot), step + n_43 = steps.toNatClampNeg → (∀ j, 0 ≤ b4 j) → (0 ≤ x4) → L_grow_43 K cnt len (fun fa b1 b2 b3 b4 x1 x2 x3 x4 => if x2 = (2 : Int32) then bd (P_prove g (nI K) cnt len) (fun r_5 => bd (P_look t K fa) (fun r_6 => Sum.inl (x2, fa, b1, b2, b3, b4, x1, x2, x3, x4, r_5, r_6))) else bd (P_look t K fa) (fun r_4 => Sum.inl (x2, fa, b1, b2, b3, b4, x1, x2, x3, x4, g, r_4))) n_43 step fa b1 b2 b3 b4 x1 x2 x3 x4 = ρ → va_P (dC, dI) kCl [(s0, .inr (5, [.ref h0, .ref sc0, .ref kp0, .ref a0, .ref q0, .ref d0, .ref c0, .ref ta0, .int km, .int rf])), (h0, .inr (3, [.ref h1, .int (nI K)])), (h1, .inl (cI, 16, .inl fa)), (a0, .inr (0, [.ref a1, .ref a2, .ref a3, .ref a4, .int isOn, .int cnt, .int len, .int x1, .int x2, .int x3, .int x4])), (a1, .inl (cI, 16, .inl b1)), (a2, .inl (cI, 120, .inl b2)), (a3, .inl (cI, 40, .inl b3)), (a4, .inl (cI, 40, .inl b4)), (q0, .inr (1, [.ref q1, .ref q2])), (q1, .inl (cI, 102, .inl g)), (q2, .inl (cI, 54, .inl t))] H → va_D A [(s0, .inr (5, [.ref h0, .ref sc0, .ref kp0, .ref a0, .ref q0, .ref d0, .ref c0, .ref ta0, .int km, .int rf])), (h0, .inr (3, [.ref h1, .int (nI K)])), (h1, .inl (cI, 16, .inl fa)), (a0, .inr (0, [.ref a1, .ref a2, .ref a3, .ref a4, .int isOn, .int cnt, .int len, .int x1, .int x2, .int x3, .int x4])), (a1, .inl (cI, 16, .inl b1)), (a2, .inl (cI, 120, .inl b2)), (a3, .inl (cI, 40, .inl b3)), (a4, .inl (cI, 40, .inl b4)), (q0, .inr (1, [.ref q1, .ref q2])), (q1, .inl (cI, 102, .inl g)), (q2, .inl (cI, 54, .inl t))] → va_S A s.heap H locs → lv_has ls 3 [(2, .int (nI step)), (0, .ref s0), (1, .int steps)] → W p l e (headSpec wsX6_grow rm_X6_grow).room s m (([.ref s0, .int steps] : List Value).toArray) below meth c H locs 0 0 (MQ below (kVi dC dI v.1 [(s0, .inr (5, [.ref h0, .ref sc0, .ref kp0, .ref a0, .ref q0, .ref d0, .ref c0, .ref ta0, .int km, .int rf])), (h0, .inr (3, [.ref h1, .int (nI K)])), (h1, .inl (cI, 16, .inl (v.2.1))), (a0, .inr (0, [.ref a1, .ref a2, .ref a3, .ref a4, .int isOn, .int cnt, .int len, .int (v.2.2.2.2.2.2.1), .int (v.2.2.2.2.2.2.2.1), .int (v.2.2.2.2.2.2.2.2.1), .int (v.2.2.2.2.2.2.2.2.2.1)])), (a1, .inl (cI, 16, .inl (v.2.2.1))), (a2, .inl (cI, 120, .inl (v.2.2.2.1))), (a3, .inl (cI, 40, .inl (v.2.2.2.2.1))), (a4, .inl (cI, 40, .inl (v.2.2.2.2.2.1))), (q0, .inr (1, [.ref q1, .ref q2])), (q1, .inl (cI, 102, .inl (v.2.2.2.2.2.2.2.2.2.2.1))), (q2, .inl (cI, 54, .inl (v.2.2.2.2.2.2.2.2.2.2.2)))] A) (([.ref s0, .int steps] : List Value).toArray) s 0 0 A) (F0 m 43 ls []) := by
        intro n_43
        induction n_43 with
        | zero =>
          intro step fa b1 b2 b3 b4 x1 x2 x3 x4 H locs ls hi hb4 hx4 hr hP hD hS hl
          rewrite [L_grow_43] at hr
          refine lv_iload_n hx hb dX6_grow_43 rfl (lv_at hl 0 rfl) ?_
          refine lv_iload_n hx hb dX6_grow_44 rfl (lv_at hl 2 rfl) ?_
          refine lv_icmp_ge (tgt := 75) hx hb dX6_grow_45 (by decide) (fun c_7 => ?_) (fun c_7 => ?_)
          · exact ex_43 fa b1 b2 b3 b4 x1 x2 x3 x4 _ _ _ hr hP hD hS (lv_sub hl [1, 2] rfl)
          · exact absurd (kTopC (i := step) (by omega)) c_7
        | succ n_43 ih_43 =>
          intro step fa b1 b2 b3 b4 x1 x2 x3 x4 H locs ls hi hb4 hx4 hr hP hD hS hl
          rewrite [L_grow_43] at hr
          refine lv_iload_n hx hb dX6_grow_43 rfl (lv_at hl 0 rfl) ?_
          refine lv_iload_n hx hb dX6_grow_44 rfl (lv_at hl 2 rfl) ?_
          refine lv_icmp_ge (tgt := 75) hx hb dX6_grow_45 (by decide) (fun c_8 => ?_) (fun c_8 => ?_)
          · exact absurd c_8 (kLowC (i := step) (by omega))
          · refine lv_aload_n hx hb dX6_grow_48 rfl (lv_at hl 1 rfl) ?_
            refine va_get (D := (dC, dI)) (ci := 5) (v := .ref a0) (C := RX6) (T := TX6) (N := 10) hx hb hts (by decide +kernel) hown hK hP 0 rfl rfl 3 (by decide) (hts (.fieldLink RX6 26 "Shortring" "hunt" "LShortring$Hunt;") (by decide +kernel)) (fun _ h9 => h9) rfl dX6_grow_49 ?_
            refine va_getN (D := (dC, dI)) (ci := 0) (v := .int x2) (C := RX0) (T := TX0) (N := 11) hx hb hts (by decide +kernel) hown hK hP 3 rfl rfl 8 (by decide) (va_Nw.use rfl (hN.2 2 _ rfl)) (fun _ h9 => h9) rfl dX6_grow_52 ?_
            refine lv_if_ne (tgt := 75) hx hb dX6_grow_55 (by decide) (fun c_9 => ?_) (fun c_9 => ?_)
            · have hr := if_no hr c_9
              exact ex_43 fa b1 b2 b3 b4 x1 x2 x3 x4 _ _ _ hr hP hD hS (lv_sub hl [1, 2] rfl)
            · have hr := if_to hr c_9
              refine lv_aload_n hx hb dX6_grow_58 rfl (lv_at hl 1 rfl) ?_
              refine va_get (D := (dC, dI)) (ci := 5) (v := .ref a0) (C := RX6) (T := TX6) (N := 10) hx hb hts (by decide +kernel) hown hK hP 0 rfl rfl 3 (by decide) (hts (.fieldLink RX6 26 "Shortring" "hunt" "LShortring$Hunt;") (by decide +kernel)) (fun _ h9 => h9) rfl dX6_grow_59 ?_
              refine lv_aload_n hx hb dX6_grow_62 rfl (lv_at hl 1 rfl) ?_
              refine va_get (D := (dC, dI)) (ci := 5) (v := .ref h0) (C := RX6) (T := TX6) (N := 10) hx hb hts (by decide +kernel) hown hK hP 0 rfl rfl 0 (by decide) (hts (.fieldLink RX6 12 "Shortring" "net" "LShortring$Net;") (by decide +kernel)) (fun _ h9 => h9) rfl dX6_grow_63 ?_
              refine kCallV (wr := [(s0, .inr (5, [.ref h0, .ref sc0, .ref kp0, .ref a0, .ref q0, .ref d0, .ref c0, .ref ta0, .int km, .int rf])), (q0, .inr (1, [.ref q1, .ref q2])), (q1, .inl (cI, 102, .inl g)), (q2, .inl (cI, 54, .inl t))]) (va_runVN (As := [.ref h0]) (rest := []) ⟨hx, hb, hml, hown, hts⟩ (k_X0_step l dC dI cI cN a0 a1 a2 a3 a4 isOn cnt len x1 x2 x3 x4 b1 b2 b3 b4 h0 h1 K fa (by first | assumption | omega | exact Int32.le_refl _ | decide) hb4 _) ⟨va_cnB 1 hts gX6_grow_X0_step_n202 rfl rfl rfl (hN.1 19 _ rfl) (hts (.initialized RX0) (by decide +kernel)) (by decide +kernel) ⟨Nat.le_of_ble_eq_true rfl, Nat.le_of_ble_eq_true rfl⟩, hts (.instanceMethod yX0_step) (by decide +kernel), hts (.selects RX0 yX0_step yX0_step) (by decide +kernel)⟩ (kU_V hP hK hD hN (ci := 0) (q0 := 3) rfl rfl [3, 4, 5, 6, 7, 1, 2] rfl rfl rfl) rfl rfl hl.1 rfl (lv_room (Nat.le_of_ble_eq_true rfl)) dX6_grow_66 ⟨Nat.zero_le _, Nat.zero_le _⟩) hP hD hS hA [3, 4, 5, 6, 7, 1, 2] [0, 8, 9, 10] rfl rfl rfl rfl (by decide) rfl (fun H locs hP hD hS => ?_)
              obtain ⟨r_10, er_10⟩ : ∃ y : (Nat → Int32) × (Nat → Int32) × (Nat → Int32) × (Nat → Int32) × (Nat → Int32) × Int32 × Int32 × Int32 × Int32, y = (P_step K fa b1 b2 b3 b4 cnt len x1 x2 x3 x4) := ⟨_, rfl⟩
              try rw [← er_10] at hP hD
              have hr := bd_to hr er_10
              have hP : va_P (dC, dI) kCl [(s0, .inr (5, [.ref h0, .ref sc0, .ref kp0, .ref a0, .ref q0, .ref d0, .ref c0, .ref ta0, .int km, .int rf])), (h0, .inr (3, [.ref h1, .int (nI K)])), (h1, .inl (cI, 16, .inl r_10.2.2.2.2.1)), (a0, .inr (0, [.ref a1, .ref a2, .ref a3, .ref a4, .int isOn, .int cnt, .int len, .int r_10.2.2.2.2.2.1, .int r_10.2.2.2.2.2.2.1, .int r_10.2.2.2.2.2.2.2.1, .int r_10.2.2.2.2.2.2.2.2])), (a1, .inl (cI, 16, .inl r_10.1)), (a2, .inl (cI, 120, .inl r_10.2.1)), (a3, .inl (cI, 40, .inl r_10.2.2.1)), (a4, .inl (cI, 40, .inl r_10.2.2.2.1)), (q0, .inr (1, [.ref q1, .ref q2])), (q1, .inl (cI, 102, .inl g)), (q2, .inl (cI, 54, .inl t))] H := hP.sub [0, 9, 10, 4, 5, 6, 7, 8, 1, 2, 3] rfl
              have hD : va_D A [(s0, .inr (5, [.ref h0, .ref sc0, .ref kp0, .ref a0, .ref q0, .ref d0, .ref c0, .ref ta0, .int km, .int rf])), (h0, .inr (3, [.ref h1, .int (nI K)])), (h1, .inl (cI, 16, .inl r_10.2.2.2.2.1)), (a0, .inr (0, [.ref a1, .ref a2, .ref a3, .ref a4, .int isOn, .int cnt, .int len, .int r_10.2.2.2.2.2.1, .int r_10.2.2.2.2.2.2.1, .int r_10.2.2.2.2.2.2.2.1, .int r_10.2.2.2.2.2.2.2.2])), (a1, .inl (cI, 16, .inl r_10.1)), (a2, .inl (cI, 120, .inl r_10.2.1)), (a3, .inl (cI, 40, .inl r_10.2.2.1)), (a4, .inl (cI, 40, .inl r_10.2.2.2.1)), (q0, .inr (1, [.ref q1, .ref q2])), (q1, .inl (cI, 102, .inl g)), (q2, .inl (cI, 54, .inl t))] := hD.sub [0, 9, 10, 4, 5, 6, 7, 8, 1, 2, 3] (by decide) rfl
              refine lv_iinc (v := nI (step + 1)) (lv' := [(2, .int (nI (step + 1))), (0, .ref s0), (1, .int steps)]) hx hb dX6_grow_69 hl (k := 0) rfl (nI_1 _) (by decide) rfl (fun ls hl => ?_)
              refine lv_goto (tgt := 43) hx hb dX6_grow_72 (by decide) ?_
              exact ih_43 (step + 1) r_10.2.2.2.2.1 r_10.1 r_10.2.1 r_10.2.2.1 r_10.2.2.2.1 r_10.2.2.2.2.2.1 r_10.2.2.2.2.2.2.1 r_10.2.2.2.2.2.2.2.1 r_10.2.2.2.2.2.2.2.2 _ _ _ (by omega) (P_step_i1 (by assumption) hb4 hx4) (P_step_i2 (by assumption) hb4 hx4) hr hP hD hS (lv_sub hl [0, 1, 2] rfl)
      exact lp_43 steps.toNatClampNeg 0 f bw bars puts bap stp sta pm bm _ _ _ (by omega) hbap hbm hr hP hD hS (lv_sub hl [0, 1, 2] rfl)
    · have hr := if_to hr c_2
      cases hr.trans (hρ.trans hok)
  · have hr := if_to hr c_1
    cases hr.trans (hρ.trans hok)
theorem gfX6_grow_1 : ∀ w ∈ (vx_atS RX6 70 (kCls 1) kNs).filter goodWord, w ∈ wsX6_grow := fun w h => List.mem_cons_of_mem _ (List.mem_append_left _ (List.mem_append_right _ h))
theorem gfX6_grow_3 : ∀ w ∈ (vx_atS RX6 110 (kCls 3) kNs).filter goodWord, w ∈ wsX6_grow := fun w h => List.mem_cons_of_mem _ (List.mem_append_right _ h)
abbrev rx_X6_grow : Room := { frames := 6, cells := 1, slots := 6, locals := 82 }
set_option maxHeartbeats 4000000 in
set_option maxRecDepth 100000 in
theorem e_X6_grow (l : Launch) (hl9 : l.stackTraces = false) (dC : Nat → ClassId) (dI : Nat → Nat → Nat) (cI cN : ClassId) (s0 : Nat) (sc0 : Nat) (kp0 : Nat) (ta0 : Nat) (km : Int32) (rf : Int32) (d0 : Nat) (c0 : Nat) (h0 : Nat) (h1 : Nat) (K : Nat) (f : Nat → Int32) (a0 : Nat) (a1 : Nat) (a2 : Nat) (a3 : Nat) (a4 : Nat) (isOn : Int32) (cnt : Int32) (len : Int32) (stp : Int32) (sta : Int32) (pm : Int32) (bm : Int32) (bw : Nat → Int32) (bars : Nat → Int32) (puts : Nat → Int32) (bap : Nat → Int32) (q0 : Nat) (q1 : Nat) (q2 : Nat) (g : Nat → Int32) (t : Nat → Int32) (steps : Int32) (hK : K ≤ 16) (hbap : ∀ j, 0 ≤ bap j) (hbm : 0 ≤ bm) (kx : Nat) (hex : P_grow K f bw bars puts bap isOn cnt len stp sta pm bm g t steps = .inr kx) : vx_Met l yX6_grow wsX6_grow rx_X6_grow (va_Pc [.ref s0, .int steps] (kWE dC dI cI cN [(s0, .inr (5, [.ref h0, .ref sc0, .ref kp0, .ref a0, .ref q0, .ref d0, .ref c0, .ref ta0, .int km, .int rf])), (h0, .inr (3, [.ref h1, .int (nI K)])), (h1, .inl (cI, 16, .inl f)), (a0, .inr (0, [.ref a1, .ref a2, .ref a3, .ref a4, .int isOn, .int cnt, .int len, .int stp, .int sta, .int pm, .int bm])), (a1, .inl (cI, 16, .inl bw)), (a2, .inl (cI, 120, .inl bars)), (a3, .inl (cI, 40, .inl puts)), (a4, .inl (cI, 40, .inl bap)), (q0, .inr (1, [.ref q1, .ref q2])), (q1, .inl (cI, 102, .inl g)), (q2, .inl (cI, 54, .inl t))])) kNoi (kX kx) 1 6 (fun _ => False) := by
  refine vx_ofW (cc := cX6_grow) (maxL := 3) (ret := (some .int)) (by decide) rfl ?_
  intro p e s m args below meth c s₁ B hml hxt hv
  obtain ⟨rfl, ⟨hP, hK, hD, hN⟩, hE⟩ := hv
  have hx := B.exec
  have hb := B.bytes
  have hr0 := B.returns
  have hts := atoms_spec (ws := wsX6_grow) B.pre
  have hown : s.vm.findClass RX6 = some m.cls := findClass_of_methodNamed B.named
  have hlocks := B.notSynchronized
  have hS : va_S (fun _ => False) s.heap s.heap [] := va_S.rf
  have hl := lv_entry ([.ref s0, .int steps]) (n := 3) (Nat.le_of_ble_eq_true rfl)
  rw [lg_entry_eq]
  generalize (lg_sl ([.ref s0, .int steps]) ++ List.replicate (3 - (lg_sl ([.ref s0, .int steps])).length) Slot.unset).toArray = ls at hl ⊢
  have hl : lv_has ls 3 [(0, .ref s0), (1, .int steps)] := hl
  obtain ⟨ρ, hρ⟩ : ∃ ρ : (Int32 × (Nat → Int32) × (Nat → Int32) × (Nat → Int32) × (Nat → Int32) × (Nat → Int32) × Int32 × Int32 × Int32 × Int32 × (Nat → Int32) × (Nat → Int32)) ⊕ Nat, ρ = P_grow K f bw bars puts bap isOn cnt len stp sta pm bm g t steps := ⟨_, rfl⟩
  have hr : P_grow K f bw bars puts bap isOn cnt len stp sta pm bm g t steps = ρ := hρ.symm
  rewrite [P_grow] at hr
  refine lv_iload_n hx hb dX6_grow_0 rfl (lv_at hl 1 rfl) ?_
  refine lv_iconst (v := 1) hx hb dX6_grow_1 (by decide) ?_
  refine lv_sipush (v := 400) hx hb dX6_grow_2 (by decide) ?_
  refine kCall (va_runS (As := [.int steps, .int 1, .int 400]) (rest := []) ⟨hx, hb, hml, hown, hts⟩ (k_X6_isWithin l dC dI cI cN steps 1 400) (va_cwS 3 hts gX6_grow_X6_isWithin rfl rfl rfl (by decide +kernel) ⟨Nat.le_of_ble_eq_true rfl, Nat.le_of_ble_eq_true rfl⟩) (kW_S hP hK hD hN [] rfl rfl rfl) rfl rfl hl.1 rfl (lv_room (Nat.le_of_ble_eq_true rfl)) dX6_grow_5 ⟨Nat.zero_le _, Nat.zero_le _⟩) hP hS (fun H locs hP hS => ?_)
  refine lv_if_ne (tgt := 21) hx hb dX6_grow_8 (by decide) (fun c_1 => ?_) (fun c_1 => ?_)
  · have hr := if_no hr c_1
    refine lv_aload_n hx hb dX6_grow_21 rfl (lv_at hl 0 rfl) ?_
    refine va_get (D := (dC, dI)) (ci := 5) (v := .ref a0) (C := RX6) (T := TX6) (N := 10) hx hb hts (by decide +kernel) hown hK hP 0 rfl rfl 3 (by decide) (hts (.fieldLink RX6 26 "Shortring" "hunt" "LShortring$Hunt;") (by decide +kernel)) (fun _ h9 => h9) rfl dX6_grow_22 ?_
    refine va_getN (D := (dC, dI)) (ci := 0) (v := .int isOn) (C := RX0) (T := TX0) (N := 11) hx hb hts (by decide +kernel) hown hK hP 3 rfl rfl 4 (by decide) (va_Nw.use rfl (hN.2 1 _ rfl)) (fun _ h9 => h9) rfl dX6_grow_25 ?_
    refine lv_if_ne (tgt := 41) hx hb dX6_grow_28 (by decide) (fun c_2 => ?_) (fun c_2 => ?_)
    · have hr := if_no hr c_2
      refine lv_iconst (v := 0) hx hb dX6_grow_41 (by decide) ?_
      refine lv_istore_n (lv' := [(2, .int 0), (0, .ref s0), (1, .int steps)]) hx hb dX6_grow_42 rfl hl (by decide) rfl (fun ls hl => ?_)
      exact kNoway (hr.trans (hρ.trans hex)) (L_grow_inl (fun _ _ _ _ _ _ y _ _ => by by_cases c9 : y = (2 : Int32); exact ⟨_, if_pos c9⟩; exact ⟨_, if_neg c9⟩) _ _ _ _ _ _ _ _ _ _ _)
    · have hr := if_to hr c_2
      exact kThrowS hx hb hl9 hown 3 (ik := 106) (is := 197) (ic := 110) (Sum.inr.inj (hr.trans (hρ.trans hex))) (by decide +kernel) (hts (.classLink RX6 106 "java/lang/IllegalStateException") (by decide +kernel)) (hts (.initialized "java/lang/IllegalStateException") (by decide +kernel)) 14 rfl (fun w h => hts w (gfX6_grow_3 w h)) kBad3 (kHg kOt3) hE hS (hl.1.trans hml.symm) dX6_grow_31 dX6_grow_34 dX6_grow_35 dX6_grow_37 dX6_grow_40 hxt (Nat.le_of_ble_eq_true rfl) (Nat.le_of_ble_eq_true rfl) (Nat.le_of_ble_eq_true rfl) (Nat.le_of_ble_eq_true rfl) hlocks
  · have hr := if_to hr c_1
    exact kThrowS hx hb hl9 hown 1 (ik := 66) (is := 191) (ic := 70) (Sum.inr.inj (hr.trans (hρ.trans hex))) (by decide +kernel) (hts (.classLink RX6 66 "java/lang/IllegalArgumentException") (by decide +kernel)) (hts (.initialized "java/lang/IllegalArgumentException") (by decide +kernel)) 13 rfl (fun w h => hts w (gfX6_grow_1 w h)) kBad1 (kHg kOt1) hE hS (hl.1.trans hml.symm) dX6_grow_11 dX6_grow_14 dX6_grow_15 dX6_grow_17 dX6_grow_20 hxt (Nat.le_of_ble_eq_true rfl) (Nat.le_of_ble_eq_true rfl) (Nat.le_of_ble_eq_true rfl) (Nat.le_of_ble_eq_true rfl) hlocks
