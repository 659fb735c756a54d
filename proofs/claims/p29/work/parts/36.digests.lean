/-! the digest, while nothing is kept (printed by wip/gen) -/
def L_digestOfKnots_20 (K : Nat) (f : Nat → Int32) (bw : Nat → Int32) (isOn : Int32) (cnt : Int32) (len : Int32) (knot : Nat) (k : Int64 → Int64) : Nat → Nat → Int64 → Int64
  | 0, what, sum => k sum
  | n + 1, what, sum =>
    sbd 0 (P_ofKnot K f bw isOn cnt len (nI knot) (nI what)) (fun v_1 =>
      bd ((sum * (31 : Int64)) + v_1.toInt64) (fun sum_2 =>
        L_digestOfKnots_20 K f bw isOn cnt len knot k n (what + 1) sum_2))
def L_digestOfKnots_5 (K : Nat) (f : Nat → Int32) (bw : Nat → Int32) (isOn : Int32) (cnt : Int32) (len : Int32) (k : Int64 → Int64) : Nat → Nat → Int64 → Int64
  | 0, knot, sum => k sum
  | n + 1, knot, sum =>
    L_digestOfKnots_20 K f bw isOn cnt len knot (fun sum => L_digestOfKnots_5 K f bw isOn cnt len k n (knot + 1) sum) 6 0 sum
def P_digestOfKnots (K : Nat) (f : Nat → Int32) (bw : Nat → Int32) (isOn : Int32) (cnt : Int32) (len : Int32) (start : Int64) : Int64 :=
  L_digestOfKnots_5 K f bw isOn cnt len (fun sum => sum) K 0 start
abbrev rm_X6_digestOfKnots : Room := { frames := 6, cells := 0, slots := 0, locals := 138 }
set_option maxHeartbeats 4000000 in
set_option maxRecDepth 100000 in
theorem k_X6_digestOfKnots (l : Launch) (dC : Nat → ClassId) (dI : Nat → Nat → Nat) (cI cN : ClassId) (s0 : Nat) (sc0 : Nat) (kp0 : Nat) (ta0 : Nat) (km : Int32) (rf : Int32) (q0 : Nat) (d0 : Nat) (c0 : Nat) (h0 : Nat) (h1 : Nat) (K : Nat) (f : Nat → Int32) (a0 : Nat) (a1 : Nat) (a2 : Nat) (a3 : Nat) (a4 : Nat) (isOn : Int32) (cnt : Int32) (len : Int32) (stp : Int32) (sta : Int32) (pm : Int32) (bm : Int32) (bw : Nat → Int32) (bars : Nat → Int32) (puts : Nat → Int32) (bap : Nat → Int32) (start : Int64) (hK : K ≤ 16) : Met l yX6_digestOfKnots wsX6_digestOfKnots rm_X6_digestOfKnots (va_Pc [.ref s0, .long start] (kW dC dI cI cN [(s0, .inr (5, [.ref h0, .ref sc0, .ref kp0, .ref a0, .ref q0, .ref d0, .ref c0, .ref ta0, .int km, .int rf])), (h0, .inr (3, [.ref h1, .int (nI K)])), (h1, .inl (cI, 16, .inl f)), (a0, .inr (0, [.ref a1, .ref a2, .ref a3, .ref a4, .int isOn, .int cnt, .int len, .int stp, .int sta, .int pm, .int bm])), (a1, .inl (cI, 16, .inl bw)), (a2, .inl (cI, 120, .inl bars)), (a3, .inl (cI, 40, .inl puts)), (a4, .inl (cI, 40, .inl bap))])) (kRl (P_digestOfKnots K f bw isOn cnt len start)) 0 0 (fun _ => False) := by
  refine Met.ofW (cc := cX6_digestOfKnots) (maxL := 7) (ret := (some .long)) (by decide) rfl ?_
  intro p e s m args below meth c s₁ B hml hv
  obtain ⟨rfl, hP, hK, hD, hN⟩ := hv
  have hx := B.exec
  have hb := B.bytes
  have hr0 := B.returns
  have hts := atoms_spec (ws := wsX6_digestOfKnots) B.pre
  have hown : s.vm.findClass RX6 = some m.cls := findClass_of_methodNamed B.named
  have hlocks := B.notSynchronized
  have hS : va_S (fun _ => False) s.heap s.heap [] := va_S.rf
  have hl := lv_entry ([.ref s0, .long start]) (n := 7) (Nat.le_of_ble_eq_true rfl)
  rw [lg_entry_eq]
  generalize (lg_sl ([.ref s0, .long start]) ++ List.replicate (7 - (lg_sl ([.ref s0, .long start])).length) Slot.unset).toArray = ls at hl ⊢
  have hl : lv_has ls 7 [(0, .ref s0), (1, .long start)] := hl
  obtain ⟨ρ, hρ⟩ : ∃ ρ : Int64, ρ = P_digestOfKnots K f bw isOn cnt len start := ⟨_, rfl⟩
  have hr : P_digestOfKnots K f bw isOn cnt len start = ρ := hρ.symm
  rewrite [P_digestOfKnots] at hr
  refine lv_lload_n hx hb dX6_digestOfKnots_0 rfl (lv_at hl 1 rfl) ?_
  refine lv_lstore_n (lv' := [(3, .long start), (0, .ref s0), (1, .long start)]) hx hb dX6_digestOfKnots_1 rfl hl (by decide) rfl (fun ls hl => ?_)
  refine lv_iconst (v := 0) hx hb dX6_digestOfKnots_2 (by decide) ?_
  refine lv_istore (lv' := [(5, .int 0), (3, .long start), (0, .ref s0), (1, .long start)]) hx hb dX6_digestOfKnots_3 hl (by decide) rfl (fun ls hl => ?_)
  have ex_5 : ∀ (sum : Int64) (H : Heap) (locs : List Loc) (ls : Array Slot), (sum) = ρ → va_P (dC, dI) kCl [(s0, .inr (5, [.ref h0, .ref sc0, .ref kp0, .ref a0, .ref q0, .ref d0, .ref c0, .ref ta0, .int km, .int rf])), (h0, .inr (3, [.ref h1, .int (nI K)])), (h1, .inl (cI, 16, .inl f)), (a0, .inr (0, [.ref a1, .ref a2, .ref a3, .ref a4, .int isOn, .int cnt, .int len, .int stp, .int sta, .int pm, .int bm])), (a1, .inl (cI, 16, .inl bw)), (a2, .inl (cI, 120, .inl bars)), (a3, .inl (cI, 40, .inl puts)), (a4, .inl (cI, 40, .inl bap))] H → va_S (fun _ => False) s.heap H locs → lv_has ls 7 [(3, .long sum), (0, .ref s0)] → W p l e (headSpec wsX6_digestOfKnots rm_X6_digestOfKnots).room s m (([.ref s0, .long start] : List Value).toArray) below meth c H locs 0 0 (MQ below (kRl (P_digestOfKnots K f bw isOn cnt len start)) (([.ref s0, .long start] : List Value).toArray) s 0 0 (fun _ => False)) (F0 m 54 ls []) := by
    intro sum H locs ls hr hP hS hl
    refine lv_lload_n hx hb dX6_digestOfKnots_54 rfl (lv_at hl 0 rfl) ?_
    have he := hr.trans hρ
    exact W.lret (v := sum) hx hb hr0 (fun t ht hW => kRl_end he hS ht) hS.2.2 dX6_digestOfKnots_55
  have lp_5 : ∀ (n_5 knot : Nat) (sum : Int64) (H : Heap) (locs : List Loc) (ls : Array Slot), knot + n_5 = K → L_digestOfKnots_5 K f bw isOn cnt len (fun sum => sum) n_5 knot sum = ρ → va_P (dC, dI) kCl [(s0, .inr (5, [.ref h0, .ref sc0, .ref kp0, .ref a0, .ref q0, .ref d0, .ref c0, .ref ta0, .int km, .int rf])), (h0, .inr (3, [.ref h1, .int (nI K)])), (h1, .inl (cI, 16, .inl f)), (a0, .inr (0, [.ref a1, .ref a2, .ref a3, .ref a4, .int isOn, .int cnt, .int len, .int stp, .int sta, .int pm, .int bm])), (a1, .inl (cI, 16, .inl bw)), (a2, .inl (cI, 120, .inl bars)), (a3, .inl (cI, 40, .inl puts)), (a4, .inl (cI, 40, .inl bap))] H → va_S (fun _ => False) s.heap H locs → lv_has ls 7 [(5, .int (nI knot)), (3, .long sum), (0, .ref s0)] → W p l e (headSpec wsX6_digestOfKnots rm_X6_digestOfKnots).room s m (([.ref s0, .long start] : List Value).toArray) below meth c H locs 0 0 (MQ below (kRl (P_digestOfKnots K f bw isOn cnt len start)) (([.ref s0, .long start] : List Value).toArray) s 0 0 (fun _ => False)) (F0 m 5 ls []) := by
    intro n_5
    induction n_5 with
    | zero =>
      intro knot sum H locs ls hi hr hP hS hl
      rewrite [L_digestOfKnots_5] at hr
      refine lv_iload hx hb dX6_digestOfKnots_5 (lv_at hl 0 rfl) ?_
      refine lv_aload_n hx hb dX6_digestOfKnots_7 rfl (lv_at hl 2 rfl) ?_
      refine va_get (D := (dC, dI)) (ci := 5) (v := .ref h0) (C := RX6) (T := TX6) (N := 10) hx hb hts (by decide +kernel) hown hK hP 0 rfl rfl 0 (by decide) (hts (.fieldLink RX6 12 "Shortring" "net" "LShortring$Net;") (by decide +kernel)) (fun _ h9 => h9) rfl dX6_digestOfKnots_8 ?_
      refine va_getN (D := (dC, dI)) (ci := 3) (v := .int (nI K)) (C := RX3) (T := TX3) (N := 2) hx hb hts (by decide +kernel) hown hK hP 1 rfl rfl 1 (by decide) (va_Nw.use rfl (hN.2 0 _ rfl)) (fun _ h9 => h9) rfl dX6_digestOfKnots_11 ?_
      refine lv_icmp_ge (tgt := 54) hx hb dX6_digestOfKnots_14 (by decide) (fun c_1 => ?_) (fun c_1 => ?_)
      · exact ex_5 sum _ _ _ hr hP hS (lv_sub hl [1, 2] rfl)
      · exact absurd (kTop (i := knot) (N := K) rfl (by omega)) c_1
    | succ n_5 ih_5 =>
      intro knot sum H locs ls hi hr hP hS hl
      rewrite [L_digestOfKnots_5] at hr
      refine lv_iload hx hb dX6_digestOfKnots_5 (lv_at hl 0 rfl) ?_
      refine lv_aload_n hx hb dX6_digestOfKnots_7 rfl (lv_at hl 2 rfl) ?_
      refine va_get (D := (dC, dI)) (ci := 5) (v := .ref h0) (C := RX6) (T := TX6) (N := 10) hx hb hts (by decide +kernel) hown hK hP 0 rfl rfl 0 (by decide) (hts (.fieldLink RX6 12 "Shortring" "net" "LShortring$Net;") (by decide +kernel)) (fun _ h9 => h9) rfl dX6_digestOfKnots_8 ?_
      refine va_getN (D := (dC, dI)) (ci := 3) (v := .int (nI K)) (C := RX3) (T := TX3) (N := 2) hx hb hts (by decide +kernel) hown hK hP 1 rfl rfl 1 (by decide) (va_Nw.use rfl (hN.2 0 _ rfl)) (fun _ h9 => h9) rfl dX6_digestOfKnots_11 ?_
      refine lv_icmp_ge (tgt := 54) hx hb dX6_digestOfKnots_14 (by decide) (fun c_2 => ?_) (fun c_2 => ?_)
      · exact absurd c_2 (kLow (i := knot) (N := K) rfl (by omega) (by omega))
      · refine lv_iconst (v := 0) hx hb dX6_digestOfKnots_17 (by decide) ?_
        refine lv_istore (lv' := [(6, .int 0), (5, .int (nI knot)), (3, .long sum), (0, .ref s0)]) hx hb dX6_digestOfKnots_18 hl (by decide) rfl (fun ls hl => ?_)
        have ex_20 : ∀ (sum : Int64) (H : Heap) (locs : List Loc) (ls : Array Slot), (L_digestOfKnots_5 K f bw isOn cnt len (fun sum => sum) n_5 (knot + 1) sum) = ρ → va_P (dC, dI) kCl [(s0, .inr (5, [.ref h0, .ref sc0, .ref kp0, .ref a0, .ref q0, .ref d0, .ref c0, .ref ta0, .int km, .int rf])), (h0, .inr (3, [.ref h1, .int (nI K)])), (h1, .inl (cI, 16, .inl f)), (a0, .inr (0, [.ref a1, .ref a2, .ref a3, .ref a4, .int isOn, .int cnt, .int len, .int stp, .int sta, .int pm, .int bm])), (a1, .inl (cI, 16, .inl bw)), (a2, .inl (cI, 120, .inl bars)), (a3, .inl (cI, 40, .inl puts)), (a4, .inl (cI, 40, .inl bap))] H → va_S (fun _ => False) s.heap H locs → lv_has ls 7 [(3, .long sum), (0, .ref s0), (5, .int (nI knot))] → W p l e (headSpec wsX6_digestOfKnots rm_X6_digestOfKnots).room s m (([.ref s0, .long start] : List Value).toArray) below meth c H locs 0 0 (MQ below (kRl (P_digestOfKnots K f bw isOn cnt len start)) (([.ref s0, .long start] : List Value).toArray) s 0 0 (fun _ => False)) (F0 m 48 ls []) := by
          intro sum H locs ls hr hP hS hl
          refine lv_iinc (v := nI (knot + 1)) (lv' := [(5, .int (nI (knot + 1))), (3, .long sum), (0, .ref s0)]) hx hb dX6_digestOfKnots_48 hl (k := 2) rfl (nI_1 _) (by decide) rfl (fun ls hl => ?_)
          refine lv_goto (tgt := 5) hx hb dX6_digestOfKnots_51 (by decide) ?_
          exact ih_5 (knot + 1) sum _ _ _ (by omega) hr hP hS (lv_sub hl [0, 1, 2] rfl)
        have lp_20 : ∀ (n_20 what : Nat) (sum : Int64) (H : Heap) (locs : List Loc) (ls : Array Slot), what + n_20 = 6 → L_digestOfKnots_20 K f bw isOn cnt len knot (fun sum => L_digestOfKnots_5 K f bw isOn cnt len (fun sum => sum) n_5 (knot + 1) sum) n_20 what sum = ρ → va_P (dC, dI) kCl [(s0, .inr (5, [.ref h0, .ref sc0, .ref kp0, .ref a0, .ref q0, .ref d0, .ref c0, .ref ta0, .int km, .int rf])), (h0, .inr (3, [.ref h1, .int (nI K)])), (h1, .inl (cI, 16, .inl f)), (a0, .inr (0, [.ref a1, .ref a2, .ref a3, .ref a4, .int isOn, .int cnt, .int len, .int stp, .int sta, .int pm, .int bm])), (a1, .inl (cI, 16, .inl bw)), (a2, .inl (cI, 120, .inl bars)), (a3, .inl (cI, 40, .inl puts)), (a4, .inl (cI, 40, .inl bap))] H → va_S (fun _ => False) s.heap H locs → lv_has ls 7 [(6, .int (nI what)), (3, .long sum), (0, .ref s0), (5, .int (nI knot))] → W p l e (headSpec wsX6_digestOfKnots rm_X6_digestOfKnots).room s m (([.ref s0, .long start] : List Value).toArray) below meth c H locs 0 0 (MQ below (kRl (P_digestOfKnots K f bw isOn cnt len start)) (([.ref s0, .long start] : List Value).toArray) s 0 0 (fun _ => False)) (F0 m 20 ls []) := by
          intro n_20
          induction n_20 with
          | zero =>
            intro what sum H locs ls hi hr hP hS hl
            rewrite [L_digestOfKnots_20] at hr
            refine lv_iload hx hb dX6_digestOfKnots_20 (lv_at hl 0 rfl) ?_
            refine lv_iconst (v := 5) hx hb dX6_digestOfKnots_22 (by decide) ?_
            refine lv_icmp_gt (tgt := 48) hx hb dX6_digestOfKnots_23 (by decide) (fun c_3 => ?_) (fun c_3 => ?_)
            · exact ex_20 sum _ _ _ hr hP hS (lv_sub hl [1, 2, 3] rfl)
            · exact absurd (kTopG (i := what) (N := 6) rfl (by omega) (by omega)) c_3
          | succ n_20 ih_20 =>
            intro what sum H locs ls hi hr hP hS hl
            rewrite [L_digestOfKnots_20] at hr
            refine lv_iload hx hb dX6_digestOfKnots_20 (lv_at hl 0 rfl) ?_
            refine lv_iconst (v := 5) hx hb dX6_digestOfKnots_22 (by decide) ?_
            refine lv_icmp_gt (tgt := 48) hx hb dX6_digestOfKnots_23 (by decide) (fun c_4 => ?_) (fun c_4 => ?_)
            · exact absurd c_4 (kLowG (i := what) (N := 6) rfl (by omega) (by omega))
            · refine lv_lload_n hx hb dX6_digestOfKnots_26 rfl (lv_at hl 1 rfl) ?_
              refine lv_ldc2 (v := 31) hx hb hown (hts (.constantLong RX6 355 (31)) (by decide +kernel)) dX6_digestOfKnots_27 ?_
              refine lv_lmul hx hb dX6_digestOfKnots_30 ?_
              refine lv_aload_n hx hb dX6_digestOfKnots_31 rfl (lv_at hl 2 rfl) ?_
              refine lv_iload hx hb dX6_digestOfKnots_32 (lv_at hl 3 rfl) ?_
              refine lv_iload hx hb dX6_digestOfKnots_34 (lv_at hl 0 rfl) ?_
              obtain ⟨v_6, hq_5⟩ : ∃ v, P_ofKnot K f bw isOn cnt len (nI knot) (nI what) = Sum.inl v := (P_ofKnot_ok (by omega) (by omega) (by omega))
              have hr := sbd_l hr hq_5
              refine kCall (va_runV (As := [.int (nI knot), .int (nI what)]) (rest := [.long (sum * (31 : Int64))]) ⟨hx, hb, hml, hown, hts⟩ (k_X6_ofKnot l dC dI cI cN s0 sc0 kp0 ta0 km rf q0 d0 c0 h0 h1 K f a0 a1 a2 a3 a4 isOn cnt len stp sta pm bm bw bars puts bap (nI knot) (nI what) (by first | assumption | omega | exact Int32.le_refl _ | decide) v_6 hq_5) (cwV 2 hts gX6_digestOfKnots_X6_ofKnot rfl rfl rfl (by decide +kernel) ⟨Nat.le_of_ble_eq_true rfl, Nat.le_of_ble_eq_true rfl⟩) (kW_V hP hK hD hN (ci := 5) (q0 := 0) rfl rfl [0, 1, 2, 3, 4, 5, 6, 7] rfl rfl rfl) rfl rfl hl.1 rfl (lv_room (Nat.le_of_ble_eq_true rfl)) dX6_digestOfKnots_36 ⟨Nat.zero_le _, Nat.zero_le _⟩) hP hS (fun H locs hP hS => ?_)
              refine lv_i2l (v := v_6.toInt64) hx hb dX6_digestOfKnots_39 rfl ?_
              refine lv_ladd hx hb dX6_digestOfKnots_40 ?_
              refine lv_topl (fun sum_8 esum_8 => ?_)
              have hr := bd_to hr esum_8
              refine lv_lstore_n (lv' := [(3, .long sum_8), (6, .int (nI what)), (0, .ref s0), (5, .int (nI knot))]) hx hb dX6_digestOfKnots_41 rfl hl (by decide) rfl (fun ls hl => ?_)
              refine lv_iinc (v := nI (what + 1)) (lv' := [(6, .int (nI (what + 1))), (3, .long sum_8), (0, .ref s0), (5, .int (nI knot))]) hx hb dX6_digestOfKnots_42 hl (k := 1) rfl (nI_1 _) (by decide) rfl (fun ls hl => ?_)
              refine lv_goto (tgt := 20) hx hb dX6_digestOfKnots_45 (by decide) ?_
              exact ih_20 (what + 1) sum_8 _ _ _ (by omega) hr hP hS (lv_sub hl [0, 1, 2, 3] rfl)
        exact lp_20 6 0 sum _ _ _ (by omega) hr hP hS (lv_sub hl [0, 2, 3, 1] rfl)
  exact lp_5 K 0 start _ _ _ (by omega) hr hP hS (lv_sub hl [0, 1, 2] rfl)
def L_digestOfEdges_24 (K : Nat) (f : Nat → Int32) (number : Nat) (k : Int64 → Int64) : Nat → Nat → Int64 → Int64
  | 0, what, sum => k sum
  | n + 1, what, sum =>
    sbd 0 (P_ofEdge K f (nI number) (nI what)) (fun v_1 =>
      bd ((sum * (31 : Int64)) + v_1.toInt64) (fun sum_2 =>
        L_digestOfEdges_24 K f number k n (what + 1) sum_2))
def L_digestOfEdges_14 (K : Nat) (f : Nat → Int32) (k : Int64 → Int32 → Int64) : Nat → Nat → Int64 → Int32 → Int64
  | 0, number, sum, edges => k sum edges
  | n + 1, number, sum, edges =>
    L_digestOfEdges_24 K f number (fun sum => L_digestOfEdges_14 K f k n (number + 1) sum edges) 4 0 sum
def P_digestOfEdges (K : Nat) (f : Nat → Int32) (start : Int64) : Int64 :=
  bd (P_edgesInAll K f) (fun edges_1 =>
    L_digestOfEdges_14 K f (fun sum edges => sum) edges_1.toNatClampNeg 0 start edges_1)
abbrev rm_X6_digestOfEdges : Room := { frames := 5, cells := 0, slots := 0, locals := 111 }
set_option maxHeartbeats 4000000 in
set_option maxRecDepth 100000 in
theorem k_X6_digestOfEdges (l : Launch) (dC : Nat → ClassId) (dI : Nat → Nat → Nat) (cI cN : ClassId) (s0 : Nat) (sc0 : Nat) (kp0 : Nat) (ta0 : Nat) (km : Int32) (rf : Int32) (a0 : Nat) (q0 : Nat) (d0 : Nat) (c0 : Nat) (h0 : Nat) (h1 : Nat) (K : Nat) (f : Nat → Int32) (start : Int64) (hK : K ≤ 16) (hEd : ∀ i, i < (P_edgesInAll K f).toNatClampNeg → ∀ w, w ≤ 3 → ∃ v, P_ofEdge K f (nI i) (nI w) = Sum.inl v) : Met l yX6_digestOfEdges wsX6_digestOfEdges rm_X6_digestOfEdges (va_Pc [.ref s0, .long start] (kW dC dI cI cN [(s0, .inr (5, [.ref h0, .ref sc0, .ref kp0, .ref a0, .ref q0, .ref d0, .ref c0, .ref ta0, .int km, .int rf])), (h0, .inr (3, [.ref h1, .int (nI K)])), (h1, .inl (cI, 16, .inl f))])) (kRl (P_digestOfEdges K f start)) 0 0 (fun _ => False) := by
  refine Met.ofW (cc := cX6_digestOfEdges) (maxL := 8) (ret := (some .long)) (by decide) rfl ?_
  intro p e s m args below meth c s₁ B hml hv
  obtain ⟨rfl, hP, hK, hD, hN⟩ := hv
  have hx := B.exec
  have hb := B.bytes
  have hr0 := B.returns
  have hts := atoms_spec (ws := wsX6_digestOfEdges) B.pre
  have hown : s.vm.findClass RX6 = some m.cls := findClass_of_methodNamed B.named
  have hlocks := B.notSynchronized
  have hS : va_S (fun _ => False) s.heap s.heap [] := va_S.rf
  have hl := lv_entry ([.ref s0, .long start]) (n := 8) (Nat.le_of_ble_eq_true rfl)
  rw [lg_entry_eq]
  generalize (lg_sl ([.ref s0, .long start]) ++ List.replicate (8 - (lg_sl ([.ref s0, .long start])).length) Slot.unset).toArray = ls at hl ⊢
  have hl : lv_has ls 8 [(0, .ref s0), (1, .long start)] := hl
  obtain ⟨ρ, hρ⟩ : ∃ ρ : Int64, ρ = P_digestOfEdges K f start := ⟨_, rfl⟩
  have hr : P_digestOfEdges K f start = ρ := hρ.symm
  rewrite [P_digestOfEdges] at hr
  refine lv_lload_n hx hb dX6_digestOfEdges_0 rfl (lv_at hl 1 rfl) ?_
  refine lv_lstore_n (lv' := [(3, .long start), (0, .ref s0), (1, .long start)]) hx hb dX6_digestOfEdges_1 rfl hl (by decide) rfl (fun ls hl => ?_)
  refine lv_aload_n hx hb dX6_digestOfEdges_2 rfl (lv_at hl 1 rfl) ?_
  refine va_get (D := (dC, dI)) (ci := 5) (v := .ref h0) (C := RX6) (T := TX6) (N := 10) hx hb hts (by decide +kernel) hown hK hP 0 rfl rfl 0 (by decide) (hts (.fieldLink RX6 12 "Shortring" "net" "LShortring$Net;") (by decide +kernel)) (fun _ h9 => h9) rfl dX6_digestOfEdges_3 ?_
  refine kCall (va_runVN (As := []) (rest := []) ⟨hx, hb, hml, hown, hts⟩ (k_X3_edgesInAll l dC dI cI cN h0 h1 K f (by first | assumption | omega | exact Int32.le_refl _ | decide)) ⟨va_cnB 0 hts gX6_digestOfEdges_X3_edgesInAll_n130 rfl rfl rfl (hN.1 13 _ rfl) (hts (.initialized RX3) (by decide +kernel)) (by decide +kernel) ⟨Nat.le_of_ble_eq_true rfl, Nat.le_of_ble_eq_true rfl⟩, hts (.instanceMethod yX3_edgesInAll) (by decide +kernel), hts (.selects RX3 yX3_edgesInAll yX3_edgesInAll) (by decide +kernel)⟩ (kW_V hP hK hD hN (ci := 3) (q0 := 1) rfl rfl [1, 2] rfl rfl rfl) rfl rfl hl.1 rfl (lv_room (Nat.le_of_ble_eq_true rfl)) dX6_digestOfEdges_6 ⟨Nat.zero_le _, Nat.zero_le _⟩) hP hS (fun H locs hP hS => ?_)
  refine lv_topi (fun edges_1 eedges_1 => ?_)
  have hr := bd_to hr eedges_1
  refine lv_istore (lv' := [(5, .int edges_1), (3, .long start), (0, .ref s0), (1, .long start)]) hx hb dX6_digestOfEdges_9 hl (by decide) rfl (fun ls hl => ?_)
  refine lv_iconst (v := 0) hx hb dX6_digestOfEdges_11 (by decide) ?_
  refine lv_istore (lv' := [(6, .int 0), (5, .int edges_1), (3, .long start), (0, .ref s0), (1, .long start)]) hx hb dX6_digestOfEdges_12 hl (by decide) rfl (fun ls hl => ?_)
  have ex_14 : ∀ (sum : Int64) (edges : Int32) (H : Heap) (locs : List Loc) (ls : Array Slot), (sum) = ρ → va_P (dC, dI) kCl [(s0, .inr (5, [.ref h0, .ref sc0, .ref kp0, .ref a0, .ref q0, .ref d0, .ref c0, .ref ta0, .int km, .int rf])), (h0, .inr (3, [.ref h1, .int (nI K)])), (h1, .inl (cI, 16, .inl f))] H → va_S (fun _ => False) s.heap H locs → lv_has ls 8 [(3, .long sum), (5, .int edges), (0, .ref s0)] → W p l e (headSpec wsX6_digestOfEdges rm_X6_digestOfEdges).room s m (([.ref s0, .long start] : List Value).toArray) below meth c H locs 0 0 (MQ below (kRl (P_digestOfEdges K f start)) (([.ref s0, .long start] : List Value).toArray) s 0 0 (fun _ => False)) (F0 m 58 ls []) := by
    intro sum edges H locs ls hr hP hS hl
    refine lv_lload_n hx hb dX6_digestOfEdges_58 rfl (lv_at hl 0 rfl) ?_
    have he := hr.trans hρ
    exact W.lret (v := sum) hx hb hr0 (fun t ht hW => kRl_end he hS ht) hS.2.2 dX6_digestOfEdges_59
  have lp_14 : ∀ (n_14 number : Nat) (sum : Int64) (edges : Int32) (H : Heap) (locs : List Loc) (ls : Array Slot), number + n_14 = edges.toNatClampNeg → (edges = P_edgesInAll K f) → L_digestOfEdges_14 K f (fun sum edges => sum) n_14 number sum edges = ρ → va_P (dC, dI) kCl [(s0, .inr (5, [.ref h0, .ref sc0, .ref kp0, .ref a0, .ref q0, .ref d0, .ref c0, .ref ta0, .int km, .int rf])), (h0, .inr (3, [.ref h1, .int (nI K)])), (h1, .inl (cI, 16, .inl f))] H → va_S (fun _ => False) s.heap H locs → lv_has ls 8 [(6, .int (nI number)), (3, .long sum), (5, .int edges), (0, .ref s0)] → W p l e (headSpec wsX6_digestOfEdges rm_X6_digestOfEdges).room s m (([.ref s0, .long start] : List Value).toArray) below meth c H locs 0 0 (MQ below (kRl (P_digestOfEdges K f start)) (([.ref s0, .long start] : List Value).toArray) s 0 0 (fun _ => False)) (F0 m 14 ls []) := by
    intro n_14
    induction n_14 with
    | zero =>
      intro number sum edges H locs ls hi hee hr hP hS hl
      rewrite [L_digestOfEdges_14] at hr
      refine lv_iload hx hb dX6_digestOfEdges_14 (lv_at hl 0 rfl) ?_
      refine lv_iload hx hb dX6_digestOfEdges_16 (lv_at hl 2 rfl) ?_
      refine lv_icmp_ge (tgt := 58) hx hb dX6_digestOfEdges_18 (by decide) (fun c_2 => ?_) (fun c_2 => ?_)
      · exact ex_14 sum edges _ _ _ hr hP hS (lv_sub hl [1, 2, 3] rfl)
      · exact absurd (kTopC (i := number) (by omega)) c_2
    | succ n_14 ih_14 =>
      intro number sum edges H locs ls hi hee hr hP hS hl
      rewrite [L_digestOfEdges_14] at hr
      refine lv_iload hx hb dX6_digestOfEdges_14 (lv_at hl 0 rfl) ?_
      refine lv_iload hx hb dX6_digestOfEdges_16 (lv_at hl 2 rfl) ?_
      refine lv_icmp_ge (tgt := 58) hx hb dX6_digestOfEdges_18 (by decide) (fun c_3 => ?_) (fun c_3 => ?_)
      · exact absurd c_3 (kLowC (i := number) (by omega))
      · refine lv_iconst (v := 0) hx hb dX6_digestOfEdges_21 (by decide) ?_
        refine lv_istore (lv' := [(7, .int 0), (6, .int (nI number)), (3, .long sum), (5, .int edges), (0, .ref s0)]) hx hb dX6_digestOfEdges_22 hl (by decide) rfl (fun ls hl => ?_)
        have ex_24 : ∀ (sum : Int64) (H : Heap) (locs : List Loc) (ls : Array Slot), (L_digestOfEdges_14 K f (fun sum edges => sum) n_14 (number + 1) sum edges) = ρ → va_P (dC, dI) kCl [(s0, .inr (5, [.ref h0, .ref sc0, .ref kp0, .ref a0, .ref q0, .ref d0, .ref c0, .ref ta0, .int km, .int rf])), (h0, .inr (3, [.ref h1, .int (nI K)])), (h1, .inl (cI, 16, .inl f))] H → va_S (fun _ => False) s.heap H locs → lv_has ls 8 [(3, .long sum), (0, .ref s0), (5, .int edges), (6, .int (nI number))] → W p l e (headSpec wsX6_digestOfEdges rm_X6_digestOfEdges).room s m (([.ref s0, .long start] : List Value).toArray) below meth c H locs 0 0 (MQ below (kRl (P_digestOfEdges K f start)) (([.ref s0, .long start] : List Value).toArray) s 0 0 (fun _ => False)) (F0 m 52 ls []) := by
          intro sum H locs ls hr hP hS hl
          refine lv_iinc (v := nI (number + 1)) (lv' := [(6, .int (nI (number + 1))), (3, .long sum), (0, .ref s0), (5, .int edges)]) hx hb dX6_digestOfEdges_52 hl (k := 3) rfl (nI_1 _) (by decide) rfl (fun ls hl => ?_)
          refine lv_goto (tgt := 14) hx hb dX6_digestOfEdges_55 (by decide) ?_
          exact ih_14 (number + 1) sum edges _ _ _ (by omega) hee hr hP hS (lv_sub hl [0, 1, 3, 2] rfl)
        have lp_24 : ∀ (n_24 what : Nat) (sum : Int64) (H : Heap) (locs : List Loc) (ls : Array Slot), what + n_24 = 4 → L_digestOfEdges_24 K f number (fun sum => L_digestOfEdges_14 K f (fun sum edges => sum) n_14 (number + 1) sum edges) n_24 what sum = ρ → va_P (dC, dI) kCl [(s0, .inr (5, [.ref h0, .ref sc0, .ref kp0, .ref a0, .ref q0, .ref d0, .ref c0, .ref ta0, .int km, .int rf])), (h0, .inr (3, [.ref h1, .int (nI K)])), (h1, .inl (cI, 16, .inl f))] H → va_S (fun _ => False) s.heap H locs → lv_has ls 8 [(7, .int (nI what)), (3, .long sum), (0, .ref s0), (5, .int edges), (6, .int (nI number))] → W p l e (headSpec wsX6_digestOfEdges rm_X6_digestOfEdges).room s m (([.ref s0, .long start] : List Value).toArray) below meth c H locs 0 0 (MQ below (kRl (P_digestOfEdges K f start)) (([.ref s0, .long start] : List Value).toArray) s 0 0 (fun _ => False)) (F0 m 24 ls []) := by
          intro n_24
          induction n_24 with
          | zero =>
            intro what sum H locs ls hi hr hP hS hl
            rewrite [L_digestOfEdges_24] at hr
            refine lv_iload hx hb dX6_digestOfEdges_24 (lv_at hl 0 rfl) ?_
            refine lv_iconst (v := 3) hx hb dX6_digestOfEdges_26 (by decide) ?_
            refine lv_icmp_gt (tgt := 52) hx hb dX6_digestOfEdges_27 (by decide) (fun c_4 => ?_) (fun c_4 => ?_)
            · exact ex_24 sum _ _ _ hr hP hS (lv_sub hl [1, 2, 3, 4] rfl)
            · exact absurd (kTopG (i := what) (N := 4) rfl (by omega) (by omega)) c_4
          | succ n_24 ih_24 =>
            intro what sum H locs ls hi hr hP hS hl
            rewrite [L_digestOfEdges_24] at hr
            refine lv_iload hx hb dX6_digestOfEdges_24 (lv_at hl 0 rfl) ?_
            refine lv_iconst (v := 3) hx hb dX6_digestOfEdges_26 (by decide) ?_
            refine lv_icmp_gt (tgt := 52) hx hb dX6_digestOfEdges_27 (by decide) (fun c_5 => ?_) (fun c_5 => ?_)
            · exact absurd c_5 (kLowG (i := what) (N := 4) rfl (by omega) (by omega))
            · refine lv_lload_n hx hb dX6_digestOfEdges_30 rfl (lv_at hl 1 rfl) ?_
              refine lv_ldc2 (v := 31) hx hb hown (hts (.constantLong RX6 355 (31)) (by decide +kernel)) dX6_digestOfEdges_31 ?_
              refine lv_lmul hx hb dX6_digestOfEdges_34 ?_
              refine lv_aload_n hx hb dX6_digestOfEdges_35 rfl (lv_at hl 2 rfl) ?_
              refine lv_iload hx hb dX6_digestOfEdges_36 (lv_at hl 4 rfl) ?_
              refine lv_iload hx hb dX6_digestOfEdges_38 (lv_at hl 0 rfl) ?_
              obtain ⟨v_7, hq_6⟩ : ∃ v, P_ofEdge K f (nI number) (nI what) = Sum.inl v := (hEd number (by rw [← hee]; omega) what (by omega))
              have hr := sbd_l hr hq_6
              refine kCall (va_runV (As := [.int (nI number), .int (nI what)]) (rest := [.long (sum * (31 : Int64))]) ⟨hx, hb, hml, hown, hts⟩ (k_X6_ofEdge l dC dI cI cN s0 sc0 kp0 ta0 km rf a0 q0 d0 c0 h0 h1 K f (nI number) (nI what) (by first | assumption | omega | exact Int32.le_refl _ | decide) v_7 hq_6) (cwV 2 hts gX6_digestOfEdges_X6_ofEdge rfl rfl rfl (by decide +kernel) ⟨Nat.le_of_ble_eq_true rfl, Nat.le_of_ble_eq_true rfl⟩) (kW_V hP hK hD hN (ci := 5) (q0 := 0) rfl rfl [0, 1, 2] rfl rfl rfl) rfl rfl hl.1 rfl (lv_room (Nat.le_of_ble_eq_true rfl)) dX6_digestOfEdges_40 ⟨Nat.zero_le _, Nat.zero_le _⟩) hP hS (fun H locs hP hS => ?_)
              refine lv_i2l (v := v_7.toInt64) hx hb dX6_digestOfEdges_43 rfl ?_
              refine lv_ladd hx hb dX6_digestOfEdges_44 ?_
              refine lv_topl (fun sum_9 esum_9 => ?_)
              have hr := bd_to hr esum_9
              refine lv_lstore_n (lv' := [(3, .long sum_9), (7, .int (nI what)), (0, .ref s0), (5, .int edges), (6, .int (nI number))]) hx hb dX6_digestOfEdges_45 rfl hl (by decide) rfl (fun ls hl => ?_)
              refine lv_iinc (v := nI (what + 1)) (lv' := [(7, .int (nI (what + 1))), (3, .long sum_9), (0, .ref s0), (5, .int edges), (6, .int (nI number))]) hx hb dX6_digestOfEdges_46 hl (k := 1) rfl (nI_1 _) (by decide) rfl (fun ls hl => ?_)
              refine lv_goto (tgt := 24) hx hb dX6_digestOfEdges_49 (by decide) ?_
              exact ih_24 (what + 1) sum_9 _ _ _ (by omega) hr hP hS (lv_sub hl [0, 1, 2, 3, 4] rfl)
        exact lp_24 4 0 sum _ _ _ (by omega) hr hP hS (lv_sub hl [0, 2, 4, 3, 1] rfl)
  exact lp_14 edges_1.toNatClampNeg 0 start edges_1 _ _ _ (by omega) (by assumption) hr hP hS (lv_sub hl [0, 2, 1, 3] rfl)
def L_digestOfTable_14 (g : Nat → Int32) (t : Nat → Int32) (count : Nat) (k : Int64 → Int64) : Nat → Nat → Int64 → Int64
  | 0, length, sum => k sum
  | n + 1, length, sum =>
    sbd 0 (P_table g t (nI count) (nI length) 0) (fun v_1 =>
      bd ((sum * (31 : Int64)) + v_1.toInt64) (fun sum_2 =>
        sbd 0 (P_table g t (nI count) (nI length) 1) (fun v_3 =>
          bd ((sum_2 * (31 : Int64)) + v_3.toInt64) (fun sum_4 =>
            L_digestOfTable_14 g t count k n (length + 1) sum_4))))
def L_digestOfTable_5 (g : Nat → Int32) (t : Nat → Int32) (k : Int64 → Int64) : Nat → Nat → Int64 → Int64
  | 0, count, sum => k sum
  | n + 1, count, sum =>
    L_digestOfTable_14 g t count (fun sum => L_digestOfTable_5 g t k n (count + 1) sum) (9 - 3) 3 sum
def P_digestOfTable (g : Nat → Int32) (t : Nat → Int32) (start : Int64) : Int64 :=
  L_digestOfTable_5 g t (fun sum => sum) (6 - 2) 2 start
abbrev rm_X6_digestOfTable : Room := { frames := 6, cells := 0, slots := 0, locals := 140 }
set_option maxHeartbeats 4000000 in
set_option maxRecDepth 100000 in
theorem k_X6_digestOfTable (l : Launch) (dC : Nat → ClassId) (dI : Nat → Nat → Nat) (cI cN : ClassId) (h0 : Nat) (s0 : Nat) (sc0 : Nat) (kp0 : Nat) (ta0 : Nat) (km : Int32) (rf : Int32) (a0 : Nat) (d0 : Nat) (c0 : Nat) (q0 : Nat) (q1 : Nat) (q2 : Nat) (g : Nat → Int32) (t : Nat → Int32) (start : Int64) : Met l yX6_digestOfTable wsX6_digestOfTable rm_X6_digestOfTable (va_Pc [.ref s0, .long start] (kW dC dI cI cN [(s0, .inr (5, [.ref h0, .ref sc0, .ref kp0, .ref a0, .ref q0, .ref d0, .ref c0, .ref ta0, .int km, .int rf])), (q0, .inr (1, [.ref q1, .ref q2])), (q1, .inl (cI, 102, .inl g)), (q2, .inl (cI, 54, .inl t))])) (kRl (P_digestOfTable g t start)) 0 0 (fun _ => False) := by
  refine Met.ofW (cc := cX6_digestOfTable) (maxL := 7) (ret := (some .long)) (by decide) rfl ?_
  intro p e s m args below meth c s₁ B hml hv
  obtain ⟨rfl, hP, hK, hD, hN⟩ := hv
  have hx := B.exec
  have hb := B.bytes
  have hr0 := B.returns
  have hts := atoms_spec (ws := wsX6_digestOfTable) B.pre
  have hown : s.vm.findClass RX6 = some m.cls := findClass_of_methodNamed B.named
  have hlocks := B.notSynchronized
  have hS : va_S (fun _ => False) s.heap s.heap [] := va_S.rf
  have hl := lv_entry ([.ref s0, .long start]) (n := 7) (Nat.le_of_ble_eq_true rfl)
  rw [lg_entry_eq]
  generalize (lg_sl ([.ref s0, .long start]) ++ List.replicate (7 - (lg_sl ([.ref s0, .long start])).length) Slot.unset).toArray = ls at hl ⊢
  have hl : lv_has ls 7 [(0, .ref s0), (1, .long start)] := hl
  obtain ⟨ρ, hρ⟩ : ∃ ρ : Int64, ρ = P_digestOfTable g t start := ⟨_, rfl⟩
  have hr : P_digestOfTable g t start = ρ := hρ.symm
  rewrite [P_digestOfTable] at hr
  refine lv_lload_n hx hb dX6_digestOfTable_0 rfl (lv_at hl 1 rfl) ?_
  refine lv_lstore_n (lv' := [(3, .long start), (0, .ref s0), (1, .long start)]) hx hb dX6_digestOfTable_1 rfl hl (by decide) rfl (fun ls hl => ?_)
  refine lv_iconst (v := 2) hx hb dX6_digestOfTable_2 (by decide) ?_
  refine lv_istore (lv' := [(5, .int 2), (3, .long start), (0, .ref s0), (1, .long start)]) hx hb dX6_digestOfTable_3 hl (by decide) rfl (fun ls hl => ?_)
  have ex_5 : ∀ (sum : Int64) (H : Heap) (locs : List Loc) (ls : Array Slot), (sum) = ρ → va_P (dC, dI) kCl [(s0, .inr (5, [.ref h0, .ref sc0, .ref kp0, .ref a0, .ref q0, .ref d0, .ref c0, .ref ta0, .int km, .int rf])), (q0, .inr (1, [.ref q1, .ref q2])), (q1, .inl (cI, 102, .inl g)), (q2, .inl (cI, 54, .inl t))] H → va_S (fun _ => False) s.heap H locs → lv_has ls 7 [(3, .long sum), (0, .ref s0)] → W p l e (headSpec wsX6_digestOfTable rm_X6_digestOfTable).room s m (([.ref s0, .long start] : List Value).toArray) below meth c H locs 0 0 (MQ below (kRl (P_digestOfTable g t start)) (([.ref s0, .long start] : List Value).toArray) s 0 0 (fun _ => False)) (F0 m 67 ls []) := by
    intro sum H locs ls hr hP hS hl
    refine lv_lload_n hx hb dX6_digestOfTable_67 rfl (lv_at hl 0 rfl) ?_
    have he := hr.trans hρ
    exact W.lret (v := sum) hx hb hr0 (fun t ht hW => kRl_end he hS ht) hS.2.2 dX6_digestOfTable_68
  have lp_5 : ∀ (n_5 count : Nat) (sum : Int64) (H : Heap) (locs : List Loc) (ls : Array Slot), count + n_5 = 6 → (2 ≤ count) → L_digestOfTable_5 g t (fun sum => sum) n_5 count sum = ρ → va_P (dC, dI) kCl [(s0, .inr (5, [.ref h0, .ref sc0, .ref kp0, .ref a0, .ref q0, .ref d0, .ref c0, .ref ta0, .int km, .int rf])), (q0, .inr (1, [.ref q1, .ref q2])), (q1, .inl (cI, 102, .inl g)), (q2, .inl (cI, 54, .inl t))] H → va_S (fun _ => False) s.heap H locs → lv_has ls 7 [(5, .int (nI count)), (3, .long sum), (0, .ref s0)] → W p l e (headSpec wsX6_digestOfTable rm_X6_digestOfTable).room s m (([.ref s0, .long start] : List Value).toArray) below meth c H locs 0 0 (MQ below (kRl (P_digestOfTable g t start)) (([.ref s0, .long start] : List Value).toArray) s 0 0 (fun _ => False)) (F0 m 5 ls []) := by
    intro n_5
    induction n_5 with
    | zero =>
      intro count sum H locs ls hi hc0 hr hP hS hl
      rewrite [L_digestOfTable_5] at hr
      refine lv_iload hx hb dX6_digestOfTable_5 (lv_at hl 0 rfl) ?_
      refine lv_iconst (v := 5) hx hb dX6_digestOfTable_7 (by decide) ?_
      refine lv_icmp_gt (tgt := 67) hx hb dX6_digestOfTable_8 (by decide) (fun c_1 => ?_) (fun c_1 => ?_)
      · exact ex_5 sum _ _ _ hr hP hS (lv_sub hl [1, 2] rfl)
      · exact absurd (kTopG (i := count) (N := 6) rfl (by omega) (by omega)) c_1
    | succ n_5 ih_5 =>
      intro count sum H locs ls hi hc0 hr hP hS hl
      rewrite [L_digestOfTable_5] at hr
      refine lv_iload hx hb dX6_digestOfTable_5 (lv_at hl 0 rfl) ?_
      refine lv_iconst (v := 5) hx hb dX6_digestOfTable_7 (by decide) ?_
      refine lv_icmp_gt (tgt := 67) hx hb dX6_digestOfTable_8 (by decide) (fun c_2 => ?_) (fun c_2 => ?_)
      · exact absurd c_2 (kLowG (i := count) (N := 6) rfl (by omega) (by omega))
      · refine lv_iconst (v := 3) hx hb dX6_digestOfTable_11 (by decide) ?_
        refine lv_istore (lv' := [(6, .int 3), (5, .int (nI count)), (3, .long sum), (0, .ref s0)]) hx hb dX6_digestOfTable_12 hl (by decide) rfl (fun ls hl => ?_)
        have ex_14 : ∀ (sum : Int64) (H : Heap) (locs : List Loc) (ls : Array Slot), (L_digestOfTable_5 g t (fun sum => sum) n_5 (count + 1) sum) = ρ → va_P (dC, dI) kCl [(s0, .inr (5, [.ref h0, .ref sc0, .ref kp0, .ref a0, .ref q0, .ref d0, .ref c0, .ref ta0, .int km, .int rf])), (q0, .inr (1, [.ref q1, .ref q2])), (q1, .inl (cI, 102, .inl g)), (q2, .inl (cI, 54, .inl t))] H → va_S (fun _ => False) s.heap H locs → lv_has ls 7 [(3, .long sum), (0, .ref s0), (5, .int (nI count))] → W p l e (headSpec wsX6_digestOfTable rm_X6_digestOfTable).room s m (([.ref s0, .long start] : List Value).toArray) below meth c H locs 0 0 (MQ below (kRl (P_digestOfTable g t start)) (([.ref s0, .long start] : List Value).toArray) s 0 0 (fun _ => False)) (F0 m 61 ls []) := by
          intro sum H locs ls hr hP hS hl
          refine lv_iinc (v := nI (count + 1)) (lv' := [(5, .int (nI (count + 1))), (3, .long sum), (0, .ref s0)]) hx hb dX6_digestOfTable_61 hl (k := 2) rfl (nI_1 _) (by decide) rfl (fun ls hl => ?_)
          refine lv_goto (tgt := 5) hx hb dX6_digestOfTable_64 (by decide) ?_
          exact ih_5 (count + 1) sum _ _ _ (by omega) (by omega) hr hP hS (lv_sub hl [0, 1, 2] rfl)
        have lp_14 : ∀ (n_14 length : Nat) (sum : Int64) (H : Heap) (locs : List Loc) (ls : Array Slot), length + n_14 = 9 → (2 ≤ count ∧ 3 ≤ length) → L_digestOfTable_14 g t count (fun sum => L_digestOfTable_5 g t (fun sum => sum) n_5 (count + 1) sum) n_14 length sum = ρ → va_P (dC, dI) kCl [(s0, .inr (5, [.ref h0, .ref sc0, .ref kp0, .ref a0, .ref q0, .ref d0, .ref c0, .ref ta0, .int km, .int rf])), (q0, .inr (1, [.ref q1, .ref q2])), (q1, .inl (cI, 102, .inl g)), (q2, .inl (cI, 54, .inl t))] H → va_S (fun _ => False) s.heap H locs → lv_has ls 7 [(6, .int (nI length)), (3, .long sum), (0, .ref s0), (5, .int (nI count))] → W p l e (headSpec wsX6_digestOfTable rm_X6_digestOfTable).room s m (([.ref s0, .long start] : List Value).toArray) below meth c H locs 0 0 (MQ below (kRl (P_digestOfTable g t start)) (([.ref s0, .long start] : List Value).toArray) s 0 0 (fun _ => False)) (F0 m 14 ls []) := by
          intro n_14
          induction n_14 with
          | zero =>
            intro length sum H locs ls hi hc1 hr hP hS hl
            rewrite [L_digestOfTable_14] at hr
            refine lv_iload hx hb dX6_digestOfTable_14 (lv_at hl 0 rfl) ?_
            refine lv_bipush (v := 8) hx hb dX6_digestOfTable_16 (by decide) ?_
            refine lv_icmp_gt (tgt := 61) hx hb dX6_digestOfTable_18 (by decide) (fun c_3 => ?_) (fun c_3 => ?_)
            · exact ex_14 sum _ _ _ hr hP hS (lv_sub hl [1, 2, 3] rfl)
            · exact absurd (kTopG (i := length) (N := 9) rfl (by omega) (by omega)) c_3
          | succ n_14 ih_14 =>
            intro length sum H locs ls hi hc1 hr hP hS hl
            rewrite [L_digestOfTable_14] at hr
            refine lv_iload hx hb dX6_digestOfTable_14 (lv_at hl 0 rfl) ?_
            refine lv_bipush (v := 8) hx hb dX6_digestOfTable_16 (by decide) ?_
            refine lv_icmp_gt (tgt := 61) hx hb dX6_digestOfTable_18 (by decide) (fun c_4 => ?_) (fun c_4 => ?_)
            · exact absurd c_4 (kLowG (i := length) (N := 9) rfl (by omega) (by omega))
            · refine lv_lload_n hx hb dX6_digestOfTable_21 rfl (lv_at hl 1 rfl) ?_
              refine lv_ldc2 (v := 31) hx hb hown (hts (.constantLong RX6 355 (31)) (by decide +kernel)) dX6_digestOfTable_22 ?_
              refine lv_lmul hx hb dX6_digestOfTable_25 ?_
              refine lv_aload_n hx hb dX6_digestOfTable_26 rfl (lv_at hl 2 rfl) ?_
              refine lv_iload hx hb dX6_digestOfTable_27 (lv_at hl 3 rfl) ?_
              refine lv_iload hx hb dX6_digestOfTable_29 (lv_at hl 0 rfl) ?_
              refine lv_iconst (v := 0) hx hb dX6_digestOfTable_31 (by decide) ?_
              obtain ⟨v_6, hq_5⟩ : ∃ v, P_table g t (nI count) (nI length) 0 = Sum.inl v := (P_table_ok (by omega) (by omega) (by omega) (by omega))
              have hr := sbd_l hr hq_5
              refine kCall (va_runV (As := [.int (nI count), .int (nI length), .int 0]) (rest := [.long (sum * (31 : Int64))]) ⟨hx, hb, hml, hown, hts⟩ (k_X6_table l dC dI cI cN h0 s0 sc0 kp0 ta0 km rf a0 d0 c0 q0 q1 q2 g t (nI count) (nI length) 0 v_6 hq_5) (cwV 3 hts gX6_digestOfTable_X6_table rfl rfl rfl (by decide +kernel) ⟨Nat.le_of_ble_eq_true rfl, Nat.le_of_ble_eq_true rfl⟩) (kW_V hP hK hD hN (ci := 5) (q0 := 0) rfl rfl [0, 1, 2, 3] rfl rfl rfl) rfl rfl hl.1 rfl (lv_room (Nat.le_of_ble_eq_true rfl)) dX6_digestOfTable_32 ⟨Nat.zero_le _, Nat.zero_le _⟩) hP hS (fun H locs hP hS => ?_)
              refine lv_i2l (v := v_6.toInt64) hx hb dX6_digestOfTable_35 rfl ?_
              refine lv_ladd hx hb dX6_digestOfTable_36 ?_
              refine lv_topl (fun sum_8 esum_8 => ?_)
              have hr := bd_to hr esum_8
              refine lv_lstore_n (lv' := [(3, .long sum_8), (6, .int (nI length)), (0, .ref s0), (5, .int (nI count))]) hx hb dX6_digestOfTable_37 rfl hl (by decide) rfl (fun ls hl => ?_)
              refine lv_lload_n hx hb dX6_digestOfTable_38 rfl (lv_at hl 0 rfl) ?_
              refine lv_ldc2 (v := 31) hx hb hown (hts (.constantLong RX6 355 (31)) (by decide +kernel)) dX6_digestOfTable_39 ?_
              refine lv_lmul hx hb dX6_digestOfTable_42 ?_
              refine lv_aload_n hx hb dX6_digestOfTable_43 rfl (lv_at hl 2 rfl) ?_
              refine lv_iload hx hb dX6_digestOfTable_44 (lv_at hl 3 rfl) ?_
              refine lv_iload hx hb dX6_digestOfTable_46 (lv_at hl 1 rfl) ?_
              refine lv_iconst (v := 1) hx hb dX6_digestOfTable_48 (by decide) ?_
              obtain ⟨v_10, hq_9⟩ : ∃ v, P_table g t (nI count) (nI length) 1 = Sum.inl v := (P_table_ok (by omega) (by omega) (by omega) (by omega))
              have hr := sbd_l hr hq_9
              refine kCall (va_runV (As := [.int (nI count), .int (nI length), .int 1]) (rest := [.long (sum_8 * (31 : Int64))]) ⟨hx, hb, hml, hown, hts⟩ (k_X6_table l dC dI cI cN h0 s0 sc0 kp0 ta0 km rf a0 d0 c0 q0 q1 q2 g t (nI count) (nI length) 1 v_10 hq_9) (cwV 3 hts gX6_digestOfTable_X6_table rfl rfl rfl (by decide +kernel) ⟨Nat.le_of_ble_eq_true rfl, Nat.le_of_ble_eq_true rfl⟩) (kW_V hP hK hD hN (ci := 5) (q0 := 0) rfl rfl [0, 1, 2, 3] rfl rfl rfl) rfl rfl hl.1 rfl (lv_room (Nat.le_of_ble_eq_true rfl)) dX6_digestOfTable_49 ⟨Nat.zero_le _, Nat.zero_le _⟩) hP hS (fun H locs hP hS => ?_)
              refine lv_i2l (v := v_10.toInt64) hx hb dX6_digestOfTable_52 rfl ?_
              refine lv_ladd hx hb dX6_digestOfTable_53 ?_
              refine lv_topl (fun sum_12 esum_12 => ?_)
              have hr := bd_to hr esum_12
              refine lv_lstore_n (lv' := [(3, .long sum_12), (6, .int (nI length)), (0, .ref s0), (5, .int (nI count))]) hx hb dX6_digestOfTable_54 rfl hl (by decide) rfl (fun ls hl => ?_)
              refine lv_iinc (v := nI (length + 1)) (lv' := [(6, .int (nI (length + 1))), (3, .long sum_12), (0, .ref s0), (5, .int (nI count))]) hx hb dX6_digestOfTable_55 hl (k := 1) rfl (nI_1 _) (by decide) rfl (fun ls hl => ?_)
              refine lv_goto (tgt := 14) hx hb dX6_digestOfTable_58 (by decide) ?_
              exact ih_14 (length + 1) sum_12 _ _ _ (by omega) (by omega) hr hP hS (lv_sub hl [0, 1, 2, 3] rfl)
        exact lp_14 (9 - 3) 3 sum _ _ _ (by omega) (by omega) hr hP hS (lv_sub hl [0, 2, 3, 1] rfl)
  exact lp_5 (6 - 2) 2 start _ _ _ (by omega) (by omega) hr hP hS (lv_sub hl [0, 1, 2] rfl)
