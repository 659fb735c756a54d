/-! The class's worlds, the words of its nest, contracts that change nothing (printed by wip/gen/pre.py) -/
abbrev kCl : List vw_C := [(RX0, TX0, 11), (RX1, TX1, 2), (RX2, TX2, 4), (RX3, TX3, 2), (RX4, TX4, 1), (RX6, TX6, 10)]
abbrev kT (cI cN : ClassId) : List (ClassId × FieldType) := [(cI, .int), (cN, .object "Shortring$Net")]
def kNM : List (String × Nat × MethodName) := [(RX6, 11, yX3_init), (RX6, 25, yX0_init), (RX6, 32, yX1_init), (RX6, 39, yX2_init), (RX6, 46, yX4_init), (RX6, 76, yX3_lay), (RX6, 80, yX0_end), (RX6, 83, yX1_look), (RX6, 87, yX3_isKnot), (RX6, 98, yX3_isNear), (RX6, 102, yX3_countOf), (RX6, 111, yX3_join), (RX6, 115, yX3_loosen), (RX6, 130, yX3_edgesInAll), (RX6, 144, yX3_take), (RX6, 147, yX5_leastRing), (RX6, 153, yX3_edgeAt), (RX6, 185, yX0_begin), (RX6, 188, yX1_why), (RX6, 202, yX0_step), (RX6, 211, yX1_prove), (RX6, 226, yX0_nextKnot), (RX6, 229, yX0_partnerOf), (RX6, 235, yX5_partsInAll), (RX6, 238, yX3_evenCount), (RX6, 241, yX5_width), (RX6, 244, yX4_fewest), (RX6, 247, yX2_turnsOf), (RX6, 250, yX3_loneliest), (RX6, 255, yX3_nearOf), (RX6, 258, yX5_partNumber), (RX6, 261, yX5_leastRingAt), (RX6, 264, yX5_greatestDistance), (RX6, 267, yX0_joinable), (RX6, 283, yX5_leastRingBy), (RX6, 298, yX1_leastKnots), (RX6, 303, yX1_nextOf), (RX6, 306, yX1_smallestOf), (RX6, 317, yX2_areAlike), (RX6, 340, yX3_isMutual), (RX6, 350, yX1_isTableSound), (RX0, 64, yX6_pairOf), (RX0, 71, yX3_join), (RX0, 77, yX6_oneOf), (RX0, 81, yX6_otherOf), (RX0, 84, yX3_loosen), (RX0, 93, yX6_bit), (RX0, 99, yX3_countOf), (RX0, 102, yX6_holds), (RX0, 106, yX5_within), (RX0, 123, yX6_firstOf), (RX1, 26, yX6_isWithin), (RX1, 32, yX3_evenCount), (RX1, 38, yX5_leastRing), (RX2, 11, yX3_init), (RX2, 32, yX3_take), (RX2, 36, yX6_holds), (RX2, 40, yX5_partWith), (RX2, 59, yX3_edgesInAll), (RX2, 63, yX6_bit), (RX2, 89, yX3_nearOf), (RX3, 23, yX6_holds), (RX3, 36, yX6_bit), (RX3, 46, yX6_pairOf), (RX3, 49, yX6_firstOf), (RX4, 21, yX6_holds), (RX4, 25, yX5_partWith), (RX4, 49, yX3_nearOf), (RX4, 53, yX6_bit), (RX5, 15, yX3_nearOf), (RX5, 20, yX6_bit), (RX5, 37, yX6_holds), (RX5, 57, yX3_isNear), (RX5, 63, yX6_lesser)]
def kNF : List (String × Nat × String × String × String) := [(RX6, 73, "Shortring$Net", "knots", "I"), (RX6, 193, "Shortring$Hunt", "isOn", "Z"), (RX6, 199, "Shortring$Hunt", "state", "I"), (RX6, 205, "Shortring$Hunt", "count", "I"), (RX6, 208, "Shortring$Hunt", "length", "I"), (RX6, 217, "Shortring$Hunt", "putMany", "I"), (RX6, 220, "Shortring$Hunt", "barMany", "I"), (RX6, 223, "Shortring$Hunt", "steps", "I"), (RX0, 96, "Shortring$Net", "knots", "I"), (RX1, 47, "Shortring$Net", "knots", "I"), (RX2, 29, "Shortring$Net", "knots", "I"), (RX4, 15, "Shortring$Net", "knots", "I"), (RX5, 33, "Shortring$Net", "knots", "I")]
def kN (U : State) : Prop := (∀ (i : Nat) (q : String × Nat × MethodName), kNM[i]? = some q → va_Nw (.methodLinkNest q.1 q.2.1 q.2.2 "Shortring") U) ∧ (∀ (i : Nat) (q : String × Nat × String × String × String), kNF[i]? = some q → va_Nw (.fieldLinkNest q.1 q.2.1 q.2.2.1 q.2.2.2.1 q.2.2.2.2 "Shortring") U)
theorem kN_warm {s U : State} (hW : s.WarmedH U.vm) (h : kN s) : kN U := ⟨fun i q e => va_Nw.warmM hW (h.1 i q e), fun i q e => va_Nw.warmF hW (h.2 i q e)⟩
theorem kN_same {u U : State} (e : u.vm = U.vm) (h : kN u) : kN U := ⟨fun i q e1 => va_Nw.same rfl e (h.1 i q e1), fun i q e1 => va_Nw.same rfl e (h.2 i q e1)⟩
/-- a world of the class's objects, its tables, its nest's words -/
def kW (dC : Nat → ClassId) (dI : Nat → Nat → Nat) (cI cN : ClassId) (ws : va_W) (U : State) : Prop := va_P (dC, dI) kCl ws U.heap ∧ va_K (dC, dI) kCl (kT cI cN) U ∧ va_D (fun _ => True) ws ∧ kN U
theorem kW_blind {dC : Nat → ClassId} {dI : Nat → Nat → Nat} {cI cN : ClassId} {ws : va_W} {As : List Value} : FrameBlind (va_Pc As (kW dC dI cI cN ws)) :=
  fun a U g mk q => ⟨q.1, q.2.1, va_K.moved (u := U) (U := U.calling g mk a) (Vm.Alike.refl U.vm) q.2.2.1, q.2.2.2.1, kN_same (u := U) rfl q.2.2.2.2⟩
theorem kW_S {dC : Nat → ClassId} {dI : Nat → Nat → Nat} {cI cN : ClassId} {W wc : va_W} {A : Nat → Prop} {H : Heap} {s : State} {As : List Value} (hP : va_P (dC, dI) kCl W H) (hK : va_K (dC, dI) kCl (kT cI cN) s) (hD : va_D A W) (hN : kN s)
    (is : List Nat) (h0 : va_nd is = true) (h1 : is.filterMap (fun i => W[i]?) = wc) (h2 : is.map (fun i => W[i]?) = wc.map some) : PreS s H (va_Pc As (kW dC dI cI cN wc)) As :=
  ⟨kW_blind, fun U hU hW => ⟨rfl, by rw [hU]; exact hP.sub is h1, va_K.moved hW.alike hK, (hD.sub is h0 h2).weaken (fun _ _ _ _ => trivial), kN_warm hW hN⟩⟩
theorem kW_V {dC : Nat → ClassId} {dI : Nat → Nat → Nat} {cI cN : ClassId} {W wc : va_W} {A : Nat → Prop} {H : Heap} {s : State} {b q0 ci : Nat} {q : vw_C} {fs : List Value} {As : List Value} (hP : va_P (dC, dI) kCl W H) (hK : va_K (dC, dI) kCl (kT cI cN) s) (hD : va_D A W) (hN : kN s)
    (hc : kCl[ci]? = some q) (he : W[q0]? = some (b, .inr (ci, fs))) (is : List Nat) (h0 : va_nd is = true) (h1 : is.filterMap (fun i => W[i]?) = wc) (h2 : is.map (fun i => W[i]?) = wc.map some) : PreV s H q.1 b (va_Pc (.ref b :: As) (kW dC dI cI cN wc)) As :=
  ⟨kW_blind, va_recv hK hP hc he, fun U hU hW => ⟨rfl, by rw [hU]; exact hP.sub is h1, va_K.moved hW.alike hK, (hD.sub is h0 h2).weaken (fun _ _ _ _ => trivial), kN_warm hW hN⟩⟩
/-- the end of a method that answers v and changes nothing -/
def kR (v : Int32) : Array Value → State → Outcome → State → Prop := va_Qi (fun (r : Int32) (_ : Unit) => r = v) (fun _ _ => True) (fun _ => False)
theorem kR_end {v r : Int32} {a : Array Value} {s t : State} {H : Heap} {locs : List Loc} (h : r = v) (hS : va_S (fun _ => False) s.heap H locs) (ht : t.heap = H) : kR v a s (.returned (some (.int r))) t := ⟨⟨r, (), rfl, h, trivial⟩, hS.F ht⟩
theorem kP_kept {D : va_G} {cl : List vw_C} {ws : va_W} {H H1 : Heap} (h : va_P D cl ws H) (hk : ∀ q : Nat, q < H.size → ¬ False → H1[q]? = H[q]?) : va_P D cl ws H1 := h.kept (fun k q hq => hk q.1 (h k q hq).lt (fun x => x))
section KCALL
variable {p : Program} {l : Launch} {e : Env} {R : Room} {s : State} {m : MethodId} {args : Array Value} {below : List Frame} {meth : Method} {c : Code} {H : Heap} {locs : List Loc} {cells slots : Nat} {Q : State → Prop}
variable {pc : Nat} {ls : Array Slot} {rest st0 : List Value} {D : va_G} {cl : List vw_C} {A0 : Nat → Prop} {ws : va_W} {H0 : Heap} {a : Array Value}
/-- behind a call that changes nothing -/
theorem kCall {v : Int32} (hr : va_Run p l e R s m args below meth c H locs cells slots 0 0 (F0 m pc ls st0) rest (kR v a) (fun _ => False)) (hP : va_P D cl ws H) (hS : va_S A0 H0 H locs)
    (kk : ∀ (H1 : Heap) (locs1 : List Loc), va_P D cl ws H1 → va_S A0 H0 H1 locs1 → W p l e R s m args below meth c H1 locs1 cells slots Q (F0 m (pc + 3) ls (.int v :: rest))) : W p l e R s m args below meth c H locs cells slots Q (F0 m pc ls st0) :=
  va_calli (A1 := fun _ => False) hr hS (fun _ _ h => h.elim) (fun _ h => h.elim) (fun r u t H1 locs1 _ _ hp _ _ hk hS1 => by subst hp; exact kk H1 locs1 (kP_kept hP hk) hS1)
theorem kRen {x y : Int32} (h : x = y) (kk : W p l e R s m args below meth c H locs cells slots Q (F0 m pc ls (.int y :: rest))) : W p l e R s m args below meth c H locs cells slots Q (F0 m pc ls (.int x :: rest)) := h ▸ kk
end KCALL
/-- a value that gets a name -/
def bd {α β : Type} (x : α) (f : α → β) : β := f x
theorem bd_to {α β : Type} {x y : α} {f : α → β} {z : β} (h : bd x f = z) (e : y = x) : f y = z := by subst e; exact h
theorem if_to {c : Prop} [Decidable c] {α : Type} {a b z : α} (h : (if c then a else b) = z) (hc : c) : a = z := (if_pos hc).symm.trans h
theorem if_no {c : Prop} [Decidable c] {α : Type} {a b z : α} (h : (if c then a else b) = z) (hc : ¬ c) : b = z := (if_neg hc).symm.trans h
theorem kIn {k : Int32} {n : Nat} {N : Int32} (hN : N.toInt = n) (h0 : ¬ k < 0) (h1 : ¬ N ≤ k) : vp_in k n := by
  rw [vp_in_iff]
  have a0 : ¬ k.toInt < (0 : Int32).toInt := fun q => h0 (Int32.lt_iff_toInt_lt.mpr q)
  have a1 : ¬ N.toInt ≤ k.toInt := fun q => h1 (Int32.le_iff_toInt_le.mpr q)
  have z0 : (0 : Int32).toInt = 0 := by decide
  omega
theorem kIn2 {k : Int32} {n : Nat} {N : Int32} (hN : N.toInt = n) (h0 : 0 ≤ k) (h1 : k < N) : vp_in k n := by
  rw [vp_in_iff]
  have a0 : (0 : Int32).toInt ≤ k.toInt := Int32.le_iff_toInt_le.mp h0
  have a1 : k.toInt < N.toInt := Int32.lt_iff_toInt_lt.mp h1
  have z0 : (0 : Int32).toInt = 0 := by decide
  omega
theorem kTop {i N : Nat} {x : Int32} (hx : x = nI N) (h : i = N) : x ≤ nI i := by subst h; rw [hx]; exact Int32.le_refl _
theorem kLow {i N : Nat} {x : Int32} (hx : x = nI N) (h : i < N) (hN : N < 2 ^ 31) : ¬ x ≤ nI i := by rw [hx]; exact nI_ge h hN
theorem kTopG {i N : Nat} {x : Int32} (hx : x = nI (N - 1)) (h : i = N) (hN : 0 < N ∧ N < 2 ^ 31) : x < nI i := by rw [hx]; exact nI_lt (by omega) (by omega)
theorem kLowG {i N : Nat} {x : Int32} (hx : x = nI (N - 1)) (h : i < N) (hN : N < 2 ^ 31) : ¬ x < nI i := by rw [hx]; exact nI_nlt (by omega) (by omega)
theorem kBool {v : Int32} (h : v = 0 ∨ v = 1) : narrow .boolean (.int v) = .int v := by rcases h with rfl | rfl <;> rfl
theorem fb_rngK (x : Int32) : -2147483648 ≤ x.toInt ∧ x.toInt < 2147483648 := by
  have h1 := Int32.le_toInt x
  have h2 := Int32.toInt_lt x
  omega
theorem kTopC {i : Nat} {x : Int32} (h : i = x.toNatClampNeg) : x ≤ nI i := by
  have hb := fb_rngK x
  have hc : x.toNatClampNeg = x.toInt.toNat := rfl
  refine Int32.le_iff_toInt_le.mpr ?_
  rw [nI_toInt (by omega)]
  omega
theorem kLowC {i : Nat} {x : Int32} (h : i < x.toNatClampNeg) : ¬ x ≤ nI i := fun q => by
  have hb := fb_rngK x
  have hc : x.toNatClampNeg = x.toInt.toNat := rfl
  have h1 := Int32.le_iff_toInt_le.mp q
  rw [nI_toInt (by omega)] at h1
  omega
theorem kNe {K : Nat} (h : ¬ nI K = 0) : K ≠ 0 := fun e => h (by rw [e]; rfl)
/-! contracts that write in their own world -/
theorem kD_fst {A : Nat → Prop} {ws ws' : va_W} (h : va_D A ws) (e : ws'.map Prod.fst = ws.map Prod.fst) : va_D A ws' := by
  have at' : ∀ (k : Nat) (q : Nat × va_E), ws'[k]? = some q → ∃ q2, ws[k]? = some q2 ∧ q2.1 = q.1 := by
    intro k q hq
    have h1 : (ws'.map Prod.fst)[k]? = some q.1 := by rw [List.getElem?_map, hq]; rfl
    rw [e, List.getElem?_map] at h1
    cases h2 : ws[k]? with
    | none => rw [h2] at h1; cases h1
    | some q2 => rw [h2] at h1; exact ⟨q2, rfl, Option.some.inj h1⟩
  refine ⟨fun i j p q hp hq hpq => ?_, fun k q hq => ?_⟩
  · obtain ⟨p2, a1, a2⟩ := at' i p hp
    obtain ⟨q2, b1, b2⟩ := at' j q hq
    exact h.1 i j p2 q2 a1 b1 (by rw [a2, b2]; exact hpq)
  · obtain ⟨q2, b1, b2⟩ := at' k q hq
    rw [← b2]
    exact h.2 k q2 b1
/-- the start of a method that writes in its world -/
def kU (dC : Nat → ClassId) (dI : Nat → Nat → Nat) (cI cN : ClassId) (ws : va_W) (sz : Nat) (U : State) : Prop := U.heap.size = sz ∧ kW dC dI cI cN ws U
theorem kU_blind {dC : Nat → ClassId} {dI : Nat → Nat → Nat} {cI cN : ClassId} {ws : va_W} {sz : Nat} {As : List Value} : FrameBlind (va_Pc As (kU dC dI cI cN ws sz)) :=
  fun a U g mk q => ⟨q.1, q.2.1, (kW_blind (As := As) a U g mk ⟨q.1, q.2.2⟩).2⟩
theorem kU_S {dC : Nat → ClassId} {dI : Nat → Nat → Nat} {cI cN : ClassId} {W wc : va_W} {A : Nat → Prop} {H : Heap} {s : State} {As : List Value} (hP : va_P (dC, dI) kCl W H) (hK : va_K (dC, dI) kCl (kT cI cN) s) (hD : va_D A W) (hN : kN s)
    (is : List Nat) (h0 : va_nd is = true) (h1 : is.filterMap (fun i => W[i]?) = wc) (h2 : is.map (fun i => W[i]?) = wc.map some) : PreS s H (va_Pc As (kU dC dI cI cN wc H.size)) As :=
  ⟨kU_blind, fun U hU hW => ⟨rfl, by rw [hU], ((kW_S (As := As) hP hK hD hN is h0 h1 h2).2 U hU hW).2⟩⟩
theorem kU_V {dC : Nat → ClassId} {dI : Nat → Nat → Nat} {cI cN : ClassId} {W wc : va_W} {A : Nat → Prop} {H : Heap} {s : State} {b q0 ci : Nat} {q : vw_C} {fs : List Value} {As : List Value} (hP : va_P (dC, dI) kCl W H) (hK : va_K (dC, dI) kCl (kT cI cN) s) (hD : va_D A W) (hN : kN s)
    (hc : kCl[ci]? = some q) (he : W[q0]? = some (b, .inr (ci, fs))) (is : List Nat) (h0 : va_nd is = true) (h1 : is.filterMap (fun i => W[i]?) = wc) (h2 : is.map (fun i => W[i]?) = wc.map some) : PreV s H q.1 b (va_Pc (.ref b :: As) (kU dC dI cI cN wc H.size)) As :=
  ⟨kU_blind, va_recv hK hP hc he, fun U hU hW => ⟨rfl, by rw [hU], ((kW_V (As := As) hP hK hD hN hc he is h0 h1 h2).2.2 U hU hW).2⟩⟩
/-- its end: nothing, or an int, and its world as it is then -/
def kV (dC : Nat → ClassId) (dI : Nat → Nat → Nat) (ws' : va_W) (A : Nat → Prop) : Array Value → State → Outcome → State → Prop := va_Qv (fun (_ : Unit) => True) (fun _ t => va_P (dC, dI) kCl ws' t.heap) A
def kVi (dC : Nat → ClassId) (dI : Nat → Nat → Nat) (v : Int32) (ws' : va_W) (A : Nat → Prop) : Array Value → State → Outcome → State → Prop := va_Qi (fun (r : Int32) (_ : Unit) => r = v) (fun _ t => va_P (dC, dI) kCl ws' t.heap) A
theorem kV_end {dC : Nat → ClassId} {dI : Nat → Nat → Nat} {ws' : va_W} {A : Nat → Prop} {a : Array Value} {s t : State} {H : Heap} {locs : List Loc} (hP : va_P (dC, dI) kCl ws' H) (hS : va_S A s.heap H locs) (ht : t.heap = H) : kV dC dI ws' A a s (.returned none) t := ⟨⟨(), rfl, trivial, by subst ht; exact hP⟩, hS.F ht⟩
theorem kVi_end {dC : Nat → ClassId} {dI : Nat → Nat → Nat} {v r : Int32} {ws' : va_W} {A : Nat → Prop} {a : Array Value} {s t : State} {H : Heap} {locs : List Loc} (h : r = v) (hP : va_P (dC, dI) kCl ws' H) (hS : va_S A s.heap H locs) (ht : t.heap = H) : kVi dC dI v ws' A a s (.returned (some (.int r))) t := ⟨⟨r, (), rfl, h, by subst ht; exact hP⟩, hS.F ht⟩
section KCALLV
variable {p : Program} {l : Launch} {e : Env} {R : Room} {s : State} {m : MethodId} {args : Array Value} {below : List Frame} {meth : Method} {c : Code} {H : Heap} {locs : List Loc} {cells slots : Nat} {Q : State → Prop}
variable {pc : Nat} {ls : Array Slot} {rest st0 : List Value} {dC : Nat → ClassId} {dI : Nat → Nat → Nat} {A0 : Nat → Prop} {Z wc wr ws' : va_W} {H0 : Heap} {a : Array Value}
theorem kCallV (hr : va_Run p l e R s m args below meth c H locs cells slots 0 0 (F0 m pc ls st0) rest (kV dC dI ws' (va_A wc H.size) a) (va_A wc H.size)) (hP : va_P (dC, dI) kCl Z H) (hD : va_D A0 Z) (hS : va_S A0 H0 H locs) (hA : ∀ q : Nat, H0.size ≤ q → A0 q)
    (isC isR : List Nat) (hC : isC.map (fun i => Z[i]?) = wc.map some) (hn0 : va_nd isC = true) (hR : isR.map (fun i => Z[i]?) = wr.map some) (hn : va_nd isR = true) (hdis : ∀ i ∈ isR, i ∉ isC) (hf : ws'.map Prod.fst = wc.map Prod.fst)
    (kk : ∀ (H1 : Heap) (locs1 : List Loc), va_P (dC, dI) kCl (wr ++ ws') H1 → va_D A0 (wr ++ ws') → va_S A0 H0 H1 locs1 → W p l e R s m args below meth c H1 locs1 cells slots Q (F0 m (pc + 3) ls rest)) : W p l e R s m args below meth c H locs cells slots Q (F0 m pc ls st0) := by
  have hFc := va_free hD hS hA isC hC
  refine va_callv hr hS (fun q _ h => hFc q h) hFc (fun u t H1 locs1 ht _ _ hB _ hk hS1 => ?_)
  rw [ht] at hB
  obtain ⟨h1, h2⟩ := va_join hP hD isC isR hC hR hn hdis hk hFc hB (kD_fst ((hD.sub isC hn0 hC).self (sz := H.size)) hf)
  exact kk H1 locs1 h1 h2 hS1
theorem kCallVi {v : Int32} (hr : va_Run p l e R s m args below meth c H locs cells slots 0 0 (F0 m pc ls st0) rest (kVi dC dI v ws' (va_A wc H.size) a) (va_A wc H.size)) (hP : va_P (dC, dI) kCl Z H) (hD : va_D A0 Z) (hS : va_S A0 H0 H locs) (hA : ∀ q : Nat, H0.size ≤ q → A0 q)
    (isC isR : List Nat) (hC : isC.map (fun i => Z[i]?) = wc.map some) (hn0 : va_nd isC = true) (hR : isR.map (fun i => Z[i]?) = wr.map some) (hn : va_nd isR = true) (hdis : ∀ i ∈ isR, i ∉ isC) (hf : ws'.map Prod.fst = wc.map Prod.fst)
    (kk : ∀ (H1 : Heap) (locs1 : List Loc), va_P (dC, dI) kCl (wr ++ ws') H1 → va_D A0 (wr ++ ws') → va_S A0 H0 H1 locs1 → W p l e R s m args below meth c H1 locs1 cells slots Q (F0 m (pc + 3) ls (.int v :: rest))) : W p l e R s m args below meth c H locs cells slots Q (F0 m pc ls st0) := by
  have hFc := va_free hD hS hA isC hC
  refine va_calli hr hS (fun q _ h => hFc q h) hFc (fun r u t H1 locs1 ht _ hp hB _ hk hS1 => ?_)
  subst hp
  rw [ht] at hB
  obtain ⟨h1, h2⟩ := va_join hP hD isC isR hC hR hn hdis hk hFc hB (kD_fst ((hD.sub isC hn0 hC).self (sz := H.size)) hf)
  exact kk H1 locs1 h1 h2 hS1
end KCALLV
theorem kNlt {x : Int32} (h : ¬ x < 0) : 0 ≤ x := Int32.not_lt.mp h
theorem kDn0 {x Q : Int32} (h : (x.toInt + 1 - Q.toInt).toNat = 0) : x < Q := Int32.lt_iff_toInt_lt.mpr (by omega)
theorem kDnS {x Q : Int32} {n : Nat} (h : (x.toInt + 1 - Q.toInt).toNat = n + 1) : ¬ x < Q := fun q => by
  have := Int32.lt_iff_toInt_lt.mp q
  omega
theorem kDnN {x Q : Int32} {n : Nat} (h : (x.toInt + 1 - Q.toInt).toNat = n + 1) (hQ : 0 ≤ Q) : ((x + (-1)).toInt + 1 - Q.toInt).toNat = n := by
  have h0 : (0 : Int32).toInt ≤ Q.toInt := Int32.le_iff_toInt_le.mp hQ
  have z0 : (0 : Int32).toInt = 0 := by decide
  have hb := fb_rngK x
  have h1 : (x + (-1)).toInt = x.toInt - 1 := by
    rw [Int32.toInt_add, show (-1 : Int32).toInt = -1 from by decide, show x.toInt + -1 = x.toInt - 1 from rfl]
    exact Int.bmod_eq_of_le (by omega) (by omega)
  rw [h1]
  omega
theorem kClampLt (x : Int32) : x.toNatClampNeg < 2 ^ 31 := by
  have hb := fb_rngK x
  have hc : x.toNatClampNeg = x.toInt.toNat := rfl
  omega
theorem kInN {i n : Nat} {N : Int32} (hN : N = nI n) (h : ¬ N ≤ nI i) (hi : i < 2 ^ 31) (hn : n < 2 ^ 31) : i < n := by
  rcases Nat.lt_or_ge i n with q | q
  · exact q
  · exact absurd (by rw [hN]; exact nI_le q hi) h
theorem kDepth0 {d : Nat} (h : d = 16) : ¬ nI d < 16 := by subst h; decide
theorem kDepthS {d : Nat} (h : d < 16) : nI d < 16 := nI_lt (a := d) (b := 16) h (by omega)
theorem kUp0 {x N : Int32} (h : (N.toInt - x.toInt).toNat = 0) : N ≤ x := Int32.le_iff_toInt_le.mpr (by omega)
theorem kUpS {x N : Int32} {n : Nat} (h : (N.toInt - x.toInt).toNat = n + 1) : ¬ N ≤ x := fun q => by
  have := Int32.le_iff_toInt_le.mp q
  omega
theorem kUpN {x N : Int32} {n : Nat} (h : (N.toInt - x.toInt).toNat = n + 1) : (N.toInt - (x + 1).toInt).toNat = n := by
  have hb := fb_rngK x
  have hc := fb_rngK N
  have h1 : (x + 1).toInt = x.toInt + 1 := by
    rw [Int32.toInt_add, show (1 : Int32).toInt = 1 from by decide]
    exact Int.bmod_eq_of_le (by omega) (by omega)
  rw [h1]
  omega
theorem kWalk0 {most : Int32} {c : Nat} (h : ¬ most ≤ nI c) (hc : c = 8) : ¬ most < 8 := fun q => by
  subst hc
  have h1 : ¬ most.toInt ≤ (nI 8).toInt := fun z => h (Int32.le_iff_toInt_le.mpr z)
  have h2 := Int32.lt_iff_toInt_lt.mp q
  rw [nI_toInt (by omega)] at h1
  rw [show (8 : Int32).toInt = 8 from by decide] at h2
  omega
theorem kWalkIn {most : Int32} {c : Nat} (h : ¬ most ≤ nI c) (h2 : most < 8) (hc : c < 2 ^ 31) : c + 1 < 8 := by
  have h1 : ¬ most.toInt ≤ (nI c).toInt := fun z => h (Int32.le_iff_toInt_le.mpr z)
  have h3 := Int32.lt_iff_toInt_lt.mp h2
  rw [nI_toInt hc] at h1
  rw [show (8 : Int32).toInt = 8 from by decide] at h3
  omega
theorem kNz {x : Int32} (h : ¬ x < 1) : ¬ x = 0 := fun e => h (by rw [e]; decide)
