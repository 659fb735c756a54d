/-! the class's own exceptions: what a throw takes as given (printed by wip/gen/pre2.py) -/
def kCls : Nat → String
  | 1 => "java/lang/IllegalArgumentException"
  | 2 => "java/lang/IndexOutOfBoundsException"
  | _ => "java/lang/IllegalStateException"
def sb {α β : Type} (x : α ⊕ Nat) (f : α → β ⊕ Nat) : β ⊕ Nat := match x with
  | .inl v => f v
  | .inr k => .inr k
theorem sb_l {α β : Type} {x : α ⊕ Nat} {f : α → β ⊕ Nat} {z : β ⊕ Nat} {v : α} (h : sb x f = z) (e : x = .inl v) : f v = z := by subst e; exact h
theorem sb_r {α β : Type} {x : α ⊕ Nat} {f : α → β ⊕ Nat} {z : β ⊕ Nat} {k : Nat} (h : sb x f = z) (e : x = .inr k) : .inr k = z := by subst e; exact h
def kSL : List (Nat × String) := [(68, "knots is not 3 to 16"), (93, "no such knot"), (96, "both are the same"), (108, "a count would be above 5"), (121, "jumps is no set of 1 to knots / 2"), (137, "marks is no set of edges"), (139, "no knots, or more than 8"), (156, "no such edge"), (168, "length is not 4 to 8"), (170, "seed is not 0 to 9999"), (172, "rounds is not 1 to 20"), (174, "fewer than two edges"), (183, "no knots"), (191, "steps is not 1 to 400"), (197, "no aim"), (215, "what is not 0 to 7"), (233, "what is not 0 to 10"), (253, "what is not 0 to 5"), (275, "what is not 0 to 3"), (290, "length is not 3 to 7"), (309, "no knots, or 5 are kept"), (315, "none is kept there"), (382, "count is not 2 to 5"), (384, "length is not 3 to 8")]
def kNs : List String := ["java/lang/RuntimeException", "java/lang/Exception"]
abbrev kDe : List Cond := [.declares (Bundle.initS "java/lang/RuntimeException"), .declares (Bundle.initS "java/lang/Exception"), .declares (Bundle.initS Bundle.tN)]
def kE (A : Nat → Prop) (U : State) (H : Heap) : Prop := (∀ k : Nat, va_Nw (.castable (kCls k) (kCls k)) U) ∧ (va_Nw (.declares (Bundle.initS "java/lang/RuntimeException")) U ∧ va_Nw (.declares (Bundle.initS "java/lang/Exception")) U ∧ va_Nw (.declares (Bundle.initS Bundle.tN)) U) ∧ (∀ (i : Nat) (q : Nat × String), kSL[i]? = some q → ∃ sa : Nat, vk_R RX6 q.1 q.2 sa U) ∧ vx_Zq Bundle.tN "UNASSIGNED_STACK" Bundle.steD A U H ∧ vx_Zq Bundle.tN "SUPPRESSED_SENTINEL" Bundle.listD A U H
theorem kE_kept {A : Nat → Prop} {U : State} {H H1 : Heap} (h : kE A U H) (hq : ∀ a : Nat, a < H.size → ¬ A a → H1[a]? = H[a]?) : kE A U H1 := ⟨h.1, h.2.1, h.2.2.1, h.2.2.2.1.kept hq, h.2.2.2.2.kept hq⟩
theorem kE_narrow {A B : Nat → Prop} {U : State} {H : Heap} (h : kE A U H) (hAB : ∀ q, B q → A q) : kE B U H := ⟨h.1, h.2.1, h.2.2.1, h.2.2.2.1.narrow hAB, h.2.2.2.2.narrow hAB⟩
theorem kE_warm {A : Nat → Prop} {s U : State} {H : Heap} (hW : s.WarmedH U.vm) (h : kE A s H) : kE A U H := ⟨fun k => va_Nw.warmC hW (h.1 k), ⟨va_Nw.warmD hW h.2.1.1, va_Nw.warmD hW h.2.1.2.1, va_Nw.warmD hW h.2.1.2.2⟩, fun i q e => (h.2.2.1 i q e).elim fun sa z => ⟨sa, z.warm hW⟩, h.2.2.2.1.moved hW.alike, h.2.2.2.2.moved hW.alike⟩
theorem kE_same {A : Nat → Prop} {u U : State} {H : Heap} (e : u.vm = U.vm) (h : kE A u H) : kE A U H := ⟨fun k => va_Nw.same rfl e (h.1 k), ⟨va_Nw.same rfl e h.2.1.1, va_Nw.same rfl e h.2.1.2.1, va_Nw.same rfl e h.2.1.2.2⟩, fun i q e1 => (h.2.2.1 i q e1).elim fun sa z => ⟨sa, z.same e.symm⟩, h.2.2.2.1.moved (by rw [e]; exact Vm.Alike.refl _), h.2.2.2.2.moved (by rw [e]; exact Vm.Alike.refl _)⟩
theorem kE_hat {A : Nat → Prop} {args : Array Value} {s : State} {H : Heap} (h : kE A s H) {ic : Nat} (k : Nat) (h1 : ∀ w ∈ (vx_atS RX6 ic (kCls k) kNs).filter goodWord, w.before args s = true) (h2 : ∀ w ∈ (vx_atS RX6 ic (kCls k) kNs).filter (fun w => !goodWord w), w ∈ Cond.castable (kCls k) (kCls k) :: kDe) : ∀ w ∈ vx_atS RX6 ic (kCls k) kNs, w.before args s = true :=
  vx_hat h1 h2 (vx_c (va_Nw.use rfl (h.1 k)) (vx_c (va_Nw.use rfl h.2.1.1) (vx_c (va_Nw.use rfl h.2.1.2.1) (vx_c (va_Nw.use rfl h.2.1.2.2) vx_n))))
/-- the start of a method that may throw: nothing is written, what a throw wants is there -/
def kWE (dC : Nat → ClassId) (dI : Nat → Nat → Nat) (cI cN : ClassId) (ws : va_W) (U : State) : Prop := kW dC dI cI cN ws U ∧ kE (fun _ => False) U U.heap
theorem kWE_blind {dC : Nat → ClassId} {dI : Nat → Nat → Nat} {cI cN : ClassId} {ws : va_W} {As : List Value} : FrameBlind (va_Pc As (kWE dC dI cI cN ws)) :=
  fun a U g mk q => ⟨q.1, (kW_blind (As := As) a U g mk ⟨q.1, q.2.1⟩).2, kE_same (u := U) rfl q.2.2⟩
theorem kWE_V {dC : Nat → ClassId} {dI : Nat → Nat → Nat} {cI cN : ClassId} {W wc : va_W} {A A1 : Nat → Prop} {H : Heap} {s : State} {b q0 ci : Nat} {q : vw_C} {fs : List Value} {As : List Value} (hP : va_P (dC, dI) kCl W H) (hK : va_K (dC, dI) kCl (kT cI cN) s) (hD : va_D A W) (hN : kN s) (hE : kE A1 s H)
    (hc : kCl[ci]? = some q) (he : W[q0]? = some (b, .inr (ci, fs))) (is : List Nat) (h0 : va_nd is = true) (h1 : is.filterMap (fun i => W[i]?) = wc) (h2 : is.map (fun i => W[i]?) = wc.map some) : PreV s H q.1 b (va_Pc (.ref b :: As) (kWE dC dI cI cN wc)) As :=
  ⟨kWE_blind, va_recv hK hP hc he, fun U hU hW => ⟨rfl, ((kW_V (As := As) hP hK hD hN hc he is h0 h1 h2).2.2 U hU hW).2, by rw [hU]; exact kE_warm hW (kE_narrow hE (fun _ h => h.elim))⟩⟩
/-- it throws an exception of class k, and nothing that was there has changed -/
def kX (k : Nat) : String → State → State → Prop := vx_X (fun (_ : Unit) => True) (fun E _ _ => E = kCls k) (fun _ => False)
def kNoi : Array Value → State → Outcome → State → Prop := va_Qi (fun _ (_ : Unit) => False) (fun _ _ => True) (fun _ => False)
def kNov : Array Value → State → Outcome → State → Prop := va_Qv (fun (_ : Unit) => False) (fun _ _ => True) (fun _ => False)
theorem kX_of {k k1 : Nat} {s t : State} {H : Heap} {locs : List Loc} (e : k = k1) (hS : va_S (fun _ => False) s.heap H locs) (h1 : H.size ≤ t.heap.size) (h2 : ∀ q : Nat, q < H.size → t.heap[q]? = H[q]?) : kX k1 (kCls k) s t :=
  ⟨(), trivial, by rw [e], Nat.le_trans hS.1 h1, fun q hq hn => (h2 q (Nat.lt_of_lt_of_le hq hS.1)).trans (hS.2.1 q hq hn)⟩
section KTHROW
variable {p : Program} {l : Launch} {e : Env} {R : Room} {s : State} {m : MethodId} {args : Array Value} {below : List Frame} {meth : Method} {c : Code} {H : Heap} {locs : List Loc}
variable {pc : Nat} {ls : Array Slot} {rest : List Value} {cc : ByteArray} {Qc : Array Value → State → Outcome → State → Prop}
theorem kThrowS {k1 : Nat} (hexec : p.tables.exec = Jvm.exec) (hb : c.code = cc) (hl : l.stackTraces = false) (hown : s.vm.findClass RX6 = some m.cls) (k : Nat) {ik is ic : Nat} {text : String} (he : k = k1) (hfit : Bundle.fit (kCls k) = true)
    (hk : (Cond.classLink RX6 ik (kCls k)).before args s = true) (hini : (Cond.initialized (kCls k)).before args s = true) (i : Nat) (hi : kSL[i]? = some (is, text))
    (h1 : ∀ w ∈ (vx_atS RX6 ic (kCls k) kNs).filter goodWord, w.before args s = true) (h2 : ∀ w ∈ (vx_atS RX6 ic (kCls k) kNs).filter (fun w => !goodWord w), w ∈ Cond.castable (kCls k) (kCls k) :: kDe)
    (hg : ∀ w ∈ Cond.classLink RX6 ik (kCls k) :: Cond.initialized (kCls k) :: vx_atS RX6 ic (kCls k) kNs, vx_ot w = true)
    (hE : kE (fun _ => False) s s.heap) (hS : va_S (fun _ => False) s.heap H locs) (hsize : ls.size = c.maxLocals)
    (d0 : decode cc pc = .ok (.new ik, 3)) (d3 : decode cc (pc + 3) = .ok (.dup, 1)) (d4 : decode cc (pc + 4) = .ok (.ldc is, 2)) (d6 : decode cc (pc + 6) = .ok (.invokespecial ic, 3)) (d9 : decode cc (pc + 9) = .ok (.athrow, 1))
    (hout : ∀ x ∈ c.exceptionTable.toList, False) (hRf : 5 < R.frames) (hRl : (rest.map fun v => v.category).sum + 82 ≤ R.locals) (hRc : 1 ≤ R.cells) (hRs : 6 ≤ R.slots) (hlocks : meth.locks = false) :
    W p l e R s m args below meth c H locs 0 0 (vx_MQ below Qc (kX k1) args s 1 6 (fun _ => False)) (F0 m pc ls rest) := by
  obtain ⟨sa, hstr⟩ := hE.2.2.1 i _ hi
  exact vx_throwS (A := fun _ => False) hexec hb hl hown hfit (by decide) hk hini hstr (kE_hat hE k h1 h2) hg hE.2.2.2.1 hE.2.2.2.2 hS hsize d0 d3 d4 d6 d9 (fun x hx => (hout x hx).elim) hRf (by show _ + (13 * 3 + 43) ≤ _; omega) (by omega) (by omega) hlocks
    (fun t _ h3 h4 => kX_of he hS h3 h4) (fun z hz => hS.2.2 z hz) (Nat.le_refl 1) (Nat.le_refl 6)
theorem kThrowSW {k1 : Nat} (hexec : p.tables.exec = Jvm.exec) (hb : c.code = cc) (hl : l.stackTraces = false) (hown : s.vm.findClass RX6 = some m.cls) (k : Nat) {ik is ic : Nat} {text : String} (he : k = k1) (hfit : Bundle.fit (kCls k) = true)
    (hk : (Cond.classLink RX6 ik (kCls k)).before args s = true) (hini : (Cond.initialized (kCls k)).before args s = true) (i : Nat) (hi : kSL[i]? = some (is, text))
    (h1 : ∀ w ∈ (vx_atS RX6 ic (kCls k) kNs).filter goodWord, w.before args s = true) (h2 : ∀ w ∈ (vx_atS RX6 ic (kCls k) kNs).filter (fun w => !goodWord w), w ∈ Cond.castable (kCls k) (kCls k) :: kDe)
    (hg : ∀ w ∈ Cond.classLink RX6 ik (kCls k) :: Cond.initialized (kCls k) :: vx_atS RX6 ic (kCls k) kNs, vx_ot w = true)
    (hE : kE (fun _ => False) s s.heap) (hS : va_S (fun _ => False) s.heap H locs) (hsize : ls.size = c.maxLocals)
    (d0 : decode cc pc = .ok (.new ik, 3)) (d3 : decode cc (pc + 3) = .ok (.dup, 1)) (d4 : decode cc (pc + 4) = .ok (.ldc_w is, 3)) (d7 : decode cc (pc + 7) = .ok (.invokespecial ic, 3)) (d10 : decode cc (pc + 10) = .ok (.athrow, 1))
    (hout : ∀ x ∈ c.exceptionTable.toList, False) (hRf : 5 < R.frames) (hRl : (rest.map fun v => v.category).sum + 82 ≤ R.locals) (hRc : 1 ≤ R.cells) (hRs : 6 ≤ R.slots) (hlocks : meth.locks = false) :
    W p l e R s m args below meth c H locs 0 0 (vx_MQ below Qc (kX k1) args s 1 6 (fun _ => False)) (F0 m pc ls rest) := by
  obtain ⟨sa, hstr⟩ := hE.2.2.1 i _ hi
  exact vx_throwSW (A := fun _ => False) hexec hb hl hown hfit (by decide) hk hini hstr (kE_hat hE k h1 h2) hg hE.2.2.2.1 hE.2.2.2.2 hS hsize d0 d3 d4 d7 d10 (fun x hx => (hout x hx).elim) hRf (by show _ + (13 * 3 + 43) ≤ _; omega) (by omega) (by omega) hlocks
    (fun t _ h3 h4 => kX_of he hS h3 h4) (fun z hz => hS.2.2 z hz) (Nat.le_refl 1) (Nat.le_refl 6)
end KTHROW
theorem kBad1 : ∀ w ∈ (vx_atS RX6 70 (kCls 1) kNs).filter (fun w => !goodWord w), w ∈ Cond.castable (kCls 1) (kCls 1) :: kDe := by decide +kernel
theorem kOt1 : ∀ w ∈ vx_atS RX6 70 (kCls 1) kNs, vx_ot w = true := by decide +kernel
theorem kBad2 : ∀ w ∈ (vx_atS RX6 95 (kCls 2) kNs).filter (fun w => !goodWord w), w ∈ Cond.castable (kCls 2) (kCls 2) :: kDe := by decide +kernel
theorem kOt2 : ∀ w ∈ vx_atS RX6 95 (kCls 2) kNs, vx_ot w = true := by decide +kernel
theorem kBad3 : ∀ w ∈ (vx_atS RX6 110 (kCls 3) kNs).filter (fun w => !goodWord w), w ∈ Cond.castable (kCls 3) (kCls 3) :: kDe := by decide +kernel
theorem kOt3 : ∀ w ∈ vx_atS RX6 110 (kCls 3) kNs, vx_ot w = true := by decide +kernel
section KXCALL
variable {p : Program} {l : Launch} {e : Env} {R : Room} {s : State} {m : MethodId} {args : Array Value} {below : List Frame} {meth : Method} {c : Code} {H : Heap} {locs : List Loc}
variable {pc : Nat} {ls : Array Slot} {rest st0 : List Value} {Qc : Array Value → State → Outcome → State → Prop} {a : Array Value}
/-- a callee's exception isn't caught here: it leaves -/
theorem kXcallv {k1 kx : Nat} (he : k1 = kx) (hxt : ∀ x ∈ c.exceptionTable.toList, False) (hlocks : meth.locks = false) (hr : vx_Run p l e R s m args below meth c H locs 0 0 1 6 (F0 m pc ls st0) rest (kNov a) (kX k1) (fun _ => False)) (hS : va_S (fun _ => False) s.heap H locs) :
    W p l e R s m args below meth c H locs 0 0 (vx_MQ below Qc (kX kx) args s 1 6 (fun _ => False)) (F0 m pc ls st0) :=
  vx_callv hr hS (fun _ _ h => h.elim) (fun _ h => h.elim) (fun _ _ h => h.elim)
    (fun _ _ _ _ _ _ _ _ _ _ hE9 _ _ hS1 hc1 hc2 hc3 => vx_out (fun x hx => (hxt x hx).elim) hlocks hc1 hc2 hc3 (fun _ ht _ => ⟨(), trivial, hE9.trans (congrArg kCls he), hS1.F ht⟩) (fun z hz => hS1.2.2 z hz) (Nat.le_refl _) (Nat.le_refl _))
    (fun _ _ _ _ _ _ hp => hp.elim)
theorem kXcalli {k1 kx : Nat} (he : k1 = kx) (hxt : ∀ x ∈ c.exceptionTable.toList, False) (hlocks : meth.locks = false) (hr : vx_Run p l e R s m args below meth c H locs 0 0 1 6 (F0 m pc ls st0) rest (kNoi a) (kX k1) (fun _ => False)) (hS : va_S (fun _ => False) s.heap H locs) :
    W p l e R s m args below meth c H locs 0 0 (vx_MQ below Qc (kX kx) args s 1 6 (fun _ => False)) (F0 m pc ls st0) :=
  vx_calli hr hS (fun _ _ h => h.elim) (fun _ h => h.elim) (fun _ _ h => h.elim)
    (fun _ _ _ _ _ _ _ _ _ _ hE9 _ _ hS1 hc1 hc2 hc3 => vx_out (fun x hx => (hxt x hx).elim) hlocks hc1 hc2 hc3 (fun _ ht _ => ⟨(), trivial, hE9.trans (congrArg kCls he), hS1.F ht⟩) (fun z hz => hS1.2.2 z hz) (Nat.le_refl _) (Nat.le_refl _))
    (fun _ _ _ _ _ _ _ hp => hp.elim)
end KXCALL
theorem kNoway {α : Type} {x : α ⊕ Nat} {k : Nat} {P : Prop} (h : x = .inr k) (h2 : ∃ v : α, x = .inl v) : P := by
  obtain ⟨v, e⟩ := h2
  rw [e] at h
  cases h
theorem kHg {L : List Cond} {a b : Cond} (h : ∀ w ∈ L, vx_ot w = true) (ha : vx_ot a = true := by rfl) (hb : vx_ot b = true := by rfl) : ∀ w ∈ a :: b :: L, vx_ot w = true := fun w hw => by
  rcases List.mem_cons.mp hw with rfl | hw
  · exact ha
  · rcases List.mem_cons.mp hw with rfl | hw
    · exact hb
    · exact h w hw
def kR0 : Array Value → State → Outcome → State → Prop := va_Qv (fun (_ : Unit) => True) (fun _ _ => True) (fun _ => False)
theorem kR0_end {a : Array Value} {s t : State} {H : Heap} {locs : List Loc} (hS : va_S (fun _ => False) s.heap H locs) (ht : t.heap = H) : kR0 a s (.returned none) t := ⟨⟨(), rfl, trivial, trivial⟩, hS.F ht⟩
theorem kCall0 {p : Program} {l : Launch} {e : Env} {R : Room} {s : State} {m : MethodId} {args : Array Value} {below : List Frame} {meth : Method} {c : Code} {H : Heap} {locs : List Loc} {cells slots : Nat} {Q : State → Prop} {pc : Nat} {ls : Array Slot} {rest st0 : List Value} {D : va_G} {cl : List vw_C} {A0 : Nat → Prop} {ws : va_W} {H0 : Heap} {a : Array Value}
    (hr : va_Run p l e R s m args below meth c H locs cells slots 0 0 (F0 m pc ls st0) rest (kR0 a) (fun _ => False)) (hP : va_P D cl ws H) (hS : va_S A0 H0 H locs)
    (kk : ∀ (H1 : Heap) (locs1 : List Loc), va_P D cl ws H1 → va_S A0 H0 H1 locs1 → W p l e R s m args below meth c H1 locs1 cells slots Q (F0 m (pc + 3) ls rest)) : W p l e R s m args below meth c H locs cells slots Q (F0 m pc ls st0) :=
  va_callv (A1 := fun _ => False) hr hS (fun _ _ h => h.elim) (fun _ h => h.elim) (fun u t H1 locs1 _ _ hp _ _ hk hS1 => kk H1 locs1 (kP_kept hP hk) hS1)
theorem kWithin {M lo hi : Nat} (hM : M < 2 ^ 32) (hhi : hi < 2 ^ 31) (hlo : lo < 2 ^ 31) (h : ¬ P_isWithin (nI M) (nI lo) (nI hi) = 0) : lo ≤ M ∧ M ≤ hi := by
  unfold P_isWithin at h
  split at h
  · exact absurd rfl h
  · split at h
    · exact absurd rfl h
    · have a1 : (nI lo).toInt ≤ (nI M).toInt := Int32.le_iff_toInt_le.mp (Int32.not_lt.mp (by assumption))
      have a2 : (nI M).toInt ≤ (nI hi).toInt := Int32.le_iff_toInt_le.mp (Int32.not_lt.mp (by assumption))
      rw [nI_toInt hlo] at a1
      rw [nI_toInt hhi] at a2
      rcases Nat.lt_or_ge M (2 ^ 31) with q | q
      · rw [nI_toInt q] at a1 a2
        omega
      · exfalso
        have e : (nI M).toInt = (M : Int) - 2 ^ 32 := by
          show (BitVec.ofNat 32 M).toInt = _
          rw [BitVec.toInt_eq_toNat_cond, BitVec.toNat_ofNat]
          split <;> omega
        omega
theorem P_isNear_bv {x : Int32} {f : Nat → Int32} {one other : Int32} (e : x = P_isNear f one other) : x = 0 ∨ x = 1 := by rw [e]; exact P_holds_b _ _
