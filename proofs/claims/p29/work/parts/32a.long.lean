/-! contracts that answer a long; what may throw but does not (printed by wip/gen/pre4.py) -/
def kRl (v : Int64) : Array Value → State → Outcome → State → Prop := va_Ql (fun (r : Int64) (_ : Unit) => r = v) (fun _ _ => True) (fun _ => False)
theorem kRl_end {v r : Int64} {a : Array Value} {s t : State} {H : Heap} {locs : List Loc} (h : r = v) (hS : va_S (fun _ => False) s.heap H locs) (ht : t.heap = H) : kRl v a s (.returned (some (.long r))) t := ⟨⟨r, (), rfl, h, trivial⟩, hS.F ht⟩
def kVl (dC : Nat → ClassId) (dI : Nat → Nat → Nat) (v : Int64) (ws' : va_W) (A : Nat → Prop) : Array Value → State → Outcome → State → Prop := va_Ql (fun (r : Int64) (_ : Unit) => r = v) (fun _ t => va_P (dC, dI) kCl ws' t.heap) A
theorem kVl_end {dC : Nat → ClassId} {dI : Nat → Nat → Nat} {v r : Int64} {ws' : va_W} {A : Nat → Prop} {a : Array Value} {s t : State} {H : Heap} {locs : List Loc} (h : r = v) (hP : va_P (dC, dI) kCl ws' H) (hS : va_S A s.heap H locs) (ht : t.heap = H) : kVl dC dI v ws' A a s (.returned (some (.long r))) t := ⟨⟨r, (), rfl, h, by subst ht; exact hP⟩, hS.F ht⟩
def sbd {α β : Type} (d : β) (x : α ⊕ Nat) (f : α → β) : β := match x with
  | .inl v => f v
  | .inr _ => d
theorem sbd_l {α β : Type} {d : β} {x : α ⊕ Nat} {f : α → β} {z : β} {v : α} (h : sbd d x f = z) (e : x = .inl v) : f v = z := by subst e; exact h
section KCALLL
variable {p : Program} {l : Launch} {e : Env} {R : Room} {s : State} {m : MethodId} {args : Array Value} {below : List Frame} {meth : Method} {c : Code} {H : Heap} {locs : List Loc} {cells slots : Nat} {Q : State → Prop}
variable {pc : Nat} {ls : Array Slot} {rest st0 : List Value} {D : va_G} {cl : List vw_C} {dC : Nat → ClassId} {dI : Nat → Nat → Nat} {A0 : Nat → Prop} {ws Z wc wr ws' : va_W} {H0 : Heap} {a : Array Value}
theorem kCalll {v : Int64} (hr : va_Run p l e R s m args below meth c H locs cells slots 0 0 (F0 m pc ls st0) rest (kRl v a) (fun _ => False)) (hP : va_P D cl ws H) (hS : va_S A0 H0 H locs)
    (kk : ∀ (H1 : Heap) (locs1 : List Loc), va_P D cl ws H1 → va_S A0 H0 H1 locs1 → W p l e R s m args below meth c H1 locs1 cells slots Q (F0 m (pc + 3) ls (.long v :: rest))) : W p l e R s m args below meth c H locs cells slots Q (F0 m pc ls st0) :=
  va_calll (A1 := fun _ => False) hr hS (fun _ _ h => h.elim) (fun _ h => h.elim) (fun r u t H1 locs1 _ _ hp _ _ hk hS1 => by subst hp; exact kk H1 locs1 (kP_kept hP hk) hS1)
theorem kCallVl {v : Int64} (hr : va_Run p l e R s m args below meth c H locs cells slots 0 0 (F0 m pc ls st0) rest (kVl dC dI v ws' (va_A wc H.size) a) (va_A wc H.size)) (hP : va_P (dC, dI) kCl Z H) (hD : va_D A0 Z) (hS : va_S A0 H0 H locs) (hA : ∀ q : Nat, H0.size ≤ q → A0 q)
    (isC isR : List Nat) (hC : isC.map (fun i => Z[i]?) = wc.map some) (hn0 : va_nd isC = true) (hR : isR.map (fun i => Z[i]?) = wr.map some) (hn : va_nd isR = true) (hdis : ∀ i ∈ isR, i ∉ isC) (hf : ws'.map Prod.fst = wc.map Prod.fst)
    (kk : ∀ (H1 : Heap) (locs1 : List Loc), va_P (dC, dI) kCl (wr ++ ws') H1 → va_D A0 (wr ++ ws') → va_S A0 H0 H1 locs1 → W p l e R s m args below meth c H1 locs1 cells slots Q (F0 m (pc + 3) ls (.long v :: rest))) : W p l e R s m args below meth c H locs cells slots Q (F0 m pc ls st0) := by
  have hFc := va_free hD hS hA isC hC
  refine va_calll hr hS (fun q _ h => hFc q h) hFc (fun r u t H1 locs1 ht _ hp hB _ hk hS1 => ?_)
  subst hp
  rw [ht] at hB
  obtain ⟨h1, h2⟩ := va_join hP hD isC isR hC hR hn hdis hk hFc hB (kD_fst ((hD.sub isC hn0 hC).self (sz := H.size)) hf)
  exact kk H1 locs1 h1 h2 hS1
end KCALLL
