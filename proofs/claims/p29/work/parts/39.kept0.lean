/-! kept nets: what they want of the machine's rows -/
def kRq (v : Option Nat) : Array Value → State → Outcome → State → Prop := fun _ st oc t => oc = .returned (some (va_rf v)) ∧ va_F (fun _ => False) st t
theorem kRq_end {v r : Option Nat} {a : Array Value} {s t : State} {H : Heap} {locs : List Loc} (h : r = v) (hS : va_S (fun _ => False) s.heap H locs) (ht : t.heap = H) : kRq v a s (.returned (some (va_rf r))) t := ⟨by rw [h], hS.F ht⟩
def kNI (dC : Nat → ClassId) (dI : Nat → Nat → Nat) (v : Int32) (Φ : va_W → Prop) (A : Nat → Prop) : Array Value → State → Outcome → State → Prop := va_Qi (fun (r : Int32) (_ : Unit) => r = v) (fun _ t => ∃ w : va_W, Φ w ∧ va_P (dC, dI) kCl w t.heap ∧ va_D A w) A
theorem kNI_end {dC : Nat → ClassId} {dI : Nat → Nat → Nat} {v r : Int32} {Φ : va_W → Prop} {A : Nat → Prop} {a : Array Value} {s t : State} {H : Heap} {locs : List Loc} {w : va_W} (h : r = v) (hφ : Φ w) (hP : va_P (dC, dI) kCl w H) (hD : va_D A w) (hS : va_S A s.heap H locs) (ht : t.heap = H) : kNI dC dI v Φ A a s (.returned (some (.int r))) t := ⟨⟨r, (), rfl, h, w, hφ, by subst ht; exact hP, hD⟩, hS.F ht⟩
section KKEPT
variable {p : Program} {l : Launch} {e : Env} {R : Room} {s : State} {m : MethodId} {args : Array Value} {below : List Frame} {meth : Method} {c : Code} {H : Heap} {locs : List Loc} {cells slots : Nat} {Q : State → Prop}
variable {pc : Nat} {ls : Array Slot} {rest st0 : List Value} {D : va_G} {cl : List vw_C} {A0 : Nat → Prop} {ws : va_W} {H0 : Heap} {a : Array Value} {cc : ByteArray}
theorem kCallq {v : Option Nat} (hr : va_Run p l e R s m args below meth c H locs cells slots 0 0 (F0 m pc ls st0) rest (kRq v a) (fun _ => False)) (hP : va_P D cl ws H) (hS : va_S A0 H0 H locs)
    (kk : ∀ (H1 : Heap) (locs1 : List Loc), va_P D cl ws H1 → va_S A0 H0 H1 locs1 → W p l e R s m args below meth c H1 locs1 cells slots Q (F0 m (pc + 3) ls (va_rf v :: rest))) : W p l e R s m args below meth c H locs cells slots Q (F0 m pc ls st0) := by
  intro T hT X
  obtain ⟨v9, st₀, t, T', L, h0, X', hL, e1, e2, ⟨hv, hz, hk⟩, st⟩ := hr T hT X
  cases hv
  rw [h0] at hz hk
  obtain ⟨t2, a1, b1⟩ := kk T'.heap (locs ++ L) (by rw [e1]; exact kP_kept hP hk)
    ⟨Nat.le_trans hS.1 (by rw [e1]; exact hz), fun q h1 h2 => by rw [e1, hk q (Nat.lt_of_lt_of_le h1 hS.1) (fun z => z)]; exact hS.2.1 q h1 h2, fun q hq => by
      rcases List.mem_append.mp hq with h | h
      · exact hS.2.2 q h
      · exact (hL q h).elim⟩ T' rfl X'
  exact ⟨t2, st t2 a1, b1⟩
theorem kRenV {x y : Value} (h : x = y) (kk : W p l e R s m args below meth c H locs cells slots Q (F0 m pc ls (y :: rest))) : W p l e R s m args below meth c H locs cells slots Q (F0 m pc ls (x :: rest)) := h ▸ kk
/-- a truth value that is asked and made again -/
theorem kDia {x : Int32} (hx : p.tables.exec = Jvm.exec) (hb : c.code = cc) (d0 : decode cc pc = .ok (.ifCond .eq 7, 3)) (d1 : decode cc (pc + 3) = .ok (.iconst 1, 1)) (d2 : decode cc (pc + 4) = .ok (.goto 4, 3)) (d3 : decode cc (pc + 7) = .ok (.iconst 0, 1)) (h : x = 0 ∨ x = 1)
    (kk : W p l e R s m args below meth c H locs cells slots Q (F0 m (pc + 8) ls (.int x :: rest))) : W p l e R s m args below meth c H locs cells slots Q (F0 m pc ls (.int x :: rest)) := by
  rcases h with rfl | rfl
  · refine lv_if_eq (tgt := pc + 7) hx hb d0 (by omega) (fun _ => ?_) (fun h => absurd rfl h)
    exact lv_iconst (v := 0) hx hb d3 (by decide) kk
  · refine lv_if_eq (tgt := pc + 7) hx hb d0 (by omega) (fun h => absurd h (by decide)) (fun _ => ?_)
    refine lv_iconst (v := 1) hx hb d1 (by decide) ?_
    exact lv_goto (tgt := pc + 8) hx hb d2 (by omega) kk
end KKEPT
theorem L_areAlike_b {K J : Nat} : ∀ (n knot : Nat) (seen left : Int32) (fa fb ia : Nat → Int32) (pa : Int32), (L_areAlike_59 K J (fun seen left fa fb ia pa => if left = 0 then (1, K, fa, J, fb, ia, pa) else (0, K, fa, J, fb, ia, pa)) n knot seen left fa fb ia pa).1 = 0 ∨ (L_areAlike_59 K J (fun seen left fa fb ia pa => if left = 0 then (1, K, fa, J, fb, ia, pa) else (0, K, fa, J, fb, ia, pa)) n knot seen left fa fb ia pa).1 = 1 := by
  intro n
  induction n with
  | zero =>
    intro knot seen left fa fb ia pa
    rw [L_areAlike_59]
    split
    · exact Or.inr rfl
    · exact Or.inl rfl
  | succ n ih =>
    intro knot seen left fa fb ia pa
    rw [L_areAlike_59]
    simp only [bd]
    split
    · split
      · exact Or.inl rfl
      · exact ih _ _ _ _ _ _ _
    · exact ih _ _ _ _ _ _ _
theorem P_areAlike_bv {KF : Nat} {ff : Nat → Int32} {KT : Nat} {tf im : Nat → Int32} {pl : Int32} {K : Nat} {f : Nat → Int32} {J : Nat} {g : Nat → Int32} {r : Int32 × Nat × (Nat → Int32) × Nat × (Nat → Int32) × (Nat → Int32) × Int32} (e : r = P_areAlike KF ff KT tf im pl K f J g) : r.1 = 0 ∨ r.1 = 1 := by
  subst e
  unfold P_areAlike
  simp only [bd]
  split
  · split
    · exact L_areAlike_b _ _ _ _ _ _ _ _
    · exact Or.inl rfl
  · exact Or.inl rfl
