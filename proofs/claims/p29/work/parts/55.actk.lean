/-! what the law's own methods want: calls over a whole world and more, and what is caught -/
theorem kJoinY {A0 : Nat → Prop} {D : va_G} {cl : List vw_C} {w w' Y : va_W} {H H1 : Heap} (hP : va_P D cl (w ++ Y) H) (hD : va_D A0 (w ++ Y)) (hk : ∀ q : Nat, q < H.size → ¬ va_A w H.size q → H1[q]? = H[q]?) (hF : ∀ q, va_A w H.size q → A0 q) (hP1 : va_P D cl w' H1) (hD1 : va_D (va_A w H.size) w') : va_P D cl (w' ++ Y) H1 ∧ va_D A0 (w' ++ Y) := by
  have hy : ∀ (k : Nat) (q : Nat × va_E), Y[k]? = some q → (w ++ Y)[w.length + k]? = some q := fun k q h => by rw [List.getElem?_append_right (by omega), Nat.add_sub_cancel_left]; exact h
  have apart : ∀ (k : Nat) (q : Nat × va_E), Y[k]? = some q → q.1 < H.size ∧ ¬ va_A w H.size q.1 := fun k q h => by
    have hl := (hP _ q (hy k q h)).lt
    refine ⟨hl, fun z => ?_⟩
    rcases z with ⟨i, e, z⟩ | z
    · have hi := (List.getElem?_eq_some_iff.mp z).1
      have := hD.1 _ _ q (q.1, e) (hy k q h) (by rw [List.getElem?_append_left hi]; exact z) rfl
      omega
    · omega
  have hDY : va_D A0 Y := ⟨fun i j p q hp hq e => by have := hD.1 _ _ p q (hy i p hp) (hy j q hq) e; omega, fun k q h => hD.2 _ q (hy k q h)⟩
  exact ⟨va_P.app hP1 (fun k q h => (hP _ q (hy k q h)).kept (hk q.1 (apart k q h).1 (apart k q h).2)), va_D.app (hD1.weaken (fun k q _ z => hF q.1 z)) hDY (fun i j x y hx hyj e => (apart j y hyj).2 (by rw [← e]; exact hD1.2 i x hx))⟩
theorem kFreeW {A0 : Nat → Prop} {w Y : va_W} {H0 H : Heap} {locs : List Loc} (hD : va_D A0 (w ++ Y)) (hS : va_S A0 H0 H locs) (hA : ∀ q : Nat, H0.size ≤ q → A0 q) : ∀ q, va_A w H.size q → A0 q := fun q h => by
  rcases h with ⟨k, e, h⟩ | h
  · exact hD.2 k (q, e) (by rw [List.getElem?_append_left (List.getElem?_eq_some_iff.mp h).1]; exact h)
  · exact hA q (Nat.le_trans hS.1 h)
def kNc (U : State) : Prop := va_Nc (kCls 1) (kCls 2) U ∧ va_Nc (kCls 3) (kCls 2) U ∧ va_Nc (kCls 3) (kCls 1) U
theorem kNc_moved {u U : State} (h : u.vm.Alike U.vm) (hn : kNc u) : kNc U := ⟨hn.1.moved h, hn.2.1.moved h, hn.2.2.moved h⟩
def kUA (dC : Nat → ClassId) (dI : Nat → Nat → Nat) (cI cN : ClassId) (w : va_W) (sz : Nat) (U : State) : Prop := kU dC dI cI cN w sz U ∧ kE (va_A w sz) U U.heap ∧ kNc U
theorem kUA_blind {dC : Nat → ClassId} {dI : Nat → Nat → Nat} {cI cN : ClassId} {w : va_W} {sz : Nat} {As : List Value} : FrameBlind (va_Pc As (kUA dC dI cI cN w sz)) :=
  fun a U g mk q => ⟨q.1, (kU_blind (As := As) a U g mk ⟨q.1, q.2.1⟩).2, kE_same (u := U) rfl q.2.2.1, kNc_moved (u := U) (Vm.Alike.refl U.vm) q.2.2.2⟩
def kNoX : String → State → State → Prop := vx_X (fun (_ : Unit) => False) (fun _ _ _ => True) (fun _ => False)
theorem kUE_V {dC : Nat → ClassId} {dI : Nat → Nat → Nat} {cI cN : ClassId} {w Y : va_W} {A A1 : Nat → Prop} {H : Heap} {s : State} {s0 : Nat} {fs As : List Value} (hP : va_P (dC, dI) kCl (w ++ Y) H) (hK : va_K (dC, dI) kCl (kT cI cN) s) (hD : va_D A (w ++ Y)) (hN : kN s) (hE : kE A1 s H) (he : w[0]? = some (s0, .inr (5, fs))) :
    PreV s H RX6 s0 (va_Pc (.ref s0 :: As) (kUE dC dI cI cN w H.size)) As :=
  ⟨kUE_blind, va_recv (q := (RX6, TX6, 10)) (ci := 5) hK (kLeftP hP) rfl he, fun U hU hW => ⟨rfl, ⟨by rw [hU], by rw [hU]; exact kLeftP hP, va_K.moved hW.alike hK, (kLeftD hD).weaken (fun _ _ _ _ => trivial), kN_warm hW hN⟩, by rw [hU]; exact kE_warm hW (kE_narrow hE (fun _ h => h.elim))⟩⟩
theorem kUA_S {dC : Nat → ClassId} {dI : Nat → Nat → Nat} {cI cN : ClassId} {w Y : va_W} {A : Nat → Prop} {H : Heap} {s : State} {As : List Value} (hP : va_P (dC, dI) kCl (w ++ Y) H) (hK : va_K (dC, dI) kCl (kT cI cN) s) (hD : va_D A (w ++ Y)) (hN : kN s) (hE : kE (va_A w H.size) s H) (hn : kNc s) :
    PreS s H (va_Pc As (kUA dC dI cI cN w H.size)) As :=
  ⟨kUA_blind, fun U hU hW => ⟨rfl, ⟨by rw [hU], by rw [hU]; exact kLeftP hP, va_K.moved hW.alike hK, (kLeftD hD).weaken (fun _ _ _ _ => trivial), kN_warm hW hN⟩, by rw [hU]; exact kE_warm hW hE, kNc_moved hW.alike hn⟩⟩
theorem kJ_end {dC : Nat → ClassId} {dI : Nat → Nat → Nat} {Post : Int32 → va_W → Prop} {w w' : va_W} {a : Array Value} {s t : State} {H : Heap} {locs : List Loc} {r : Int32} (hp : Post r w') (hP : va_P (dC, dI) kCl (w' ++ []) H) (hD : va_D (va_A w s.heap.size) (w' ++ [])) (hS : va_S (va_A w s.heap.size) s.heap H locs) (ht : t.heap = H) : kJ dC dI Post w s.heap.size a s (.returned (some (.int r))) t := by
  rw [List.append_nil] at hP hD
  exact ⟨⟨r, w', rfl, hp, by subst ht; exact hP, hD⟩, hS.F ht⟩
theorem kCls_or (k : Nat) : kCls k = kCls 1 ∨ kCls k = kCls 2 ∨ kCls k = kCls 3 := by
  match k with
  | 0 => exact Or.inr (Or.inr rfl)
  | 1 => exact Or.inl rfl
  | 2 => exact Or.inr (Or.inl rfl)
  | k + 3 => exact Or.inr (Or.inr rfl)
section KLAW
variable {p : Program} {l : Launch} {e : Env} {R : Room} {s : State} {m : MethodId} {args : Array Value} {below : List Frame} {meth : Method} {c : Code} {H : Heap} {locs : List Loc} {cells slots mc ms : Nat} {Q : State → Prop}
variable {pc : Nat} {ls : Array Slot} {rest st0 : List Value} {dC : Nat → ClassId} {dI : Nat → Nat → Nat} {A0 : Nat → Prop} {w Y : va_W} {H0 : Heap} {a : Array Value} {own E : String} {pre : List ExceptionTableEntry}
theorem kCallJX {Post : Int32 → va_W → Prop} (hr : vx_Run p l e R s m args below meth c H locs cells slots mc ms (F0 m pc ls st0) rest (kJ dC dI Post w H.size a) kXa (va_A w H.size)) (hP : va_P (dC, dI) kCl (w ++ Y) H) (hD : va_D A0 (w ++ Y)) (hS : va_S A0 H0 H locs) (hA : ∀ q : Nat, H0.size ≤ q → A0 q)
    (kx : ∀ (k : Nat) (ce : Cell) (q9 : Addr) (H1 : Heap) (locs1 : List Loc), va_P (dC, dI) kCl (w ++ Y) H1 → va_S A0 H0 H1 locs1 → H1[q9]? = some ce → ce.vm = .none → s.vm.findClass (kCls k) = some ce.cls → vx_W p l e R s m args below meth c H1 locs1 (cells + mc) (slots + ms) Q (F0 m pc ls rest) q9)
    (kk : ∀ (r : Int32) (w' : va_W) (H1 : Heap) (locs1 : List Loc), Post r w' → va_P (dC, dI) kCl (w' ++ Y) H1 → va_D A0 (w' ++ Y) → va_S A0 H0 H1 locs1 → W p l e R s m args below meth c H1 locs1 (cells + mc) (slots + ms) Q (F0 m (pc + 3) ls (.int r :: rest))) : W p l e R s m args below meth c H locs cells slots Q (F0 m pc ls st0) := by
  have hF := kFreeW hD hS hA
  refine vx_calli hr hS (fun q _ h => hF q h) hF (fun q _ h => h.elim) (fun E ce q9 u t H1 locs1 ht _ _ hB _ hk hS1 hc1 hc2 hc3 => ?_) (fun r w' t H1 locs1 ht _ hp hB _ hk hS1 => ?_)
  · obtain ⟨k, rfl⟩ := hB
    exact kx k ce q9 H1 locs1 (kP_kept hP (fun q h1 _ => hk q h1 (fun z => z))) hS1 hc1 hc2 hc3
  · rw [ht] at hB
    obtain ⟨h1, h2⟩ := kJoinY hP hD hk hF hB.1 hB.2
    exact kk r w' H1 locs1 hp h1 h2 hS1
theorem kCallJ {Post : Int32 → va_W → Prop} (hr : va_Run p l e R s m args below meth c H locs cells slots mc ms (F0 m pc ls st0) rest (kJ dC dI Post w H.size a) (va_A w H.size)) (hP : va_P (dC, dI) kCl (w ++ Y) H) (hD : va_D A0 (w ++ Y)) (hS : va_S A0 H0 H locs) (hA : ∀ q : Nat, H0.size ≤ q → A0 q)
    (kk : ∀ (r : Int32) (w' : va_W) (H1 : Heap) (locs1 : List Loc), Post r w' → va_P (dC, dI) kCl (w' ++ Y) H1 → va_D A0 (w' ++ Y) → va_S A0 H0 H1 locs1 → W p l e R s m args below meth c H1 locs1 (cells + mc) (slots + ms) Q (F0 m (pc + 3) ls (.int r :: rest))) : W p l e R s m args below meth c H locs cells slots Q (F0 m pc ls st0) := by
  have hF := kFreeW hD hS hA
  refine va_calli hr hS (fun q _ h => hF q h) hF (fun r w' t H1 locs1 ht _ hp hB _ hk hS1 => ?_)
  rw [ht] at hB
  obtain ⟨h1, h2⟩ := kJoinY hP hD hk hF hB.1 hB.2
  exact kk r w' H1 locs1 hp h1 h2 hS1
theorem kCallJl {Post : Int64 → va_W → Prop} (hr : va_Run p l e R s m args below meth c H locs cells slots mc ms (F0 m pc ls st0) rest (kJl dC dI Post w H.size a) (va_A w H.size)) (hP : va_P (dC, dI) kCl (w ++ Y) H) (hD : va_D A0 (w ++ Y)) (hS : va_S A0 H0 H locs) (hA : ∀ q : Nat, H0.size ≤ q → A0 q)
    (kk : ∀ (r : Int64) (w' : va_W) (H1 : Heap) (locs1 : List Loc), Post r w' → va_P (dC, dI) kCl (w' ++ Y) H1 → va_D A0 (w' ++ Y) → va_S A0 H0 H1 locs1 → W p l e R s m args below meth c H1 locs1 (cells + mc) (slots + ms) Q (F0 m (pc + 3) ls (.long r :: rest))) : W p l e R s m args below meth c H locs cells slots Q (F0 m pc ls st0) := by
  have hF := kFreeW hD hS hA
  refine va_calll hr hS (fun q _ h => hF q h) hF (fun r w' t H1 locs1 ht _ hp hB _ hk hS1 => ?_)
  rw [ht] at hB
  obtain ⟨h1, h2⟩ := kJoinY hP hD hk hF hB.1 hB.2
  exact kk r w' H1 locs1 hp h1 h2 hS1
/-- a call that does not throw, told as one that might -/
theorem kCallJN {Post : Int32 → va_W → Prop} (hr : vx_Run p l e R s m args below meth c H locs cells slots mc ms (F0 m pc ls st0) rest (kJ dC dI Post w H.size a) kNoX (va_A w H.size)) (hP : va_P (dC, dI) kCl (w ++ Y) H) (hD : va_D A0 (w ++ Y)) (hS : va_S A0 H0 H locs) (hA : ∀ q : Nat, H0.size ≤ q → A0 q)
    (kk : ∀ (r : Int32) (w' : va_W) (H1 : Heap) (locs1 : List Loc), Post r w' → va_P (dC, dI) kCl (w' ++ Y) H1 → va_D A0 (w' ++ Y) → va_S A0 H0 H1 locs1 → W p l e R s m args below meth c H1 locs1 (cells + mc) (slots + ms) Q (F0 m (pc + 3) ls (.int r :: rest))) : W p l e R s m args below meth c H locs cells slots Q (F0 m pc ls st0) := by
  have hF := kFreeW hD hS hA
  refine vx_calli hr hS (fun q _ h => hF q h) hF (fun q _ h => h.elim) (fun E ce q9 u t H1 locs1 ht _ hu hB _ hk hS1 hc1 hc2 hc3 => hu.elim) (fun r w' t H1 locs1 ht _ hp hB _ hk hS1 => ?_)
  rw [ht] at hB
  obtain ⟨h1, h2⟩ := kJoinY hP hD hk hF hB.1 hB.2
  exact kk r w' H1 locs1 hp h1 h2 hS1
/-- what a call of 'below' answers -/
def kBel (n : Nat) : Array Value → State → Outcome → State → Prop := va_Qi (fun (r : Int32) (_ : Unit) => ∃ j, j < n ∧ r = nI j) (fun _ _ => True) (fun _ => False)
def kAnyI : Array Value → State → Outcome → State → Prop := va_Qi (fun (_ : Int32) (_ : Unit) => True) (fun _ _ => True) (fun _ => False)
theorem kCallB {n : Nat} {ws : va_W} {D : va_G} {cl : List vw_C} (hr : va_Run p l e R s m args below meth c H locs cells slots 0 0 (F0 m pc ls st0) rest (kBel n a) (fun _ => False)) (hP : va_P D cl ws H) (hS : va_S A0 H0 H locs)
    (kk : ∀ (j : Nat) (H1 : Heap) (locs1 : List Loc), j < n → va_P D cl ws H1 → va_S A0 H0 H1 locs1 → W p l e R s m args below meth c H1 locs1 cells slots Q (F0 m (pc + 3) ls (.int (nI j) :: rest))) : W p l e R s m args below meth c H locs cells slots Q (F0 m pc ls st0) :=
  va_calli (A1 := fun _ => False) hr hS (fun _ _ h => h.elim) (fun _ h => h.elim) (fun r u t H1 locs1 _ _ hp _ _ hk hS1 => by obtain ⟨j, hj, rfl⟩ := hp; exact kk j H1 locs1 hj (kP_kept hP hk) hS1)
theorem kCallA {ws : va_W} {D : va_G} {cl : List vw_C} (hr : va_Run p l e R s m args below meth c H locs cells slots 0 0 (F0 m pc ls st0) rest (kAnyI a) (fun _ => False)) (hP : va_P D cl ws H) (hS : va_S A0 H0 H locs)
    (kk : ∀ (r : Int32) (H1 : Heap) (locs1 : List Loc), va_P D cl ws H1 → va_S A0 H0 H1 locs1 → W p l e R s m args below meth c H1 locs1 cells slots Q (F0 m (pc + 3) ls (.int r :: rest))) : W p l e R s m args below meth c H locs cells slots Q (F0 m pc ls st0) :=
  va_calli (A1 := fun _ => False) hr hS (fun _ _ h => h.elim) (fun _ h => h.elim) (fun r u t H1 locs1 _ _ _ _ _ hk hS1 => kk r H1 locs1 (kP_kept hP hk) hS1)
theorem kPass0 {S : State} (h : pre.all (fun z => !covers z pc) = true) : ∀ z ∈ pre, covers z pc = false ∨ (z.catchType ≠ 0 ∧ ∃ nm : String, (Cond.classLink own z.catchType nm).before args S = true ∧ va_Nc E nm S) := fun z hz => by
  have := List.all_eq_true.mp h z hz
  left
  cases q : covers z pc with
  | false => rfl
  | true => rw [q] at this; cases this
theorem kPass1 {S : State} {t1 : Nat} {n1 : String} (h0 : t1 ≠ 0) (h : pre.all (fun z => !covers z pc || Nat.beq z.catchType t1) = true) (hl : (Cond.classLink own t1 n1).before args S = true) (hn : va_Nc E n1 S) : ∀ z ∈ pre, covers z pc = false ∨ (z.catchType ≠ 0 ∧ ∃ nm : String, (Cond.classLink own z.catchType nm).before args S = true ∧ va_Nc E nm S) := fun z hz => by
  have := List.all_eq_true.mp h z hz
  rcases Bool.or_eq_true_iff.mp this with q | q
  · left
    cases q9 : covers z pc with
    | false => rfl
    | true => rw [q9] at q; cases q
  · right
    have e : z.catchType = t1 := Nat.eq_of_beq_eq_true q
    rw [e]
    exact ⟨h0, n1, hl, hn⟩
theorem kPass2 {S : State} {t1 t2 : Nat} {n1 n2 : String} (h1 : t1 ≠ 0) (h2 : t2 ≠ 0) (h : pre.all (fun z => !covers z pc || (Nat.beq z.catchType t1 || Nat.beq z.catchType t2)) = true) (hl : (Cond.classLink own t1 n1).before args S = true) (hn : va_Nc E n1 S) (hl2 : (Cond.classLink own t2 n2).before args S = true) (hn2 : va_Nc E n2 S) : ∀ z ∈ pre, covers z pc = false ∨ (z.catchType ≠ 0 ∧ ∃ nm : String, (Cond.classLink own z.catchType nm).before args S = true ∧ va_Nc E nm S) := fun z hz => by
  have := List.all_eq_true.mp h z hz
  rcases Bool.or_eq_true_iff.mp this with q | q
  · left
    cases q9 : covers z pc with
    | false => rfl
    | true => rw [q9] at q; cases q
  · right
    rcases Bool.or_eq_true_iff.mp q with q | q
    · have e : z.catchType = t1 := Nat.eq_of_beq_eq_true q
      rw [e]
      exact ⟨h1, n1, hl, hn⟩
    · have e : z.catchType = t2 := Nat.eq_of_beq_eq_true q
      rw [e]
      exact ⟨h2, n2, hl2, hn2⟩
end KLAW
/-- behind a call of act -/
def kAct (cI cN : ClassId) (s0 K : Nat) (f : Nat → Int32) (r : Int32) (w' : va_W) : Prop :=
  ∃ (K' : Nat) (f' : Nat → Int32) (o c l a : Int32), 3 ≤ K' ∧ kG cI cN s0 K' f' o c l a w' ∧
    (r = 2 → K' = K ∧ o = 1 ∧ ∃ (k L : Nat), c = nI k ∧ l = nI L ∧ 2 ≤ k ∧ k ≤ 5 ∧ 3 ≤ L ∧ L ≤ 8 ∧ ∀ G, ¬ Valid K k L G) ∧
    (r = 7 → K' = 2 * K ∧ (∀ u, u < 2 * K → dg f' u = dg f (u % K)) ∧ (P_leastRing (2 * K) f' = -1 ∨ ∃ l m, 3 ≤ l ∧ l ≤ m ∧ m ≤ 16 ∧ P_leastRing K f = nI l ∧ P_leastRing (2 * K) f' = nI m))
theorem kAct0 {cI cN : ClassId} {s0 K : Nat} {f : Nat → Int32} {w' : va_W} (h : kAny cI cN s0 w') : kAct cI cN s0 K f 0 w' := by
  obtain ⟨K', f', o, c, l, a, h3, hG⟩ := h
  exact ⟨K', f', o, c, l, a, h3, hG, fun q => absurd q (by decide), fun q => absurd q (by decide)⟩
theorem kTabShl : ∀ m, m < 21 → ((1 : Int32) <<< (nI m &&& 31)) = nI (2 ^ m) := by decide +kernel
theorem kTabMul : ∀ q, q < 4 → (2 : Int32) + (4 : Int32) * nI q = nI (2 + 4 * q) := by decide +kernel
theorem kTabMin : ∀ n, n < 257 → (if nI n < (20 : Int32) then nI n else 20) = nI (if n < 20 then n else 20) := by decide +kernel
