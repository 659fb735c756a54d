/-! the object as a whole: a contract over the cells that a method can reach is one over the whole object and what is kept -/
theorem kRoomMono {s : State} {pl : Platform} {r r' : Room} (hf : r.frames ≤ r'.frames) (hl : r.locals ≤ r'.locals) (hc : r.cells ≤ r'.cells) (hs : r.slots ≤ r'.slots) (h : s.hasRoom pl r' = true) : s.hasRoom pl r = true := by
  simp only [State.hasRoom, Bool.and_eq_true, decide_eq_true_eq] at h ⊢
  obtain ⟨⟨⟨⟨y, a, b, c, d, e⟩, f⟩, g⟩, i⟩ := h
  exact ⟨⟨⟨⟨by omega, by omega, by omega, by omega, by omega, e⟩, by omega⟩, by omega⟩, i⟩
def kFits (r r' : Room) : Prop := r.frames ≤ r'.frames ∧ r.locals ≤ r'.locals ∧ r.cells ≤ r'.cells ∧ r.slots ≤ r'.slots
theorem kRespec {l : Launch} {x : MethodName} {ws : List Cond} {r r' : Room} {P : Array Value → State → Prop} {Q : Array Value → State → Outcome → State → Prop} (h : MetFree l x (headSpec ws r) P (fun _ _ _ _ _ => True) Q) (hr : kFits r r') : MetFree l x (headSpec ws r') P (fun _ _ _ _ _ => True) Q := by
  intro p e ha hcs hk s m args below hfr happ hP hK
  obtain ⟨a1, a2, a3, a4, a5, a6, a7, a8⟩ := (Spec.appliesLoose_iff hfr).mp happ
  exact h p e ha hcs hk s m args below hfr ((Spec.appliesLoose_iff hfr).mpr ⟨a1, a2, a3, a4, a5, a6, kRoomMono hr.1 hr.2.1 hr.2.2.1 hr.2.2.2 a7, a8⟩) hP hK
theorem kFEmono {st t : State} {o : Outcome} {L : List Loc} {k n k' n' : Nat} (h : FrameEnd st o t L k n) (h1 : k ≤ k') (h2 : n ≤ n') : FrameEnd st o t L k' n' := ⟨h.1, h.2.1, h.2.2.mono h1 h2⟩
theorem kLeftP {D : va_G} {cl : List vw_C} {a b : va_W} {H : Heap} (h : va_P D cl (a ++ b) H) : va_P D cl a H := fun k q hk => h k q (by rw [List.getElem?_append_left (List.getElem?_eq_some_iff.mp hk).1]; exact hk)
theorem kLeftD {A : Nat → Prop} {a b : va_W} (h : va_D A (a ++ b)) : va_D A a := by
  have g : ∀ (k : Nat) (q : Nat × va_E), a[k]? = some q → (a ++ b)[k]? = some q := fun k q hk => by rw [List.getElem?_append_left (List.getElem?_eq_some_iff.mp hk).1]; exact hk
  exact ⟨fun i j p q hp hq => h.1 i j p q (g i p hp) (g j q hq), fun k q hk => h.2 k q (g k q hk)⟩
theorem kInW {X wc pl : va_W} {isC : List Nat} (hC : isC.map (fun i => X[i]?) = wc.map some) {sz q : Nat} (h : va_A wc sz q) : va_A (X ++ pl) sz q := by
  rcases h with ⟨k, e, h⟩ | h
  · obtain ⟨i, _, h2⟩ := va_in_of isC hC h
    exact Or.inl ⟨i, e, by rw [List.getElem?_append_left (List.getElem?_eq_some_iff.mp h2).1]; exact h2⟩
  · exact Or.inr h
/-! worlds whose cells change places -/
theorem kPermP {D : va_G} {cl : List vw_C} {a b : va_W} {H : Heap} (h : a.Perm b) (hP : va_P D cl a H) : va_P D cl b H := fun k q hk => by
  obtain ⟨i, hi⟩ := List.getElem?_of_mem (h.mem_iff.mpr (List.mem_of_getElem? hk))
  exact hP i q hi
theorem kNodup {A : Nat → Prop} {a : va_W} (h : va_D A a) : (a.map Prod.fst).Nodup := by
  refine List.pairwise_iff_getElem.mpr (fun i j hi hj hij e => ?_)
  rw [List.getElem_map, List.getElem_map] at e
  have hi' : i < a.length := by simpa using hi
  have hj' : j < a.length := by simpa using hj
  have := h.1 i j _ _ (List.getElem?_eq_getElem hi') (List.getElem?_eq_getElem hj') e
  omega
theorem kPermD {A : Nat → Prop} {a b : va_W} (h : a.Perm b) (hD : va_D A a) : va_D A b := by
  have hn : (b.map Prod.fst).Nodup := (h.map Prod.fst).nodup_iff.mp (kNodup hD)
  refine ⟨fun i j p q hp hq e => ?_, fun k q hk => ?_⟩
  · have hi : i < (b.map Prod.fst).length := by rw [List.length_map]; exact (List.getElem?_eq_some_iff.mp hp).1
    exact (List.getElem?_inj hi hn).mp (by rw [List.getElem?_map, List.getElem?_map, hp, hq]; exact congrArg some e)
  · obtain ⟨i, hi⟩ := List.getElem?_of_mem (h.mem_iff.mpr (List.mem_of_getElem? hk))
    exact hD.2 i q hi
theorem kPermA {a b : va_W} (h : a.Perm b) {sz q : Nat} (hq : va_A a sz q) : va_A b sz q := by
  rcases hq with ⟨k, e, hk⟩ | hq
  · obtain ⟨i, hi⟩ := List.getElem?_of_mem (h.mem_iff.mp (List.mem_of_getElem? hk))
    exact Or.inl ⟨i, e, hi⟩
  · exact Or.inr hq
/-- the start: the whole world, and what a throw wants -/
def kUE (dC : Nat → ClassId) (dI : Nat → Nat → Nat) (cI cN : ClassId) (w : va_W) (sz : Nat) (U : State) : Prop := kU dC dI cI cN w sz U ∧ kE (fun _ => False) U U.heap
theorem kUE_blind {dC : Nat → ClassId} {dI : Nat → Nat → Nat} {cI cN : ClassId} {w : va_W} {sz : Nat} {As : List Value} : FrameBlind (va_Pc As (kUE dC dI cI cN w sz)) :=
  fun a U g mk q => ⟨q.1, (kU_blind (As := As) a U g mk ⟨q.1, q.2.1⟩).2, kE_same (u := U) rfl q.2.2⟩
/-- the end: an int and a new world of which Post speaks -/
def kJ (dC : Nat → ClassId) (dI : Nat → Nat → Nat) (Post : Int32 → va_W → Prop) (w : va_W) (sz : Nat) : Array Value → State → Outcome → State → Prop := va_Qi Post (fun w' t => va_P (dC, dI) kCl w' t.heap ∧ va_D (va_A w sz) w') (va_A w sz)
def kJl (dC : Nat → ClassId) (dI : Nat → Nat → Nat) (Post : Int64 → va_W → Prop) (w : va_W) (sz : Nat) : Array Value → State → Outcome → State → Prop := va_Ql Post (fun w' t => va_P (dC, dI) kCl w' t.heap ∧ va_D (va_A w sz) w') (va_A w sz)
def kJv (dC : Nat → ClassId) (dI : Nat → Nat → Nat) (Post : va_W → Prop) (w : va_W) (sz : Nat) : Array Value → State → Outcome → State → Prop := va_Qv Post (fun w' t => va_P (dC, dI) kCl w' t.heap ∧ va_D (va_A w sz) w') (va_A w sz)
def kXa : String → State → State → Prop := vx_X (fun (_ : Unit) => True) (fun E _ _ => ∃ k : Nat, E = kCls k) (fun _ => False)
section CW
/-- the objects of a world at these places -/
def kPick (X : va_W) (is : List Nat) : va_W := is.filterMap (fun i => X[i]?)
variable {l : Launch} {y : MethodName} {ws : List Cond} {rm rc : Room} {As : List Value} {dC : Nat → ClassId} {dI : Nat → Nat → Nat} {cI cN : ClassId} {X wc wr w1 X' pl : va_W} {sz mc ms k n : Nat}
/-- what comes back beside the rest -/
theorem kBack {s t : State} (hP : va_P (dC, dI) kCl (X ++ pl) s.heap) (hD : va_D (fun _ => True) (X ++ pl)) (hF : va_F (va_A wc s.heap.size) s t) (hB : va_P (dC, dI) kCl w1 t.heap) (hD1 : va_D (va_A wc s.heap.size) w1)
    (isC isR isB : List Nat) (hC : isC.map (fun i => X[i]?) = wc.map some) (hR : isR.map (fun i => X[i]?) = wr.map some) (hn : va_nd isR = true) (hdis : ∀ i ∈ isR, i ∉ isC)
    (hBk : isB.map (fun i => (wr ++ w1)[i]?) = X'.map some) (hnB : va_nd isB = true) : va_P (dC, dI) kCl (X' ++ pl) t.heap ∧ va_D (va_A (X ++ pl) s.heap.size) (X' ++ pl) := by
  obtain ⟨h1, h2⟩ := va_joinQ hP (hD.self (sz := s.heap.size)) isC isR hC hR hn hdis hF.2 (fun q h => kInW hC h) hB hD1
  exact ⟨h1.part isB hBk, h2.part isB hnB hBk⟩
theorem kWide {s t : State} {isC : List Nat} (hC : isC.map (fun i => X[i]?) = wc.map some) (hF : va_F (va_A wc sz) s t) : va_F (va_A (X ++ pl) sz) s t := ⟨hF.1, fun q h1 h2 => hF.2 q h1 (fun h3 => h2 (kInW hC h3))⟩
theorem kStart {a : Array Value} {s : State} {isC : List Nat} (hC : isC.map (fun i => X[i]?) = wc.map some) (hnC : va_nd isC = true) (h : va_Pc As (kUE dC dI cI cN (X ++ pl) sz) a s) : va_Pc As (kU dC dI cI cN wc sz) a s := by
  obtain ⟨ha, ⟨hsz, hP, hK, hD, hN⟩, hE⟩ := h
  exact ⟨ha, hsz, kLeftP (hP.part isC hC), hK, kLeftD (hD.part isC hnC hC), hN⟩
theorem cOKm {v : Int32} {Post : Int32 → va_W → Prop} (h : Met l y ws rm (va_Pc As (kU dC dI cI cN wc sz)) (kVi dC dI v w1 (va_A wc sz)) 0 0 (va_A wc sz)) (isC isR isB : List Nat) (hC : isC.map (fun i => X[i]?) = wc.map some) (hnC : va_nd isC = true) (hR : isR.map (fun i => X[i]?) = wr.map some) (hn : va_nd isR = true) (hdis : ∀ i ∈ isR, i ∉ isC)
    (hf : w1.map Prod.fst = wc.map Prod.fst) (hBk : isB.map (fun i => (wr ++ w1)[i]?) = X'.map some) (hnB : va_nd isB = true) (hpost : Post v (X' ++ pl)) :
    Met l y ws rm (va_Pc As (kUE dC dI cI cN (X ++ pl) sz)) (kJ dC dI Post (X ++ pl) sz) 0 0 (va_A (X ++ pl) sz) := by
  refine MetFree.mono h (fun a s hp => kStart hC hnC hp) (fun _ _ _ _ _ h => h) (fun a s o t hp q => ?_)
  obtain ⟨ha, ⟨hsz, hP, hK, hD, hN⟩, hE⟩ := hp
  obtain ⟨⟨⟨r, u, ho, hr, hB⟩, hF⟩, L, hFE, hL⟩ := q
  subst hsz
  subst hr
  obtain ⟨b1, b2⟩ := kBack hP hD hF hB (kD_fst ((kLeftD (hD.part isC hnC hC)).self (sz := s.heap.size)) hf) isC isR isB hC hR hn hdis hBk hnB
  exact ⟨⟨⟨r, X' ++ pl, ho, hpost, b1, b2⟩, kWide hC hF⟩, L, hFE, fun z hz => kInW hC (hL z hz)⟩
theorem cOKl {v : Int64} {Post : Int64 → va_W → Prop} (h : Met l y ws rm (va_Pc As (kU dC dI cI cN wc sz)) (kVl dC dI v w1 (va_A wc sz)) 0 0 (va_A wc sz)) (isC isR isB : List Nat) (hC : isC.map (fun i => X[i]?) = wc.map some) (hnC : va_nd isC = true) (hR : isR.map (fun i => X[i]?) = wr.map some) (hn : va_nd isR = true) (hdis : ∀ i ∈ isR, i ∉ isC)
    (hf : w1.map Prod.fst = wc.map Prod.fst) (hBk : isB.map (fun i => (wr ++ w1)[i]?) = X'.map some) (hnB : va_nd isB = true) (hpost : Post v (X' ++ pl)) :
    Met l y ws rm (va_Pc As (kUE dC dI cI cN (X ++ pl) sz)) (kJl dC dI Post (X ++ pl) sz) 0 0 (va_A (X ++ pl) sz) := by
  refine MetFree.mono h (fun a s hp => kStart hC hnC hp) (fun _ _ _ _ _ h => h) (fun a s o t hp q => ?_)
  obtain ⟨ha, ⟨hsz, hP, hK, hD, hN⟩, hE⟩ := hp
  obtain ⟨⟨⟨r, u, ho, hr, hB⟩, hF⟩, L, hFE, hL⟩ := q
  subst hsz
  subst hr
  obtain ⟨b1, b2⟩ := kBack hP hD hF hB (kD_fst ((kLeftD (hD.part isC hnC hC)).self (sz := s.heap.size)) hf) isC isR isB hC hR hn hdis hBk hnB
  exact ⟨⟨⟨r, X' ++ pl, ho, hpost, b1, b2⟩, kWide hC hF⟩, L, hFE, fun z hz => kInW hC (hL z hz)⟩
theorem cRO {v : Int32} {Post : Int32 → va_W → Prop} (h : Met l y ws rm (va_Pc As (kW dC dI cI cN wc)) (kR v) 0 0 (fun _ => False)) (isC : List Nat) (hC : isC.map (fun i => X[i]?) = wc.map some) (hnC : va_nd isC = true) (hpost : Post v (X ++ pl)) :
    Met l y ws rm (va_Pc As (kUE dC dI cI cN (X ++ pl) sz)) (kJ dC dI Post (X ++ pl) sz) 0 0 (va_A (X ++ pl) sz) := by
  refine MetFree.mono h (fun a s hp => ⟨hp.1, (kStart hC hnC hp).2.2⟩) (fun _ _ _ _ _ h => h) (fun a s o t hp q => ?_)
  obtain ⟨ha, ⟨hsz, hP, hK, hD, hN⟩, hE⟩ := hp
  obtain ⟨⟨⟨r, u, ho, hr, hB⟩, hF⟩, L, hFE, hL⟩ := q
  subst hsz
  subst hr
  exact ⟨⟨⟨r, X ++ pl, ho, hpost, kP_kept hP hF.2, hD.self⟩, hF.1, fun q h1 h2 => hF.2 q h1 (fun h3 => h3)⟩, L, hFE, fun z hz => (hL z hz).elim⟩
/-- a contract that returns is one that may throw -/
theorem cUp {Pc : Array Value → State → Prop} {Q : Array Value → State → Outcome → State → Prop} {free : Addr → Prop} (h : Met l y ws rm Pc Q mc ms free) (hr : kFits rm rc) (h1 : mc ≤ k) (h2 : ms ≤ n) : vx_Met l y ws rc Pc Q kXa k n free :=
  MetFree.mono (kRespec h hr) (fun _ _ h => h) (fun _ _ _ _ _ h => h) (fun _ _ _ _ _ q => Or.inl ⟨q.1, q.2.elim fun L z => ⟨L, kFEmono z.1 h1 h2, z.2⟩⟩)
theorem cWiden {Pc : Array Value → State → Prop} {Q : Array Value → State → Outcome → State → Prop} {free : Addr → Prop} (h : Met l y ws rm Pc Q mc ms free) (hr : kFits rm rc) (h1 : mc ≤ k) (h2 : ms ≤ n) : Met l y ws rc Pc Q k n free :=
  MetFree.mono (kRespec h hr) (fun _ _ h => h) (fun _ _ _ _ _ h => h) (fun _ _ _ _ _ q => ⟨q.1, q.2.elim fun L z => ⟨L, kFEmono z.1 h1 h2, z.2⟩⟩)
theorem cEX {Post : Int32 → va_W → Prop} {kx : Nat} (h : vx_Met l y ws rm (va_Pc As (kWE dC dI cI cN wc)) kNoi (kX kx) 1 6 (fun _ => False)) (hr : kFits rm rc) (h1 : 1 ≤ k) (h2 : 6 ≤ n) (isC : List Nat) (hC : isC.map (fun i => X[i]?) = wc.map some) (hnC : va_nd isC = true) :
    vx_Met l y ws rc (va_Pc As (kUE dC dI cI cN (X ++ pl) sz)) (kJ dC dI Post (X ++ pl) sz) kXa k n (va_A (X ++ pl) sz) := by
  refine MetFree.mono (kRespec h hr) (fun a s hp => ⟨hp.1, (kStart hC hnC hp).2.2, hp.2.2⟩) (fun _ _ _ _ _ h => h) (fun a s o t hp q => ?_)
  rcases q with ⟨⟨⟨r, u, ho, hr, hB⟩, hF⟩, _⟩ | ⟨q, ho, E, ce, L, ⟨u, e1, e2, hF⟩, e3, e4, e5, e6, e7, e8⟩
  · exact hr.elim
  · exact Or.inr ⟨q, ho, E, ce, L, ⟨(), trivial, ⟨kx, e2⟩, hF⟩, e3, e4, e5, e6, e7.mono h1 h2, fun z hz => (e8 z hz).elim⟩
theorem cNI {v : Int32} {Φ : va_W → Prop} {Post : Int32 → va_W → Prop} (h : Met l y ws rm (va_Pc As (kU dC dI cI cN wc sz)) (kNI dC dI v Φ (va_A wc sz)) mc ms (va_A wc sz)) (isC isR : List Nat) (hC : isC.map (fun i => X[i]?) = wc.map some) (hnC : va_nd isC = true) (hR : isR.map (fun i => X[i]?) = wr.map some) (hn : va_nd isR = true) (hdis : ∀ i ∈ isR, i ∉ isC)
    (hpost : ∀ w1, Φ w1 → ∃ (isB : List Nat) (X' w' : va_W), isB.map (fun i => (wr ++ w1)[i]?) = X'.map some ∧ va_nd isB = true ∧ (X' ++ pl).Perm w' ∧ Post v w') :
    Met l y ws rm (va_Pc As (kUE dC dI cI cN (X ++ pl) sz)) (kJ dC dI Post (X ++ pl) sz) mc ms (va_A (X ++ pl) sz) := by
  refine MetFree.mono h (fun a s hp => kStart hC hnC hp) (fun _ _ _ _ _ h => h) (fun a s o t hp q => ?_)
  obtain ⟨ha, ⟨hsz, hP, hK, hD, hN⟩, hE⟩ := hp
  obtain ⟨⟨⟨r, u, ho, hr, w1, hφ, hB, hD1⟩, hF⟩, L, hFE, hL⟩ := q
  subst hsz
  subst hr
  obtain ⟨isB, X', w', p1, p2, p3, p4⟩ := hpost w1 hφ
  obtain ⟨b1, b2⟩ := kBack hP hD hF hB hD1 isC isR isB hC hR hn hdis p1 p2
  exact ⟨⟨⟨r, w', ho, p4, kPermP p3 b1, kPermD p3 b2⟩, kWide hC hF⟩, L, hFE, fun z hz => kInW hC (hL z hz)⟩
/-- the same with the world's cells in another order -/
theorem cPerm {w w0 : va_W} {Post0 Post : Int32 → va_W → Prop} (h : Met l y ws rm (va_Pc As (kUE dC dI cI cN w0 sz)) (kJ dC dI Post0 w0 sz) mc ms (va_A w0 sz)) (hp : w.Perm w0) (hpost : ∀ r w1, Post0 r w1 → ∃ w', Post r w' ∧ w1.Perm w') :
    Met l y ws rm (va_Pc As (kUE dC dI cI cN w sz)) (kJ dC dI Post w sz) mc ms (va_A w sz) := by
  refine MetFree.mono h (fun a s q => ⟨q.1, ⟨q.2.1.1, kPermP hp q.2.1.2.1, q.2.1.2.2.1, kPermD hp q.2.1.2.2.2.1, q.2.1.2.2.2.2⟩, q.2.2⟩) (fun _ _ _ _ _ h => h) (fun a s o t hq q => ?_)
  obtain ⟨⟨⟨r, w1, ho, hr, hB, hD⟩, hF⟩, L, hFE, hL⟩ := q
  obtain ⟨w', p1, p2⟩ := hpost r w1 hr
  exact ⟨⟨⟨r, w', ho, p1, kPermP p2 hB, (kPermD p2 hD).weaken (fun k q _ z => kPermA hp.symm z)⟩, hF.1, fun q h1 h2 => hF.2 q h1 (fun h3 => h2 (kPermA hp.symm h3))⟩, L, hFE, fun z hz => kPermA hp.symm (hL z hz)⟩
theorem cOKl0 {v : Int64} {Post : Int64 → va_W → Prop} (h : Met l y ws rm (va_Pc As (kU dC dI cI cN wc sz)) (kVl dC dI v w1 (va_A wc sz)) 0 0 (va_A wc sz)) (isC isR isB : List Nat) (hC : isC.map (fun i => X[i]?) = wc.map some) (hnC : va_nd isC = true) (hR : isR.map (fun i => X[i]?) = wr.map some) (hn : va_nd isR = true) (hdis : ∀ i ∈ isR, i ∉ isC)
    (hf : w1.map Prod.fst = wc.map Prod.fst) (hBk : isB.map (fun i => (wr ++ w1)[i]?) = X'.map some) (hnB : va_nd isB = true) (hpost : Post v X') :
    Met l y ws rm (va_Pc As (kUE dC dI cI cN X sz)) (kJl dC dI Post X sz) 0 0 (va_A X sz) := by
  have k := cOKl (pl := []) (X := X) (Post := Post) h isC isR isB hC hnC hR hn hdis hf hBk hnB (by rw [List.append_nil]; exact hpost)
  rw [List.append_nil] at k
  exact k
theorem cNW {Φ : va_W → Prop} {Post : va_W → Prop} {w : va_W} (h : Met l y ws rm (va_Pc As (kU dC dI cI cN w sz)) (kNW dC dI Φ (va_A w sz)) mc ms (va_A w sz)) (hpost : ∀ w1, Φ w1 → Post w1) :
    Met l y ws rm (va_Pc As (kU dC dI cI cN w sz)) (kJv dC dI Post w sz) mc ms (va_A w sz) := by
  refine MetFree.mono h (fun a s hp => hp) (fun _ _ _ _ _ h => h) (fun a s o t hp q => ?_)
  obtain ⟨⟨⟨u, ho, _, w1, hφ, hB, hD1⟩, hF⟩, q2⟩ := q
  exact ⟨⟨⟨w1, ho, hpost w1 hφ, hB, hD1⟩, hF⟩, q2⟩
end CW
