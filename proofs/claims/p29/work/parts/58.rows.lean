/-! rows of rows, and what the law keeps beside the object -/
def kPA (s : State) (cP : ClassId) : Prop := ∃ (kA : Class) (comp : ClassId), s.vm.classes[cP]? = some kA ∧ kA.kind = .array comp (.array .int) ∧ s.vm.findClass "[I" = some comp
theorem kSelf (vm : Vm) (c : ClassId) : vm.assignable c c = true := by
  show vm.assignableAux (255 + 1) c c = true
  rw [Vm.assignableAux, Bool.or_eq_true, beq_iff_eq]
  exact Or.inl rfl
section KAA
variable {p : Program} {l : Launch} {e : Env} {R : Room} {s : State} {m : MethodId} {args : Array Value} {below : List Frame} {meth : Method} {c : Code} {H : Heap} {locs : List Loc} {cells slots : Nat} {Q : State → Prop}
variable {cc : ByteArray} {pc : Nat} {ls : Array Slot} {rest : List Value} {a : Nat} {A : Nat → Prop} {H0 : Heap} {ws : va_W} {D : va_G} {cl : List vw_C}
theorem kNewAA (hexec : p.tables.exec = Jvm.exec) (hb : c.code = cc) {own : String} {index : Nat} (hown : s.vm.findClass own = some m.cls) (hclink : (Cond.classLink own index "[I").before args s = true) (hover : (Cond.arrayOver (.array .int)).before args s = true) (hP : va_P D cl ws H) (hD : va_D A ws) (hS : va_S A H0 H locs) (hA : ∀ q, H0.size ≤ q → A q)
    {n : Int32} {N' : Nat} (hn : ¬ n < 0) (hN : n.toNatClampNeg = N') (hbytes : N' * 4 ≤ 536870912) (hcells : cells + 1 ≤ R.cells) (hslots : slots + N' ≤ R.slots) (hdg : decode cc pc = .ok (.anewarray index, 3))
    (kk : ∀ (q : Nat) (cP : ClassId) (H1 : Heap), kPA s cP → va_P D cl (ws ++ [(q, .inl (cP, N', .inr (.inr (.inr (.inr (fun _ => none))))))]) H1 → va_D A (ws ++ [(q, .inl (cP, N', .inr (.inr (.inr (.inr (fun _ => none))))))]) → va_S A H0 H1 locs →
      W p l e R s m args below meth c H1 locs (cells + 1) (slots + N') Q (F0 m (pc + 3) ls (.ref q :: rest))) : W p l e R s m args below meth c H locs cells slots Q (F0 m pc ls (.int n :: rest)) := by
  subst hN
  refine W.anewA (t := .int) hexec hb hown hclink hover rfl hdg rfl hn hbytes hcells hslots fun cA kA comp f1 f2 f3 f4 => ?_
  generalize hH1 : H.push ({ cls := cA, slots := Array.replicate n.toNatClampNeg .null, vm := .none } : Cell) = H1
  have z1 : H1.size = H.size + 1 := by rw [← hH1, Array.size_push]
  have e1 : H1[H.size]? = some (arrV cA n.toNatClampNeg (fun _ => .null)) := by rw [← hH1, Array.getElem?_push_size, ← arrV_new]
  have o1 : ∀ q : Nat, q < H.size → H1[q]? = H[q]? := fun q hq => by rw [← hH1, Array.getElem?_push, if_neg (Nat.ne_of_lt hq)]
  have hk : ∀ (k : Nat) (x : Nat × va_E), ws[k]? = some x → H1[x.1]? = H[x.1]? := fun k x hx => o1 x.1 ((hP k x hx).lt)
  refine kk H.size cA H1 ⟨kA, comp, f2, f3, f4⟩ ((hP.kept hk).app (fun k x hx => ?_)) (hD.push hP rfl (hA _ hS.1)) ⟨Nat.le_trans hS.1 (by omega), fun x h1 h2 => (o1 x (Nat.lt_of_lt_of_le h1 hS.1)).trans (hS.2.1 x h1 h2), hS.2.2⟩
  have hz : k < 1 := (List.getElem?_eq_some_iff.mp hx).1
  rw [show k = 0 by omega] at hx
  cases hx
  show H1[H.size]? = some (vp_cell _ _)
  rw [vp_cell_q]
  exact e1
theorem kLdAA (hexec : p.tables.exec = Jvm.exec) (hb : c.code = cc) {cP : ClassId} (hc : kPA s cP) (hP : va_P D cl ws H) (q0 : Nat) {n : Nat} {f : Nat → Option Nat} (ha : ws[q0]? = some (a, .inl (cP, n, .inr (.inr (.inr (.inr f)))))) {i : Int32} (hin : vp_in i n) (hdg : decode cc pc = .ok (.aaload, 1))
    (kk : W p l e R s m args below meth c H locs cells slots Q (F0 m (pc + 1) ls (va_rf (f i.toNatClampNeg) :: rest))) : W p l e R s m args below meth c H locs cells slots Q (F0 m pc ls (.int i :: .ref a :: rest)) := by
  have hlt : i.toNatClampNeg < n := Nat.not_le.mp fun q => hin (Or.inr q)
  obtain ⟨kA, comp, k1, k2, _⟩ := hc
  exact W.aald (v := va_rf (f i.toNatClampNeg)) (ty := .array .int) hexec hb (hP q0 _ ha) ⟨(fun k h => by cases h), kA, k1, comp, k2⟩ rfl (fun q => by cases q) (by show ¬ (i < 0 ∨ (arrV _ _ _).slots.size ≤ _); rw [arrV_size]; exact hin) (by show (arrV _ _ _).slots[_]? = _; rw [arrV_read _ _ hlt]) rfl rfl hdg kk
theorem kStAA (hexec : p.tables.exec = Jvm.exec) (hb : c.code = cc) {cP cI : ClassId} (hc : kPA s cP) (hcI : s.vm.findClass "[I" = some cI) (hP : va_P D cl ws H) (hD : va_D A ws) (hS : va_S A H0 H locs) (q0 qk : Nat) {n v nv : Nat} {g : Nat → Int32} {f : Nat → Option Nat} (ha : ws[q0]? = some (a, .inl (cP, n, .inr (.inr (.inr (.inr f)))))) (hv : ws[qk]? = some (v, .inl (cI, nv, .inl g))) {i : Int32} (hin : vp_in i n) (hdg : decode cc pc = .ok (.aastore, 1))
    (kk : ∀ (H1 : Heap) (locs1 : List Loc), va_P D cl (ws.set q0 (a, .inl (cP, n, .inr (.inr (.inr (.inr (va_up f i.toNatClampNeg (some v)))))))) H1 → va_D A (ws.set q0 (a, .inl (cP, n, .inr (.inr (.inr (.inr (va_up f i.toNatClampNeg (some v)))))))) → va_S A H0 H1 locs1 → W p l e R s m args below meth c H1 locs1 cells slots Q (F0 m (pc + 1) ls rest)) : W p l e R s m args below meth c H locs cells slots Q (F0 m pc ls (.ref v :: .int i :: .ref a :: rest)) := by
  have hlt : i.toNatClampNeg < n := Nat.not_le.mp fun q => hin (Or.inr q)
  have h0 : ¬ i < 0 := fun q => hin (Or.inl q)
  obtain ⟨kA, comp, k1, k2, k3⟩ := hc
  have hcomp : comp = cI := Option.some.inj (k3.symm.trans hcI)
  subst hcomp
  obtain ⟨kC, hkC, -⟩ := Vm.findClass_spec k3
  have gv : H[v]? = some (vp_cell comp (nv, .inl g)) := hP qk _ hv
  refine W.aast hexec hb (hP q0 _ ha) (fun q h => by cases h) (fun h => by cases h) k1 k2 rfl hkC ⟨h0, by show _ < (arrV _ _ _).slots.size; rw [arrV_size]; exact hlt⟩ gv (fun q h => by cases h) hkC (kSelf _ _) rfl rfl hdg fun H1 e z oq => ?_
  refine kk H1 _ (hP.set hD ha ?_ oq) (hD.set ha) (hS.put z oq (hD.2 q0 _ ha))
  show H1[a]? = some (vp_cell _ _)
  rw [e]
  rw [vp_cell_q, vp_cell_q, arrV_store]
  congr 2
  funext q
  by_cases hq : q = i.toNatClampNeg
  · subst hq
    simp [updV, va_up, va_rf]
  · simp [updV, va_up, hq]
end KAA
theorem kAtY {w Y : va_W} {k : Nat} {x : Nat × va_E} (h : Y[k]? = some x) : (w ++ Y)[w.length + k]? = some x := by rw [List.getElem?_append_right (by omega), Nat.add_sub_cancel_left]; exact h
theorem kSetY {w Y : va_W} {k : Nat} {x : Nat × va_E} : (w ++ Y).set (w.length + k) x = w ++ Y.set k x := by
  rw [List.set_append_right _ _ (by omega), Nat.add_sub_cancel_left]
theorem kAtE {w Y : va_W} {x : Nat × va_E} : (w ++ (Y ++ [x]))[w.length + Y.length]? = some x := kAtY (by rw [List.getElem?_append_right (Nat.le_refl _), Nat.sub_self]; rfl)
theorem kSetE {w Y : va_W} {x y : Nat × va_E} : (w ++ (Y ++ [x])).set (w.length + Y.length) y = w ++ (Y ++ [y]) := by
  rw [kSetY, List.set_append_right _ _ (Nat.le_refl _), Nat.sub_self]
  rfl
abbrev kRo : Type := Nat × (Nat → Int32)
def kRows (cI : ClassId) (rs : List kRo) : va_W := rs.map (fun r => (r.1, .inl (cI, 3, .inl r.2)))
theorem kRows_at {cI : ClassId} {rs : List kRo} {j : Nat} {r : kRo} (h : rs[j]? = some r) : (kRows cI rs)[j]? = some (r.1, .inl (cI, 3, .inl r.2)) := by
  unfold kRows
  rw [List.getElem?_map, h]
  rfl
theorem kRows_app {cI : ClassId} {rs : List kRo} {r : kRo} : kRows cI (rs ++ [r]) = kRows cI rs ++ [(r.1, .inl (cI, 3, .inl r.2))] := by
  unfold kRows
  rw [List.map_append]
  rfl
/-- the proved rows: what a search has proved is never made -/
def kPr (pf : Nat → Option Nat) (rs : List kRo) (n : Nat) : Prop := rs.length = n ∧ ∀ (j : Nat) (r : kRo), rs[j]? = some r → pf j = some r.1 ∧ ∃ K c L, K ≤ 16 ∧ 2 ≤ c ∧ c ≤ 5 ∧ 3 ≤ L ∧ L ≤ 8 ∧ r.2 0 = nI K ∧ r.2 1 = nI c ∧ r.2 2 = nI L ∧ ∀ G, ¬ Valid K c L G
abbrev kY (cI cP : ClassId) (pr : Nat) (pf : Nat → Option Nat) (rs : List kRo) : va_W := (pr, .inl (cP, 40, .inr (.inr (.inr (.inr pf))))) :: kRows cI rs
theorem kPr_add {pf : Nat → Option Nat} {rs : List kRo} {n a : Nat} {g : Nat → Int32} (h : kPr pf rs n) {K c L : Nat} (hK : K ≤ 16) (hc : 2 ≤ c) (hc5 : c ≤ 5) (hL : 3 ≤ L) (hL8 : L ≤ 8) (e0 : g 0 = nI K) (e1 : g 1 = nI c) (e2 : g 2 = nI L) (no : ∀ G, ¬ Valid K c L G) : kPr (va_up pf n (some a)) (rs ++ [(a, g)]) (n + 1) := by
  obtain ⟨h1, h2⟩ := h
  refine ⟨by rw [List.length_append, h1]; rfl, fun j r hj => ?_⟩
  rcases Nat.lt_or_ge j rs.length with q | q
  · rw [List.getElem?_append_left q] at hj
    obtain ⟨a1, a2⟩ := h2 j r hj
    exact ⟨by rw [va_up_ne _ _ (by omega)]; exact a1, a2⟩
  · rw [List.getElem?_append_right q] at hj
    have hlt := (List.getElem?_eq_some_iff.mp hj).1
    simp only [List.length_cons, List.length_nil] at hlt
    have hj0 : j = n := by omega
    subst hj0
    rw [show j - rs.length = 0 by omega] at hj
    cases Option.some.inj hj
    exact ⟨va_up_self _ _ _, K, c, L, hK, hc, hc5, hL, hL8, e0, e1, e2, no⟩
