theorem sound {K : Nat} {f g t : Nat → Int32} {isOn cnt len : Int32} (gd : Gd K f) (hg : LPv g) (ht : TB t) (hon : ¬ isOn = 0 → ∃ c L, cnt = nI c ∧ len = nI L ∧ c ≤ 5 ∧ 3 ≤ L ∧ L ≤ 8 ∧ (∀ u, u < K → dg f u ≤ c) ∧ NoRing f L) : P_isSound K f isOn cnt len g t = 1 := by
  have hK := gd.1
  have a1 : P_isMutual K f = 1 := by rw [P_isMutual]; exact L_mut2 gd K 0 rfl
  have a2 : P_isAimSound K f isOn cnt len = 1 := by
    rw [P_isAimSound]
    split
    · rfl
    · rename_i h
      obtain ⟨c, L, e1, e2, c5, l3, l8, hd, hn⟩ := hon h
      rw [e1, L_aim gd c5 hd K 0 rfl]
      simp only [bd]
      rcases noring_girth gd hn with e | ⟨l, m1, m2, m3, m4⟩
      · rw [if_pos e]
      · rw [m4, e2, if_neg (nI_nem1 (by omega)), if_neg (nI_nlt m2 (by omega))]
  have a4 : P_isTableSound g t = 1 := by rw [P_isTableSound]; exact L_tab2 hg ht 4 2 rfl (by omega)
  rw [P_isSound, a1, a2, evenSound gd hg, a4]
  rfl
/-! what the calls leave -/
-- a garden of the kind: none, or 3 knots or more, and no count above 5
set_option maxRecDepth 16384 in
def NetOK (K : Nat) (f : Nat → Int32) : Prop := Gd K f ∧ (K = 0 ∨ 3 ≤ K) ∧ ∀ u, u < K → dg f u ≤ 5
set_option maxRecDepth 16384 in
theorem dg_ext {f g : Nat → Int32} {u : Nat} (h : g u = f u) : dg g u = dg f u := by rw [dg, h, dg]
set_option maxRecDepth 16384 in
theorem NetOK.ext {K : Nat} {f g : Nat → Int32} (h : NetOK K f) (e : ∀ i, i < 16 → g i = f i) : NetOK K g := ⟨h.1.ext e, h.2.1, fun u hu => by rw [dg_ext (e u (by have := h.1.1; omega))]; exact h.2.2 u hu⟩
set_option maxRecDepth 16384 in
theorem NetOK.take {K : Nat} {f g : Nat → Int32} (h : NetOK K g) : NetOK K (P_take f g) := h.ext (fun i hi => take_at f g hi)
set_option maxRecDepth 16384 in
theorem dg_lay (f : Nat → Int32) {u : Nat} (hu : u < 16) : dg (P_lay f) u = 0 := by
  rw [dg, lay_at f hu]
  exact cn_zero (fun k _ => tb_zero k)
set_option maxRecDepth 16384 in
theorem NetOK.lay {K : Nat} (f : Nat → Int32) (h3 : 3 ≤ K) (hK : K ≤ 16) : NetOK K (P_lay f) := ⟨Gd.lay f hK, Or.inr h3, fun u hu => by rw [dg_lay f (by omega)]; omega⟩
set_option maxRecDepth 16384 in
theorem garden_ok {K M : Nat} {f t : Nat → Int32} {v : Int32 × (Nat → Int32) × (Nat → Int32)} (hM : M < 2 ^ 31) (ht : TB t) (h : P_garden K f t M = .inl v) : v.1 = nI K ∧ NetOK M v.2.1 ∧ TB v.2.2 := by
  rw [P_garden] at h
  split at h
  · cases h
  · rename_i w
    simp only [bd] at h
    obtain ⟨n, n1, n2, n3⟩ := (within_iff (a := 3) (b := 16) (by omega) (by omega)).resolve_left w
    have := nI_inj hM (by omega) n3
    subst this
    have := Sum.inl.inj h
    subst this
    exact ⟨rfl, NetOK.lay f n1 n2, look_spec ht (Gd.lay f n2) (Or.inr n1)⟩
set_option maxRecDepth 16384 in
theorem five_le {K u : Nat} {f : Nat → Int32} (g : Gd K f) (hu : u < 16) : (5 : Int32) ≤ P_countOf f (nI u) ↔ 5 ≤ dg f u := by
  have := dg_le (K := K) (u := u) (f := f)
  rw [countOf_dg g hu]
  constructor
  · intro h
    rcases Nat.lt_or_ge (dg f u) 5 with z | z
    · exact absurd h (nI_ge (a := dg f u) (b := 5) z (by omega))
    · exact z
  · intro h
    exact nI_le (a := 5) h (by omega)
set_option maxRecDepth 16384 in
theorem NetOK.loosen {K a b : Nat} {f : Nat → Int32} (h : NetOK K f) (ha : a < K) (hb : b < K) (hab : a ≠ b) : NetOK K (P_loosen K f (nI a) (nI b)) :=
  ⟨h.1.loosen ha hb hab, h.2.1, fun u hu => Nat.le_trans (dg_mono (fun j hj q => by
    have := h.1.1
    rw [loosen_tb h.1.1 ha hb hab u j (by omega), Bool.and_eq_true] at q
    exact q.1)) (h.2.2 u hu)⟩
set_option maxRecDepth 16384 in
theorem edge_ok {K : Nat} {f t : Nat → Int32} {one other is_ : Int32} {v : Int32 × (Nat → Int32) × (Nat → Int32)} (hN : NetOK K f) (ht : TB t) (h : P_edge K f t one other is_ = .inl v) : NetOK K v.2.1 ∧ TB v.2.2 := by
  have hK := hN.1.1
  have gen : ∀ a b, a < K → b < K → a ≠ b → one = nI a → other = nI b → (¬ is_ = 0 → P_isNear f one other = 0 → dg f a < 5 ∧ dg f b < 5) → ((v.2.1 = P_loosen K f one other ∨ (¬ is_ = 0 ∧ v.2.1 = P_join K f one other)) ∧ v.2.2 = P_look t K v.2.1) → NetOK K v.2.1 ∧ TB v.2.2 := by
    intro a b ha hb hab e1 e2 hlt ⟨h1, h2⟩
    have hv : NetOK K v.2.1 := by
      rcases h1 with h1 | ⟨his, h1⟩
      · rw [h1, e1, e2]; exact hN.loosen ha hb hab
      · rw [h1, e1, e2]
        refine ⟨hN.1.join ha hb hab, hN.2.1, fun u hu => ?_⟩
        cases z : tb (f a) b with
        | true =>
          have : dg (P_join K f (nI a) (nI b)) u ≤ dg f u := dg_mono (fun j hj q => by
            rw [join_tb hK ha hb hab u j (by omega)] at q
            simp only [Bool.or_eq_true, Bool.and_eq_true, beq_iff_eq] at q
            rcases q with (q | ⟨q1, q2⟩) | ⟨q1, q2⟩
            · exact q
            · rw [q1, q2]; exact z
            · rw [q1, q2]; exact hN.1.sym (by omega) z)
          exact Nat.le_trans this (hN.2.2 u hu)
        | false =>
          have d := dg_join_le (f := f) (u := u) hK ha hb hab (by omega)
          have e := hN.2.2 u hu
          obtain ⟨l1, l2⟩ := hlt his (by rw [e1, e2, isNear_tb (by omega) (by omega), z]; rfl)
          split at d
          · rename_i q
            rcases q with q | q <;> subst q <;> omega
          · omega
    exact ⟨hv, by rw [h2]; exact look_spec ht hv.1 hN.2.1⟩
  rw [P_edge] at h
  split at h
  · cases h
  · rename_i w1
    split at h
    · cases h
    · rename_i w2
      split at h
      · cases h
      · rename_i w3
        obtain ⟨a, ha, e1, _⟩ := (isKnot_iff (x := one) hK).resolve_left w1
        obtain ⟨b, hb, e2, _⟩ := (isKnot_iff (x := other) hK).resolve_left w2
        have hab : a ≠ b := fun q => w3 (by rw [e1, e2, q])
        have c1 := five_le hN.1 (u := a) (by omega)
        have c2 := five_le hN.1 (u := b) (by omega)
        rw [← e1] at c1
        rw [← e2] at c2
        simp only [bd] at h
        refine gen a b ha hb hab e1 e2 ?_ ?_
        · intro his hne
          split at h
          · rename_i q
            cases h
          · rename_i q
            rw [c1] at q
            split at h
            · rename_i q2
              refine ⟨by omega, ?_⟩
              rcases Nat.lt_or_ge (dg f b) 5 with y | y
              · exact y
              · have y2 := c2.mpr y
                rw [Int32.lt_iff_toInt_lt] at q2
                rw [Int32.le_iff_toInt_le] at y2
                omega
            · cases h
        · repeat' split at h
          all_goals first
            | (cases h; done)
            | (have h := Sum.inl.inj h; subst h; exact ⟨Or.inl rfl, rfl⟩)
            | (have h := Sum.inl.inj h; subst h; exact ⟨Or.inr ⟨by assumption, rfl⟩, rfl⟩)
