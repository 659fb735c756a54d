/-! the object, what is kept, and what always holds of them -/
abbrev kKN : Type := Nat × Nat × Nat × (Nat → Int32)
def kPool (cI : ClassId) : List kKN → va_W
  | [] => []
  | k :: r => (k.1, .inr (3, [.ref k.2.1, .int (nI k.2.2.1)])) :: (k.2.1, .inl (cI, 16, .inl k.2.2.2)) :: kPool cI r
theorem kPool_app {cI : ClassId} (k : kKN) : ∀ ks : List kKN, kPool cI (ks ++ [k]) = kPool cI ks ++ [(k.1, .inr (3, [.ref k.2.1, .int (nI k.2.2.1)])), (k.2.1, .inl (cI, 16, .inl k.2.2.2))]
  | [] => rfl
  | x :: r => by
    show _ :: _ :: kPool cI (r ++ [k]) = _ :: _ :: (kPool cI r ++ _)
    rw [kPool_app k r]
theorem kPool_perm {cI : ClassId} {k : kKN} : ∀ (ks : List kKN) (j : Nat), ks[j]? = some k → ∃ rest : va_W, (kPool cI ks).Perm ([(k.1, .inr (3, [.ref k.2.1, .int (nI k.2.2.1)])), (k.2.1, .inl (cI, 16, .inl k.2.2.2))] ++ rest)
  | [], j, h => by cases h
  | x :: r, 0, h => by
    cases Option.some.inj h
    exact ⟨kPool cI r, List.Perm.refl _⟩
  | x :: r, j + 1, h => by
    obtain ⟨rest, hr⟩ := kPool_perm r j h
    refine ⟨[(x.1, .inr (3, [.ref x.2.1, .int (nI x.2.2.1)])), (x.2.1, .inl (cI, 16, .inl x.2.2.2))] ++ rest, ?_⟩
    exact (List.Perm.append_left [(x.1, .inr (3, [.ref x.2.1, .int (nI x.2.2.1)])), (x.2.1, .inl (cI, 16, .inl x.2.2.2))] hr).trans (List.perm_append_comm_assoc _ _ _)
abbrev kObj (cI cN : ClassId) (ad : Nat → Nat) (km rf : Int32) (K : Nat) (f bw bars puts bap : Nat → Int32) (isOn cnt len stp sta pm bm : Int32) (g t : Nat → Int32) (KF : Nat) (ff : Nat → Int32) (KT : Nat) (tf im : Nat → Int32) (pl : Int32) (hu ta : Nat → Int32) (kf : Nat → Option Nat) (KS : Nat) (fs : Nat → Int32) : va_W :=
  [(ad 0, .inr (5, [.ref (ad 1), .ref (ad 21), .ref (ad 20), .ref (ad 3), .ref (ad 8), .ref (ad 11), .ref (ad 17), .ref (ad 19), .int km, .int rf])),
   (ad 1, .inr (3, [.ref (ad 2), .int (nI K)])), (ad 2, .inl (cI, 16, .inl f)),
   (ad 3, .inr (0, [.ref (ad 4), .ref (ad 5), .ref (ad 6), .ref (ad 7), .int isOn, .int cnt, .int len, .int stp, .int sta, .int pm, .int bm])), (ad 4, .inl (cI, 16, .inl bw)), (ad 5, .inl (cI, 120, .inl bars)), (ad 6, .inl (cI, 40, .inl puts)), (ad 7, .inl (cI, 40, .inl bap)),
   (ad 8, .inr (1, [.ref (ad 9), .ref (ad 10)])), (ad 9, .inl (cI, 102, .inl g)), (ad 10, .inl (cI, 54, .inl t)),
   (ad 11, .inr (2, [.ref (ad 12), .ref (ad 14), .ref (ad 16), .int pl])), (ad 12, .inr (3, [.ref (ad 13), .int (nI KF)])), (ad 13, .inl (cI, 16, .inl ff)), (ad 14, .inr (3, [.ref (ad 15), .int (nI KT)])), (ad 15, .inl (cI, 16, .inl tf)), (ad 16, .inl (cI, 16, .inl im)),
   (ad 17, .inr (4, [.ref (ad 18)])), (ad 18, .inl (cI, 6, .inl hu)), (ad 19, .inl (cI, 8, .inl ta)), (ad 20, .inl (cN, 5, .inr (.inr (.inr (.inr kf))))), (ad 21, .inr (3, [.ref (ad 22), .int (nI KS)])), (ad 22, .inl (cI, 16, .inl fs))]
/-- the object with its working places left open -/
def kGx (cI cN : ClassId) (ad : Nat → Nat) (km rf : Int32) (K : Nat) (f bw bars puts bap : Nat → Int32) (isOn cnt len stp sta pm bm : Int32) (g t : Nat → Int32) (kf : Nat → Option Nat) (ks : List kKN) (w : va_W) : Prop :=
  ∃ (KF : Nat) (ff : Nat → Int32) (KT : Nat) (tf im : Nat → Int32) (pl : Int32) (hu ta : Nat → Int32) (KS : Nat) (fs : Nat → Int32), w = kObj cI cN ad km rf K f bw bars puts bap isOn cnt len stp sta pm bm g t KF ff KT tf im pl hu ta kf KS fs ++ kPool cI ks
def kKeep (km : Int32) (kf : Nat → Option Nat) (ks : List kKN) : Prop := km = nI ks.length ∧ ks.length ≤ 5 ∧ ∀ (j : Nat) (k : kKN), ks[j]? = some k → kf j = some k.1 ∧ NetOK k.2.2.1 k.2.2.2 ∧ 3 ≤ k.2.2.1
/-- what always holds -/
def kI (K : Nat) (f bw bars puts bap : Nat → Int32) (isOn cnt len sta pm bm km : Int32) (g t : Nat → Int32) (kf : Nat → Option Nat) (ks : List kKN) : Prop :=
  NetOK K f ∧ HuntOK K f bw bars puts bap isOn cnt len sta pm bm ∧ LPv g ∧ TB t ∧ (∀ j, 0 ≤ bap j) ∧ 0 ≤ bm ∧ kKeep km kf ks
def kG (cI cN : ClassId) (s0 K : Nat) (f : Nat → Int32) (isOn cnt len sta : Int32) (w : va_W) : Prop :=
  ∃ (ad : Nat → Nat) (km rf : Int32) (bw bars puts bap : Nat → Int32) (stp pm bm : Int32) (g t : Nat → Int32) (kf : Nat → Option Nat) (ks : List kKN), ad 0 = s0 ∧ kI K f bw bars puts bap isOn cnt len sta pm bm km g t kf ks ∧ kGx cI cN ad km rf K f bw bars puts bap isOn cnt len stp sta pm bm g t kf ks w
/-- some garden of 3 knots or more -/
def kAny (cI cN : ClassId) (s0 : Nat) (w : va_W) : Prop := ∃ (K : Nat) (f : Nat → Int32) (o c l a : Int32), 3 ≤ K ∧ kG cI cN s0 K f o c l a w
theorem kG_at {cI cN : ClassId} {s0 K : Nat} {f : Nat → Int32} {o c l a : Int32} {w : va_W} (h : kG cI cN s0 K f o c l a w) : ∃ fs : List Value, w[0]? = some (s0, .inr (5, fs)) := by
  obtain ⟨ad, km, rf, bw, bars, puts, bap, stp, pm, bm, g, t, kf, ks, h0, hI, KF, ff, KT, tf, im, pl, hu, ta, KS, fs, rfl⟩ := h
  exact ⟨_, by rw [← h0]; rfl⟩
theorem kG_net {cI cN : ClassId} {s0 K : Nat} {f : Nat → Int32} {o c l a : Int32} {w : va_W} (h : kG cI cN s0 K f o c l a w) : NetOK K f := by
  obtain ⟨ad, km, rf, bw, bars, puts, bap, stp, pm, bm, g, t, kf, ks, h0, hI, _⟩ := h
  exact hI.1
/-! of the calls: what mend, grow and what is kept leave -/
theorem P_mend_in {K KS : Nat} {f fs ta t : Nat → Int32} {length seed rounds : Int32} {v : Int32 × (Nat → Int32) × Nat × (Nat → Int32) × (Nat → Int32) × (Nat → Int32)} (hN : NetOK K f) (ht : TB t) (h : P_mend K f KS fs ta t length seed rounds = .inl v) : NetOK K v.2.1 ∧ TB v.2.2.2.2.2 := by
  rw [P_mend] at h
  split at h
  · cases h
  · split at h
    · cases h
    · split at h
      · cases h
      · split at h
        · have h := Sum.inl.inj h
          subst h
          have n := mendBy_ok (KS := KS) (fs := fs) (ta := ta) (length := length) (seed := seed) (rounds := rounds) hN
          exact ⟨n, look_spec ht n.1 n.2.1⟩
        · cases h
theorem P_back_in {K J : Nat} {f t g : Nat → Int32} (hN : NetOK J g) (ht : TB t) : NetOK J (P_back f t J g).2.1 ∧ TB (P_back f t J g).2.2 := by
  have n : NetOK J (P_take f g) := hN.take
  exact ⟨n, look_spec ht n.1 n.2.1⟩
theorem L_grow_pos {K : Nat} {c l : Int32} {k : (Nat → Int32) → (Nat → Int32) → (Nat → Int32) → (Nat → Int32) → (Nat → Int32) → Int32 → Int32 → Int32 → Int32 → GrowR ⊕ Nat} {v : GrowR} {P : Prop}
    (hk : ∀ fa b1 b2 b3 b4 x1 x2 x3 x4, (∀ j, 0 ≤ b4 j) → 0 ≤ x4 → k fa b1 b2 b3 b4 x1 x2 x3 x4 = .inl v → P) : ∀ (n step : Nat) (fa b1 b2 b3 b4 : Nat → Int32) (x1 x2 x3 x4 : Int32), (∀ j, 0 ≤ b4 j) → 0 ≤ x4 → L_grow_43 K c l k n step fa b1 b2 b3 b4 x1 x2 x3 x4 = .inl v → P
  | 0, step, fa, b1, b2, b3, b4, x1, x2, x3, x4, h, hs, e => hk _ _ _ _ _ _ _ _ _ h hs e
  | n + 1, step, fa, b1, b2, b3, b4, x1, x2, x3, x4, h, hs, e => by
    rw [L_grow_43] at e
    by_cases c0 : x2 = 0
    · have e := if_to e c0
      have e := bd_to e rfl
      exact L_grow_pos hk n (step + 1) _ _ _ _ _ _ _ _ _ (P_step_i1 rfl h hs) (P_step_i2 rfl h hs) e
    · have e := if_no e c0
      exact hk _ _ _ _ _ _ _ _ _ h hs e
theorem P_grow_pos {K : Nat} {f bw bars puts bap g t : Nat → Int32} {isOn cnt len stp sta pm bm steps : Int32} {v : GrowR} (h1 : ∀ j, 0 ≤ bap j) (h2 : 0 ≤ bm) (h : P_grow K f bw bars puts bap isOn cnt len stp sta pm bm g t steps = .inl v) : (∀ j, 0 ≤ v.2.2.2.2.2.1 j) ∧ 0 ≤ v.2.2.2.2.2.2.2.2.2.1 := by
  rw [P_grow] at h
  by_cases c0 : P_isWithin steps 1 400 = 0
  · have h := if_to h c0; cases h
  · have h := if_no h c0
    by_cases c1 : isOn = 0
    · have h := if_to h c1; cases h
    · have h := if_no h c1
      refine L_grow_pos (fun fa b1 b2 b3 b4 x1 x2 x3 x4 hb hm h => ?_) steps.toNatClampNeg 0 f bw bars puts bap stp sta pm bm h1 h2 h
      by_cases c2 : x2 = 2
      · have h := if_to h c2
        have h := bd_to h rfl
        have h := bd_to h rfl
        have h := Sum.inl.inj h
        subst h
        exact ⟨hb, hm⟩
      · have h := if_no h c2
        have h := bd_to h rfl
        have h := Sum.inl.inj h
        subst h
        exact ⟨hb, hm⟩
theorem P_aim_pos {K : Nat} {f bw bars g t : Nat → Int32} {bm c1 l1 : Int32} {v : Int32 × (Nat → Int32) × (Nat → Int32) × Int32 × (Nat → Int32)} (h2 : 0 ≤ bm) (h : P_aim K f bw bars bm g t c1 l1 = .inl v) : 0 ≤ v.2.2.2.1 := by
  rw [P_aim] at h
  cases e : P_requireTabled c1 l1 with
  | inr k => rw [e] at h; cases h
  | inl u =>
    have h := sb_l h e
    split at h
    · cases h
    · have h := bd_to h rfl
      have h := bd_to h rfl
      have h := bd_to h rfl
      have h := Sum.inl.inj h
      subst h
      show 0 ≤ (P_begin bw bars bm).2
      unfold P_begin
      simp only [bd]
      exact P_unbar_bm h2
/-- of a number: it tells one that is kept, or none -/
theorem kKeep_at {km number : Int32} {kf : Nat → Option Nat} {ks : List kKN} (h : kKeep km kf ks) : P_keptAt km kf number = none ∨ ∃ (j : Nat) (k : kKN), ks[j]? = some k ∧ P_keptAt km kf number = some k.1 := by
  obtain ⟨h1, h2, h3⟩ := h
  unfold P_keptAt
  by_cases c1 : number < 0
  · exact Or.inl (if_pos c1)
  · rw [if_neg c1]
    by_cases c2 : km ≤ number
    · exact Or.inl (if_pos c2)
    · rw [if_neg c2]
      by_cases c3 : number < (5 : Int32)
      · rw [if_pos c3]
        right
        have a0 : 0 ≤ number.toInt := by
          have := mt (Int32.lt_iff_toInt_lt (x := number) (y := 0)).mpr c1
          rw [show (0 : Int32).toInt = 0 from by decide] at this
          omega
        have a1 : number.toInt < ks.length := by
          have := mt (Int32.le_iff_toInt_le (x := km) (y := number)).mpr c2
          rw [h1, nI_toInt (by omega)] at this
          omega
        have a2 : number.toNatClampNeg < ks.length := by
          have e : number.toNatClampNeg = number.toInt.toNat := rfl
          omega
        obtain ⟨b1, _⟩ := h3 _ _ (List.getElem?_eq_getElem a2)
        exact ⟨_, _, List.getElem?_eq_getElem a2, b1⟩
      · exact Or.inl (if_neg c3)
theorem P_keep_in {K : Nat} {f : Nat → Int32} {km v : Int32} {kf : Nat → Option Nat} {ks : List kKN} (h : kKeep km kf ks) (e : P_keep K f km = .inl v) : ks.length < 5 ∧ v = km := by
  unfold P_keep at e
  split at e
  · cases e
  · split at e
    · cases e
    · split at e
      · rename_i c
        have e := Sum.inl.inj e
        refine ⟨?_, e.symm⟩
        have := Int32.lt_iff_toInt_lt.mp c
        rw [h.1, nI_toInt (by have := h.2.1; omega), show (5 : Int32).toInt = 5 from by decide] at this
        omega
      · cases e
theorem kKeep_add {km : Int32} {kf : Nat → Option Nat} {ks : List kKN} {w1 w2 K : Nat} {r : Nat → Int32} (h : kKeep km kf ks) (h5 : ks.length < 5) (hN : NetOK K r) (h3 : 3 ≤ K) : kKeep (km + 1) (va_up kf km.toNatClampNeg (some w1)) (ks ++ [(w1, w2, K, r)]) := by
  obtain ⟨h1, h2, h4⟩ := h
  have e : km.toNatClampNeg = ks.length := by rw [h1]; exact nI_clamp (by omega)
  refine ⟨by rw [h1, List.length_append]; exact nI_1 _, by rw [List.length_append]; show ks.length + 1 ≤ 5; omega, fun j k hj => ?_⟩
  rw [e]
  rcases Nat.lt_or_ge j ks.length with q | q
  · rw [List.getElem?_append_left q] at hj
    obtain ⟨a, b, c⟩ := h4 j k hj
    exact ⟨by rw [va_up_ne _ _ (by omega)]; exact a, b, c⟩
  · rw [List.getElem?_append_right q] at hj
    have hlt := (List.getElem?_eq_some_iff.mp hj).1
    have hj0 : j = ks.length := by
      simp only [List.length_cons, List.length_nil] at hlt
      omega
    subst hj0
    rw [Nat.sub_self] at hj
    cases Option.some.inj hj
    exact ⟨va_up_self _ _ _, hN, h3⟩
