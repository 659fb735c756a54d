/-! edges by number -/
set_option maxRecDepth 16384 in
theorem L_numbered {set place : Int32} : ∀ (n i : Nat) (left : Int32), Sml left → n < sz left → ∃ x, x < 16 ∧ tb left x = true ∧ L_numberedIn_4 set place (fun left => P_firstOf left) n i left = nI x
  | 0, i, left, h, hn => by
    have h0 : left ≠ 0 := fun z => by
      have : sz left = 0 := by rw [z, sz]; exact cn_zero (fun k _ => tb_zero k)
      omega
    obtain ⟨x, x1, x2, x3, _, _⟩ := first_of h h0
    exact ⟨x, x1, x2, by rw [L_numberedIn_4, P_firstOf, if_neg h0, x3]⟩
  | n + 1, i, left, h, hn => by
    have h0 : left ≠ 0 := fun z => by
      have : sz left = 0 := by rw [z, sz]; exact cn_zero (fun k _ => tb_zero k)
      omega
    obtain ⟨m, m1, m2, m3, m4, m5⟩ := first_of h h0
    rw [L_numberedIn_4]
    simp only [bd]
    have hs : sz left = sz (left &&& (left - 1)) + 1 := by
      rw [sz, cn_one m1 m2, sz]
      congr 1
      exact cn_ext (fun k _ => (m5 k).symm)
    obtain ⟨x, x1, x2, x3⟩ := L_numbered (set := set) (place := place) n (i + 1) (left &&& (left - 1)) m4 (by omega)
    refine ⟨x, x1, ?_, x3⟩
    rw [m5, Bool.and_eq_true] at x2
    exact x2.1
set_option maxRecDepth 16384 in
theorem L_edgeAt {K : Nat} {f : Nat → Int32} {number : Int32} (g : Gd K f) : ∀ (n one : Nat) (left : Int32), n + one = K → L_edgeAt_4 K f number (fun left => -1) n one left = -1 ∨ ∃ a b, a < K ∧ b < K ∧ tb (f a) b = true ∧ L_edgeAt_4 K f number (fun left => -1) n one left = nI (a * 16 + b)
  | 0, one, left, hn => Or.inl rfl
  | n + 1, one, left, hn => by
    have hK := g.1
    rw [L_edgeAt_4]
    split
    · exact Or.inl rfl
    · rename_i h0
      simp only [bd]
      rw [nearOf_nI (by omega)]
      have s := (g.rows one (by omega)).and (b := ((P_bit (nI one + 1) - 1) ^^^ -1))
      generalize hA : (f one &&& ((P_bit (nI one + 1) - 1) ^^^ -1)) = ab at s
      rw [bitCount_sz s]
      split
      · exact L_edgeAt g n (one + 1) _ (by omega)
      · rename_i h1
        have hsz := sz_le ab
        have hl : left.toNatClampNeg < sz ab := by
          have c : ¬ left.toInt < (0 : Int32).toInt := fun q => h0 (Int32.lt_iff_toInt_lt.mpr q)
          have z : (0 : Int32).toInt = 0 := by decide
          have d : ¬ (nI (sz ab)).toInt ≤ left.toInt := fun q => h1 (Int32.le_iff_toInt_le.mpr q)
          rw [nI_toInt (by omega)] at d
          have e : left.toNatClampNeg = left.toInt.toNat := rfl
          omega
        obtain ⟨x, x1, x2, x3⟩ := L_numbered (set := ab) (place := left) left.toNatClampNeg 0 ab s hl
        rw [← hA, tb_and, Bool.and_eq_true] at x2
        have xK := (g.2.1 one x (by omega) x2.1).2
        refine Or.inr ⟨one, x, by omega, xK, x2.1, ?_⟩
        rw [P_numberedIn, x3, pairOf_nI (by omega) (by omega)]
set_option maxRecDepth 16384 in
theorem edgeAt_spec {K : Nat} {f : Nat → Int32} (g : Gd K f) (number : Int32) : P_edgeAt K f number = -1 ∨ ∃ a b, a < K ∧ b < K ∧ tb (f a) b = true ∧ P_edgeAt K f number = nI (a * 16 + b) := by
  rw [P_edgeAt]
  exact L_edgeAt g K 0 number rfl
-- a pair of near knots, or what is no pair
set_option maxRecDepth 16384 in
def EP (K : Nat) (f : Nat → Int32) (p : Int32) : Prop := (P_oneOf p = -1 ∧ P_otherOf p = -1) ∨ ∃ a b, a < K ∧ b < K ∧ tb (f a) b = true ∧ p = nI (a * 16 + b) ∧ P_oneOf p = nI a ∧ P_otherOf p = nI b
set_option maxRecDepth 16384 in
theorem EP.of {K a b : Nat} {f : Nat → Int32} {p : Int32} (hK : K ≤ 16) (ha : a < K) (hb : b < K) (h : tb (f a) b = true) (e : p = nI (a * 16 + b)) : EP K f p := by
  obtain ⟨e1, e2⟩ := pairTab (a * 16 + b) (by omega)
  rw [show (a * 16 + b) / 16 = a from by omega] at e1
  rw [show (a * 16 + b) % 16 = b from by omega] at e2
  exact Or.inr ⟨a, b, ha, hb, h, e, by rw [e]; exact e1, by rw [e]; exact e2⟩
set_option maxRecDepth 16384 in
theorem EP.at {K : Nat} {f : Nat → Int32} (g : Gd K f) (n : Int32) : EP K f (P_edgeAt K f n) := by
  rcases edgeAt_spec g n with e | ⟨a, b, ha, hb, h, e⟩
  · rw [e]; exact Or.inl (by decide)
  · exact EP.of g.1 ha hb h e
set_option maxRecDepth 16384 in
theorem EP.turned {K : Nat} {f : Nat → Int32} (g : Gd K f) {p : Int32} (h : EP K f p) (t : Int32) : EP K f (P_turned p t) := by
  rw [P_turned]
  split
  · exact h
  · rcases h with ⟨h1, h2⟩ | ⟨a, b, ha, hb, h, e, h1, h2⟩
    · rw [h1, h2]; exact Or.inl (by decide)
    · have hK := g.1
      rw [h1, h2]
      exact EP.of hK hb ha (g.sym (by omega) h) (pairOf_nI (by omega) (by omega))
set_option maxRecDepth 16384 in
theorem cn_or_le (p q : Nat → Bool) (n : Nat) : cn (fun k => p k || q k) n ≤ cn p n + cn q n := by
  have := cn_or p q n
  omega
set_option maxRecDepth 16384 in
theorem cn_eq_le (a n : Nat) : cn (fun k => k == a) n ≤ 1 := cn_le_one (fun x y _ _ p q => by
  have := beq_iff_eq.mp p
  have := beq_iff_eq.mp q
  omega)
set_option maxRecDepth 16384 in
theorem dg_loosen {K a b u : Nat} {f : Nat → Int32} (g : Gd K f) (ha : a < K) (hb : b < K) (hab : tb (f a) b = true) (hu : u < 16) : dg (P_loosen K f (nI a) (nI b)) u + (if u = a ∨ u = b then 1 else 0) ≤ dg f u := by
  have hK := g.1
  have n1 : a ≠ b := g.ne (by omega) hab
  have sub : ∀ j, j < 16 → tb (P_loosen K f (nI a) (nI b) u) j = true → tb (f u) j = true := fun j hj w => by
    rw [loosen_tb hK ha hb n1 u j hu, Bool.and_eq_true] at w; exact w.1
  split
  · rename_i z
    rcases z with z | z
    · subst z
      refine cn_lt (k := b) sub (by omega) hab ?_
      rw [loosen_tb hK ha hb n1 u _ (by omega)]
      simp
    · subst z
      refine cn_lt (k := a) sub (by omega) (g.sym (by omega) hab) ?_
      rw [loosen_tb hK ha hb n1 u _ (by omega)]
      simp
  · rw [Nat.add_zero]; exact dg_mono sub
set_option maxRecDepth 16384 in
theorem exchange_ok {K : Nat} {f : Nat → Int32} {p q : Int32} (h : NetOK K f) (hp : EP K f p) (hq : EP K f q) (hc : ¬ P_canExchange f p q = 0) : NetOK K (P_exchange K f p q) := by
  have g := h.1
  have hK := g.1
  rw [P_canExchange] at hc
  simp only [bd] at hc
  have h4 : P_bitCount ((((P_bit (P_oneOf p)) ||| (P_bit (P_otherOf p))) ||| (P_bit (P_oneOf q))) ||| (P_bit (P_otherOf q))) = 4 := by
    rcases Classical.em (P_bitCount ((((P_bit (P_oneOf p)) ||| (P_bit (P_otherOf p))) ||| (P_bit (P_oneOf q))) ||| (P_bit (P_otherOf q))) = 4) with z | z
    · exact z
    · rw [if_neg z] at hc; exact absurd rfl hc
  clear hc
  have small : ∀ (x : Int32) (n : Nat), Sml x → sz x ≤ n → n < 4 → P_bitCount x = 4 → False := fun x n s1 s2 s3 s4 => by
    rw [bitCount_sz s1] at s4
    have := nI_inj (a := sz x) (b := 4) (by have := sz_le x; omega) (by omega) s4
    omega
  have bm1 : P_bit (-1) = 0 := by decide
  have szb : ∀ a, a < 16 → sz (P_bit (nI a)) ≤ 1 := fun a ha => by
    rw [sz, cn_ext (fun k _ => tb_bit (by omega) k)]
    exact cn_eq_le a 16
  have szo : ∀ x y : Int32, sz (x ||| y) ≤ sz x + sz y := fun x y => by
    rw [sz, cn_ext (fun k _ => tb_or x y k)]
    exact cn_or_le _ _ _
  have sz0 : sz 0 = 0 := cn_zero (fun k _ => tb_zero k)
  have two : ∀ r : Int32, EP K f r → sz (P_bit (P_oneOf r) ||| P_bit (P_otherOf r)) ≤ 2 ∧ Sml (P_bit (P_oneOf r) ||| P_bit (P_otherOf r)) := fun r hr => by
    rcases hr with ⟨e1, e2⟩ | ⟨a, b, ha, hb, _, _, e1, e2⟩
    · rw [e1, e2, bm1]
      refine ⟨?_, Sml.zero.or Sml.zero⟩
      have := szo 0 0
      omega
    · rw [e1, e2]
      refine ⟨?_, (Sml.bit (by omega)).or (Sml.bit (by omega))⟩
      have a1 := szo (P_bit (nI a)) (P_bit (nI b))
      have a2 := szb a (by omega)
      have a3 := szb b (by omega)
      omega
  have as : ∀ x y z w : Int32, ((x ||| y) ||| z) ||| w = (x ||| y) ||| (z ||| w) := fun x y z w => by
    apply tb_ext; intro k _
    simp only [tb_or, Bool.or_assoc]
  rcases hp with ⟨e1, e2⟩ | ⟨a, b, ha, hb, hab, _, e1, e2⟩
  · exfalso
    rw [as, e1, e2, bm1] at h4
    obtain ⟨q1, q2⟩ := two q hq
    refine small _ 2 ((Sml.zero.or Sml.zero).or q2) ?_ (by omega) h4
    have a1 := szo (0 ||| 0) (P_bit (P_oneOf q) ||| P_bit (P_otherOf q))
    have a2 := szo 0 0
    omega
  · rcases hq with ⟨e3, e4⟩ | ⟨c, d, hc, hd, hcd, _, e3, e4⟩
    · exfalso
      rw [as, e3, e4, bm1] at h4
      obtain ⟨q1, q2⟩ := two p (Or.inr ⟨a, b, ha, hb, hab, by assumption, e1, e2⟩)
      refine small _ 2 (q2.or (Sml.zero.or Sml.zero)) ?_ (by omega) h4
      have a1 := szo (P_bit (P_oneOf p) ||| P_bit (P_otherOf p)) (0 ||| 0)
      have a2 := szo 0 0
      omega
    · rw [e1, e2, e3, e4] at h4
      have S : Sml ((((P_bit (nI a)) ||| (P_bit (nI b))) ||| (P_bit (nI c))) ||| (P_bit (nI d))) := (((Sml.bit (by omega)).or (Sml.bit (by omega))).or (Sml.bit (by omega))).or (Sml.bit (by omega))
      have tbs : ∀ k, tb ((((P_bit (nI a)) ||| (P_bit (nI b))) ||| (P_bit (nI c))) ||| (P_bit (nI d))) k = ((((k == a) || (k == b)) || (k == c)) || (k == d)) := fun k => by
        rw [tb_or, tb_or, tb_or, tb_bit (by omega), tb_bit (by omega), tb_bit (by omega), tb_bit (by omega)]
      have three : ∀ x y z, (∀ k, ((((k == a) || (k == b)) || (k == c)) || (k == d)) = true → ((k == x || k == y) || k == z) = true) → False := fun x y z hh => by
        refine small _ 3 S ?_ (by omega) h4
        have b1 : sz ((((P_bit (nI a)) ||| (P_bit (nI b))) ||| (P_bit (nI c))) ||| (P_bit (nI d))) ≤ cn (fun k => (k == x || k == y) || k == z) 16 := cn_le (fun k hk e => hh k (by rw [← tbs]; exact e))
        have b2 := cn_or_le (fun k => k == x || k == y) (fun k => k == z) 16
        have b3 := cn_or_le (fun k => k == x) (fun k => k == y) 16
        have b4 := cn_eq_le x 16
        have b5 := cn_eq_le y 16
        have b6 := cn_eq_le z 16
        omega
      have n1 : a ≠ b := g.ne (by omega) hab
      have n2 : c ≠ d := g.ne (by omega) hcd
      have n3 : a ≠ c := fun z => three a b d (fun k hk => by subst z; revert hk; cases k == a <;> cases k == b <;> cases k == d <;> simp)
      have n4 : b ≠ d := fun z => three a b c (fun k hk => by subst z; revert hk; cases k == a <;> cases k == b <;> cases k == c <;> simp)
      have n5 : a ≠ d := fun z => three a b c (fun k hk => by subst z; revert hk; cases k == a <;> cases k == b <;> cases k == c <;> simp)
      have n6 : b ≠ c := fun z => three a b d (fun k hk => by subst z; revert hk; cases k == a <;> cases k == b <;> cases k == d <;> simp)
      rw [P_exchange]
      simp only [bd]
      rw [e1, e2, e3, e4]
      have g1 := g.loosen ha hb n1
      have g2 := g1.loosen hc hd n2
      have g3 := g2.join ha hc n3
      have g4 := g3.join hb hd n4
      refine ⟨g4, h.2.1, fun u hu => ?_⟩
      have d0 := h.2.2 u hu
      have lt1 := dg_loosen g ha hb hab (u := u) (by omega)
      have hcd' : tb (P_loosen K f (nI a) (nI b) c) d = true := by
        rw [loosen_tb hK ha hb n1 c d (by omega), hcd]
        rw [beq_eq_false_iff_ne.mpr n3.symm, beq_eq_false_iff_ne.mpr n6.symm]
        rfl
      have lt2 := dg_loosen g1 hc hd hcd' (u := u) (by omega)
      have j1 := dg_join_le (f := P_loosen K (P_loosen K f (nI a) (nI b)) (nI c) (nI d)) (u := u) hK ha hc n3 (by omega)
      have j2 := dg_join_le (f := P_join K (P_loosen K (P_loosen K f (nI a) (nI b)) (nI c) (nI d)) (nI a) (nI c)) (u := u) hK hb hd n4 (by omega)
      revert lt1 lt2 j1 j2
      generalize dg (P_join K (P_join K (P_loosen K (P_loosen K f (nI a) (nI b)) (nI c) (nI d)) (nI a) (nI c)) (nI b) (nI d)) u = x1
      generalize dg (P_join K (P_loosen K (P_loosen K f (nI a) (nI b)) (nI c) (nI d)) (nI a) (nI c)) u = x2
      generalize dg (P_loosen K (P_loosen K f (nI a) (nI b)) (nI c) (nI d)) u = x3
      generalize dg (P_loosen K f (nI a) (nI b)) u = x4
      intro lt1 lt2 j1 j2
      split at lt1 <;> split at lt2 <;> split at j1 <;> split at j2 <;> omega
set_option maxRecDepth 16384 in
theorem swap_ok {K : Nat} {f t : Nat → Int32} {isOn a b tu : Int32} {v : Int32 × (Nat → Int32) × (Nat → Int32) × Int32} (hN : NetOK K f) (ht : TB t) (h : P_swap K f t isOn a b tu = .inl v) : (NetOK K v.2.1 ∧ TB v.2.2.1) ∧ (v.2.2.2 = 0 ∨ (v.2.1 = f ∧ v.2.2.2 = isOn)) := by
  rw [P_swap] at h
  simp only [bd] at h
  have e1 := EP.at hN.1 a
  have e2 := (EP.at hN.1 b).turned hN.1 tu
  split at h
  · cases h
  · split at h
    · cases h
    · split at h
      · have h := Sum.inl.inj h; subst h; exact ⟨⟨hN, ht⟩, Or.inr ⟨rfl, rfl⟩⟩
      · rename_i hc
        have h := Sum.inl.inj h; subst h
        have := exchange_ok hN e1 e2 hc
        exact ⟨⟨this, look_spec ht this.1 this.2.1⟩, Or.inl rfl⟩
set_option maxRecDepth 16384 in
theorem L_mend_ok {K : Nat} {length rounds : Int32} : ∀ (n round : Nat) (edges swaps shorts z : Int32) (fa : Nat → Int32) (kz : Nat) (fb tz : Nat → Int32), NetOK K fa → NetOK K (L_mendByRounds_33 K length rounds (fun edges swaps shorts z fa kz fb tz => (swaps, fa, kz, fb, tz)) n round edges swaps shorts z fa kz fb tz).2.1 := by
  intro n
  induction n with
  | zero => intro round edges swaps shorts z fa kz fb tz h; exact h
  | succ n ih =>
    intro round edges swaps shorts z fa kz fb tz h
    obtain ⟨ρ, hρ⟩ : ∃ ρ, ρ = L_mendByRounds_33 K length rounds (fun edges swaps shorts z fa kz fb tz => (swaps, fa, kz, fb, tz)) (n + 1) round edges swaps shorts z fa kz fb tz := ⟨_, rfl⟩
    rw [← hρ]
    have hr := hρ.symm
    rewrite [L_mendByRounds_33] at hr
    obtain ⟨z1, ez1⟩ : ∃ y, y = (z * 1103515245 + 12345 &&& 2147483647) := ⟨_, rfl⟩
    have hr := bd_to hr ez1
    have e1 := EP.at h.1 (z1 / 7 - z1 / 7 / edges * edges)
    obtain ⟨p, ep⟩ : ∃ y, y = P_edgeAt K fa (z1 / 7 - z1 / 7 / edges * edges) := ⟨_, rfl⟩
    have hr := bd_to hr ep
    rw [← ep] at e1
    have e2 := EP.at h.1 (z1 / 1024 - z1 / 1024 / edges * edges)
    have e3 := e2.turned h.1 1
    have e4 := e2.turned h.1 0
    have y : ∀ w, NetOK K (P_take w (P_take fb fa)) := fun w => (NetOK.take (f := fb) h).take
    have x : ∀ q, EP K fa q → ¬ P_canExchange fa p q = 0 → NetOK K (P_exchange K fa p q) := fun q hq c => exchange_ok h e1 hq c
    by_cases o : z1 - z1 / 2 * 2 = 1
    · have hr := if_to hr o
      obtain ⟨q1, eq1⟩ : ∃ y, y = P_turned (P_edgeAt K fa (z1 / 1024 - z1 / 1024 / edges * edges)) 1 := ⟨_, rfl⟩
      have hr := bd_to hr eq1
      rw [← eq1] at e3
      by_cases c : P_canExchange fa p q1 = 0
      · have hr := if_to hr c
        rw [← hr]; exact ih _ _ _ _ _ _ _ _ _ h
      · have hr := if_no hr c
        have x := x q1 e3 c
        obtain ⟨r4, er4⟩ : ∃ y, y = P_take fb fa := ⟨_, rfl⟩
        have hr := bd_to hr er4
        obtain ⟨f', ef⟩ : ∃ y, y = P_exchange K fa p q1 := ⟨_, rfl⟩
        have hr := bd_to hr ef
        rw [← ef] at x
        obtain ⟨sr, esr⟩ : ∃ y, y = P_shortRings K f' tz length := ⟨_, rfl⟩
        have hr := bd_to hr esr
        obtain ⟨th, eth⟩ : ∃ y, y = sr.1 := ⟨_, rfl⟩
        have hr := bd_to hr eth
        by_cases d : shorts ≤ th
        · have hr := if_to hr d
          have hr := bd_to hr (y := P_take f' r4) rfl
          rw [← hr]
          exact ih _ _ _ _ _ _ _ _ _ (by rw [er4]; exact y f')
        · have hr := if_no hr d
          rw [← hr]
          exact ih _ _ _ _ _ _ _ _ _ x
    · have hr := if_no hr o
      obtain ⟨q1, eq1⟩ : ∃ y, y = P_turned (P_edgeAt K fa (z1 / 1024 - z1 / 1024 / edges * edges)) 0 := ⟨_, rfl⟩
      have hr := bd_to hr eq1
      rw [← eq1] at e4
      by_cases c : P_canExchange fa p q1 = 0
      · have hr := if_to hr c
        rw [← hr]; exact ih _ _ _ _ _ _ _ _ _ h
      · have hr := if_no hr c
        have x := x q1 e4 c
        obtain ⟨r4, er4⟩ : ∃ y, y = P_take fb fa := ⟨_, rfl⟩
        have hr := bd_to hr er4
        obtain ⟨f', ef⟩ : ∃ y, y = P_exchange K fa p q1 := ⟨_, rfl⟩
        have hr := bd_to hr ef
        rw [← ef] at x
        obtain ⟨sr, esr⟩ : ∃ y, y = P_shortRings K f' tz length := ⟨_, rfl⟩
        have hr := bd_to hr esr
        obtain ⟨th, eth⟩ : ∃ y, y = sr.1 := ⟨_, rfl⟩
        have hr := bd_to hr eth
        by_cases d : shorts ≤ th
        · have hr := if_to hr d
          have hr := bd_to hr (y := P_take f' r4) rfl
          rw [← hr]
          exact ih _ _ _ _ _ _ _ _ _ (by rw [er4]; exact y f')
        · have hr := if_no hr d
          rw [← hr]
          exact ih _ _ _ _ _ _ _ _ _ x
set_option maxRecDepth 16384 in
theorem mendBy_ok {K KS : Nat} {f fs ta : Nat → Int32} {length seed rounds : Int32} (h : NetOK K f) : NetOK K (P_mendByRounds K f KS fs ta length seed rounds).2.1 := by
  obtain ⟨ρ, hρ⟩ : ∃ ρ, ρ = P_mendByRounds K f KS fs ta length seed rounds := ⟨_, rfl⟩
  rw [← hρ]
  have hr := hρ.symm
  rewrite [P_mendByRounds] at hr
  have hr := bd_to hr (y := P_edgesInAll K f) rfl
  by_cases c : (1 : Int32) ≤ P_edgesInAll K f
  · have hr := if_to hr c
    obtain ⟨sr, esr⟩ : ∃ y, y = P_shortRings K f ta length := ⟨_, rfl⟩
    have hr := bd_to hr esr
    have hr := bd_to hr (y := sr.1) rfl
    rw [← hr]
    exact L_mend_ok _ _ _ _ _ _ _ _ _ _ h
  · have hr := if_no hr c
    rw [← hr]
    exact h
