theorem cn_lt {p q : Nat → Bool} {n k : Nat} (h : ∀ j, j < n → p j = true → q j = true) (hk : k < n) (hq : q k = true) (hp : p k = false) : cn p n < cn q n := by
  have e := cn_split q p n
  have a : cn p n ≤ cn (fun j => q j && p j) n := cn_le (fun j hj hpj => by rw [h j hj hpj, hpj]; rfl)
  have b : 0 < cn (fun j => q j && !p j) n := cn_pos hk (by rw [hq, hp]; rfl)
  omega
-- the search's own, while it is on
set_option maxRecDepth 16384 in
def HI (K : Nat) (f bw bars puts bap : Nat → Int32) (c L : Nat) (sta pm bm : Int32) : Prop :=
  ∃ (q e s : Nat → Nat) (p b : Nat), Bars bw bars bm q b ∧ Puts K f puts bap pm e s p b ∧ Gd K f ∧ 0 < K ∧ 2 ≤ c ∧ c ≤ 5 ∧ 3 ≤ L ∧ L ≤ 8 ∧ (∀ u, u < K → dg f u ≤ c) ∧ NoRing f L ∧ (¬ sta = 2 → ∀ G, Valid K c L G → Looks G q e s p b) ∧ (sta = 2 → ∀ G, ¬ Valid K c L G)
set_option maxRecDepth 16384 in
theorem stuck_no {K c L v b : Nat} {f bw bars puts bap G : Nat → Int32} {bm pm : Int32} {q e s : Nat → Nat} {p : Nat} (B : Bars bw bars bm q b) (P : Puts K f puts bap pm e s p b) (g : Gd K f) (hL : 3 ≤ L) (hL8 : L ≤ 8) (V : Valid K c L G)
    (h1 : ∀ t, t < p → Ed G (e t)) (h2 : ∀ t, t < b → ¬ Ed G (q t)) (hv : v < K) (few : cn (fun j => decide (j < K ∧ dg f j < c) && !(tb (P_within f (nI v) (nI L - 2)) j) && !(tb (bw v) j)) 16 < c - dg f v) : False := by
  have hK := g.1
  obtain ⟨gG, dG, nG⟩ := V
  have sub : ∀ i j, i < 16 → tb (f i) j = true → tb (G i) j = true := fun i j hi h => by
    obtain ⟨t, t1, t2⟩ := (P.2.2.2.2.2 i j hi).mp h
    exact (Ed_iff gG (P.2.2.1 t t1).2.1 t2 hi).mpr (h1 t t1)
  have split := cn_split (tb (G v)) (tb (f v)) 16
  have hG : cn (tb (G v)) 16 = c := dG v hv
  have hf : cn (fun k => tb (G v) k && tb (f v) k) 16 ≤ dg f v := cn_le (fun k hk h => by rw [Bool.and_eq_true] at h; exact h.2)
  have le : cn (fun k => tb (G v) k && !tb (f v) k) 16 ≤ cn (fun j => decide (j < K ∧ dg f j < c) && !(tb (P_within f (nI v) (nI L - 2)) j) && !(tb (bw v) j)) 16 := by
    refine cn_le (fun x hx h => ?_)
    rw [Bool.and_eq_true, Bool.not_eq_true'] at h
    obtain ⟨x1, x2⟩ := h
    have xK := (gG.2.1 v x (by omega) x1).2
    have x3 := gG.sym (by omega) x1
    have x4 : tb (f x) v = false := by rw [g.2.2.1 x v hx (by omega)]; exact x2
    have d1 : dg f x < c := by
      rw [← dG x xK]
      exact cn_lt (fun j _ => sub x j hx) (by omega) x3 x4
    have w := (within_spec g.rows (v := v) (by omega) (nI L - 2)).2 x
    rw [nI_sub2 L (by omega) hL] at w
    have d2 : tb (P_within f (nI v) (nI L - 2)) x = false := by
      cases z : tb (P_within f (nI v) (nI L - 2)) x with
      | false => rfl
      | true =>
        exfalso
        obtain ⟨d, w', a1, a2, a3, a4, a5⟩ := ball_walk (L - 2) x (w.mp z)
        have d0 : 1 ≤ d := by
          rcases Nat.eq_zero_or_pos d with y | y
          · subst y
            exact absurd (a2.symm.trans a3) (gG.ne (by omega) x1)
          · exact y
        refine nG.way gG (a := v) (b := x) (d := d) (p := w') (by omega) x1 ⟨a2, fun y => ?_, a3, fun i hi => ⟨(a4 i hi).1, sub _ _ (a4 i hi).1 (a4 i hi).2⟩, fun i i1 i2 y => ?_⟩ (by omega) (by omega)
        · have := (a4 0 (by omega)).2
          rw [a2, y, x2] at this
          cases this
        · exact a5 0 i (by omega) i2 (by rw [a2, y])
    have d3 : tb (bw v) x = false := by
      cases z : tb (bw v) x with
      | false => rfl
      | true =>
        exfalso
        rw [B.2.2.2 v (by omega) x] at z
        obtain ⟨t, t1, t2⟩ := px_ex z
        exact h2 t t1 ((Ed_iff gG (B.2.2.1 t t1).2 t2 (by omega)).mp x1)
    simp only [d2, d3, xK, d1, and_self, decide_true, Bool.not_false]
    rfl
  omega
set_option maxRecDepth 16384 in
theorem HI.put {K c L v x b p : Nat} {f bw bars puts bap : Nat → Int32} {sta pm bm : Int32} {q e s : Nat → Nat} (B : Bars bw bars bm q b) (P : Puts K f puts bap pm e s p b) (g : Gd K f) (h0 : 0 < K) (hc2 : 2 ≤ c) (hc : c ≤ 5) (hL : 3 ≤ L) (hL8 : L ≤ 8) (hd : ∀ u, u < K → dg f u ≤ c) (hn : NoRing f L)
    (hs : ¬ sta = 2) (hl : ∀ G, Valid K c L G → Looks G q e s p b) (hv : v < K) (hx : x < K) (d1 : dg f v < c) (d2 : dg f x < c) (far : ¬ ball f v (L - 2) x) :
    HI K (P_put K f puts bap pm bm (nI v) (nI x)).2.2.1 bw bars (P_put K f puts bap pm bm (nI v) (nI x)).1 (P_put K f puts bap pm bm (nI v) (nI x)).2.1 c L sta (P_put K f puts bap pm bm (nI v) (nI x)).2.2.2 bm := by
  have hK := g.1
  have hvx : v ≠ x := fun y => far (ball_le (i := 0) y.symm (by omega))
  have hnear : tb (f v) x = false := by
    cases z : tb (f v) x with
    | false => rfl
    | true => exact absurd (ball_le (i := 1) (Or.inr ⟨v, by omega, rfl, z⟩) (by omega)) far
  have hp := P.1
  rw [P_put, P.2.1, if_neg (nI_pos (by omega))]
  split
  · exact ⟨q, e, s, p, b, B, ⟨P.1, rfl, P.2.2⟩, g, h0, hc2, hc, hL, hL8, hd, hn, fun _ => hl, fun y => absurd y hs⟩
  · rename_i z
    have hp : p < 40 := by
      rcases Nat.lt_or_ge p 40 with y | y
      · exact y
      · exact absurd (show (40 : Int32) ≤ nI p from nI_le (a := 40) y (by omega)) z
    simp only [bd]
    rw [nI_clamp (by omega), nI_1, pairOf_nI (by omega) (by omega)]
    obtain ⟨e', he⟩ : ∃ e' : Nat → Nat, e' = fun t => if t = p then v * 16 + x else e t := ⟨_, rfl⟩
    obtain ⟨s', hs'⟩ : ∃ s' : Nat → Nat, s' = fun t => if t = p then b else s t := ⟨_, rfl⟩
    have e1 : e' p = v * 16 + x := by rw [he]; exact if_pos rfl
    have e2 : ∀ t, t < p → e' t = e t := fun t ht => by rw [he]; exact if_neg (by omega)
    have s1 : s' p = b := by rw [hs']; exact if_pos rfl
    have s2 : ∀ t, t < p → s' t = s t := fun t ht => by rw [hs']; exact if_neg (by omega)
    obtain ⟨P1, P2, P3, P4, P5, P6⟩ := P
    have prx : ∀ i j, Pr (v * 16 + x) i j ↔ ((i = v ∧ j = x) ∨ (i = x ∧ j = v)) := fun i j => Pr_of (by omega)
    have fresh : ∀ t, t < p → ∀ i j, Pr (e t) i j → ¬ Pr (v * 16 + x) i j := fun t ht i j h h' => by
      have := (prx i j).mp h'
      rcases this with ⟨y1, y2⟩ | ⟨y1, y2⟩
      · subst y1; subst y2
        have := (P6 i j (by omega)).mpr ⟨t, ht, h⟩
        rw [hnear] at this; cases this
      · subst y1; subst y2
        have := (P6 j i (by omega)).mpr ⟨t, ht, h.symm⟩
        rw [hnear] at this; cases this
    refine ⟨q, e', s', p + 1, b, B, ⟨by omega, rfl, fun t ht => ?_, fun t u htu hu => ?_, fun t u htu hu i j h h' => ?_, fun i j hi => ?_⟩, g.join hv hx hvx, h0, hc2, hc, hL, hL8, fun u hu => ?_, hn.join g hv hx hvx (by omega) far, fun _ G V => ?_, fun y => absurd y hs⟩
    · rcases Nat.lt_or_ge t p with y | y
      · rw [upd_at, upd_at, if_neg (by omega), if_neg (by omega), e2 t y, s2 t y]
        exact P3 t y
      · have : t = p := by omega
        subst this
        rw [upd_at, upd_at, if_pos rfl, if_pos rfl, e1, s1]
        exact ⟨rfl, by omega, by omega, by omega, by omega, B.2.1, Nat.le_refl _⟩
    · rcases Nat.lt_or_ge u p with y | y
      · rw [s2 t (by omega), s2 u y]; exact P4 t u htu y
      · have : u = p := by omega
        subst this
        rw [s1, s2 t htu]
        exact (P3 t htu).2.2.2.2.2.2
    · rcases Nat.lt_or_ge u p with y | y
      · rw [e2 t (by omega)] at h
        rw [e2 u y] at h'
        exact P5 t u htu y i j h h'
      · have : u = p := by omega
        subst this
        rw [e2 t htu] at h
        rw [e1] at h'
        exact fresh t htu i j h h'
    · rw [join_tb hK hv hx hvx i j hi]
      simp only [Bool.or_eq_true, Bool.and_eq_true, beq_iff_eq]
      rw [P6 i j hi]
      constructor
      · rintro ((⟨t, t1, t2⟩ | h) | h)
        · exact ⟨t, by omega, by rw [e2 t t1]; exact t2⟩
        · exact ⟨p, by omega, by rw [e1]; exact (prx i j).mpr (Or.inl h)⟩
        · exact ⟨p, by omega, by rw [e1]; exact (prx i j).mpr (Or.inr h)⟩
      · rintro ⟨t, t1, t2⟩
        rcases Nat.lt_or_ge t p with y | y
        · rw [e2 t y] at t2; exact Or.inl (Or.inl ⟨t, y, t2⟩)
        · rw [show t = p from by omega, e1, prx] at t2
          rcases t2 with h | h
          · exact Or.inl (Or.inr h)
          · exact Or.inr h
    · have := dg_join_le (f := f) (u := u) hK hv hx hvx (by omega)
      have h2 := hd u hu
      split at this
      · rename_i h
        rcases h with h | h <;> subst h <;> omega
      · omega
    · rcases hl G V with ⟨a1, a2⟩ | ⟨t, t1, t2, t3, t4⟩
      · rcases Classical.em (Ed G (v * 16 + x)) with y | y
        · refine Or.inl ⟨fun t ht => ?_, a2⟩
          rcases Nat.lt_or_ge t p with z | z
          · rw [e2 t z]; exact a1 t z
          · rw [show t = p from by omega, e1]; exact y
        · exact Or.inr ⟨p, by omega, fun u hu => by rw [e2 u hu]; exact a1 u hu, by rw [e1]; exact y, fun u hu => by rw [s1] at hu; exact a2 u hu⟩
      · exact Or.inr ⟨t, by omega, fun u hu => by rw [e2 u (by omega)]; exact t2 u hu, by rw [e2 t t1]; exact t3, fun u hu => by rw [s2 t t1] at hu; exact t4 u hu⟩
set_option maxRecDepth 16384 in
theorem HI.back {K c L b p : Nat} {f bw bars puts bap : Nat → Int32} {sta pm bm : Int32} {q e s : Nat → Nat} (B : Bars bw bars bm q b) (P : Puts K f puts bap pm e s p b) (g : Gd K f) (h0 : 0 < K) (hc2 : 2 ≤ c) (hc : c ≤ 5) (hL : 3 ≤ L) (hL8 : L ≤ 8) (hd : ∀ u, u < K → dg f u ≤ c) (hn : NoRing f L)
    (hs : ¬ sta = 2) (hl : ∀ G, Valid K c L G → ∃ t, t < p ∧ (∀ u, u < t → Ed G (e u)) ∧ ¬ Ed G (e t) ∧ ∀ u, u < s t → ¬ Ed G (q u)) :
    HI K (P_goBack K f bw bars puts bap sta pm bm).2.2.1 (P_goBack K f bw bars puts bap sta pm bm).1 (P_goBack K f bw bars puts bap sta pm bm).2.1 puts bap c L (P_goBack K f bw bars puts bap sta pm bm).2.2.2.1 (P_goBack K f bw bars puts bap sta pm bm).2.2.2.2.1 (P_goBack K f bw bars puts bap sta pm bm).2.2.2.2.2 := by
  have hK := g.1
  obtain ⟨P1, P2, P3, P4, P5, P6⟩ := P
  rw [P_goBack, P2]
  simp only [bd]
  rcases Nat.eq_zero_or_pos p with hp | hp
  · subst hp
    rw [if_pos (by decide)]
    obtain ⟨bw', u1, u2⟩ := unbar_spec (s := 0) B (by omega)
    rw [show (0 : Int32) = nI 0 from rfl, u1]
    refine ⟨q, e, s, 0, 0, u2, ⟨by omega, rfl, fun t ht => by omega, fun t u a b => by omega, fun t u a b => by omega, P6⟩, g, h0, hc2, hc, hL, hL8, hd, hn, fun y => absurd rfl y, fun _ G V => ?_⟩
    obtain ⟨t, t1, _⟩ := hl G V
    omega
  · obtain ⟨m, rfl⟩ : ∃ m, p = m + 1 := ⟨p - 1, by omega⟩
    obtain ⟨p1, p2, p3, p4, p5, p6, p7⟩ := P3 m (by omega)
    rw [nI_pred, if_neg (nI_pos (by omega)), if_neg (show ¬ (40 : Int32) ≤ nI m from nI_ge (a := m) (b := 40) (by omega) (by omega)), if_pos (show nI m < (40 : Int32) from nI_lt (a := m) (b := 40) (by omega) (by omega)), nI_clamp (by omega), p1, p6]
    obtain ⟨bw', u1, u2⟩ := unbar_spec (s := s m) B p7
    rw [u1]
    obtain ⟨bw2, bars2, q2, b2, v1, v2, v3, v4, v5⟩ := bar_spec (e := e m) u2 p2
    rw [v1, (pairTab (e m) p2).1, (pairTab (e m) p2).2]
    refine ⟨q2, e, s, m, b2, v2, ⟨by omega, rfl, fun t ht => ?_, fun t u htu hu => P4 t u htu (by omega), fun t u htu hu => P5 t u htu (by omega), fun i j hi => ?_⟩, g.loosen p3 p4 p5, h0, hc2, hc, hL, hL8, fun u hu => ?_, hn.loosen hK p3 p4 p5, fun _ G V => ?_, fun y => absurd y hs⟩
    · obtain ⟨a1, a2, a3, a4, a5, a6, a7⟩ := P3 t (by omega)
      exact ⟨a1, a2, a3, a4, a5, a6, Nat.le_trans (P4 t m ht (by omega)) v4⟩
    · rw [loosen_tb hK p3 p4 p5 i j hi, Bool.and_eq_true, Bool.not_eq_true', P6 i j hi]
      have pm' : ((i == e m / 16 && j == e m % 16) || (i == e m % 16 && j == e m / 16)) = true ↔ Pr (e m) i j := by
        rw [Pr]; simp
      constructor
      · rintro ⟨⟨t, t1, t2⟩, h⟩
        rcases Nat.lt_or_ge t m with y | y
        · exact ⟨t, y, t2⟩
        · rw [show t = m from by omega] at t2
          rw [pm'.mpr t2] at h; cases h
      · rintro ⟨t, t1, t2⟩
        refine ⟨⟨t, by omega, t2⟩, ?_⟩
        cases z : ((i == e m / 16 && j == e m % 16) || (i == e m % 16 && j == e m / 16)) with
        | false => rfl
        | true => exact absurd (pm'.mp z) (P5 t m t1 (by omega) i j t2)
    · exact Nat.le_trans (dg_mono (fun j hj h => by
        rw [loosen_tb hK p3 p4 p5 u j (by omega), Bool.and_eq_true] at h
        exact h.1)) (hd u hu)
    · obtain ⟨t, t1, t2, t3, t4⟩ := hl G V
      rcases Nat.lt_or_ge t m with y | y
      · exact Or.inr ⟨t, y, t2, t3, fun u hu => by rw [v3 u (Nat.lt_of_lt_of_le hu (P4 t m y (by omega)))]; exact t4 u hu⟩
      · have : t = m := by omega
        subst this
        refine Or.inl ⟨t2, fun u hu => ?_⟩
        rcases v5 u hu with z | z
        · rw [v3 u z]; exact t4 u z
        · rw [z]; exact t3
-- one step of the search
set_option maxRecDepth 16384 in
theorem HI.step {K c L : Nat} {f bw bars puts bap : Nat → Int32} {stp pm bm : Int32} (h : HI K f bw bars puts bap c L 0 pm bm) :
    ∃ bw' bars' puts' bap' f' stp' sta' pm' bm', P_step K f bw bars puts bap (nI c) (nI L) stp 0 pm bm = (bw', bars', puts', bap', f', stp', sta', pm', bm') ∧ HI K f' bw' bars' puts' bap' c L sta' pm' bm' ∧ (sta' = 0 ∨ sta' = 1 ∨ sta' = 2) := by
  obtain ⟨q, e, s, p, b, B, P, g, h0, hc2, hc, hL, hL8, hd, hn, hl, hl2⟩ := h
  have hK := g.1
  rw [P_step]
  simp only [bd]
  rcases next_spec (c := c) (f := f) (bw := bw) (len := nI L) (sta := 0) hK with e1 | ⟨v, hv, e1, e2⟩
  · rw [if_pos e1]
    exact ⟨_, _, _, _, _, _, _, _, _, rfl, ⟨q, e, s, p, b, B, P, g, h0, hc2, hc, hL, hL8, hd, hn, fun _ => hl (by decide), fun y => absurd y (by decide)⟩, Or.inr (Or.inl rfl)⟩
  · rw [e1, if_neg (nI_nem1 (by omega))]
    have hdv := (((needy_spec g (c := c) (by omega)).2 v).mp e2).2
    rcases partner_spec (bw := bw) g hc hL hL8 hv e2 with ⟨r1, r2⟩ | ⟨x, x1, x2, x3, x4, x5⟩
    · rw [if_pos r1]
      have st : (P_goBack K f bw bars puts bap 0 pm bm).2.2.2.1 = 0 ∨ (P_goBack K f bw bars puts bap 0 pm bm).2.2.2.1 = 1 ∨ (P_goBack K f bw bars puts bap 0 pm bm).2.2.2.1 = 2 := by
        rw [P_goBack]
        simp only [bd]
        repeat' split
        all_goals simp
      refine ⟨_, _, _, _, _, _, _, _, _, rfl, HI.back B P g h0 hc2 hc hL hL8 hd hn (by decide) (fun G V => ?_), st⟩
      rcases hl (by decide) G V with ⟨a1, a2⟩ | h
      · exact (stuck_no B P g hL hL8 V a1 a2 hv r2).elim
      · exact h
    · rw [x2, if_neg (nI_nem1 (by omega))]
      exact ⟨_, _, _, _, _, _, _, _, _, rfl, HI.put B P g h0 hc2 hc hL hL8 hd hn (by decide) (hl (by decide)) hv x1 hdv x3 x4, Or.inl rfl⟩
