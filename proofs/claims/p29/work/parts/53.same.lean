/-! what an answer does not depend on: what lies in the working places -/
def ag (n : Nat) (a b : Nat → Int32) : Prop := ∀ i, i < n → a i = b i
theorem ag_rf {n : Nat} {a : Nat → Int32} : ag n a a := fun _ _ => rfl
theorem ag_upd {n i : Nat} {a b : Nat → Int32} {x y : Int32} (h : ag n a b) (hx : i < n → x = y) : ag n (upd a i x) (upd b i y) := fun j hj => by
  unfold upd
  by_cases e : j = i
  · rw [if_pos e, if_pos e]
    exact hx (by omega)
  · rw [if_neg e, if_neg e]
    exact h j hj
theorem kIte {α β : Type} {R : α → β → Prop} {c : Prop} [Decidable c] {a b : α} {a' b' : β} (h1 : c → R a a') (h2 : ¬ c → R b b') : R (if c then a else b) (if c then a' else b') := by
  by_cases h : c
  · rw [if_pos h, if_pos h]
    exact h1 h
  · rw [if_neg h, if_neg h]
    exact h2 h
theorem near_ag {f g : Nat → Int32} (h : ag 16 f g) : P_nearOf f = P_nearOf g := by
  funext x
  unfold P_nearOf
  refine kIte (R := Eq) (fun _ => rfl) (fun c1 => kIte (R := Eq) (fun _ => rfl) (fun c2 => ?_))
  exact h _ (Nat.not_le.mp fun q => (kIn (N := 16) (n := 16) (by decide) c1 c2) (Or.inr q))
theorem L_around_ag {f g : Nat → Int32} (h : P_nearOf f = P_nearOf g) {s : Int32} {k : Int32 → Int32 → Int32} : ∀ (n i : Nat) (all left : Int32), L_around_7 f s k n i all left = L_around_7 g s k n i all left
  | 0, _, _, _ => rfl
  | n + 1, i, all, left => by
    rw [L_around_7, L_around_7, h]
    simp only [bd, L_around_ag h n]
theorem around_ag {f g : Nat → Int32} (h : P_nearOf f = P_nearOf g) : P_around f = P_around g := by
  funext s
  exact L_around_ag h _ _ _ _
theorem L_within_ag {f g : Nat → Int32} (h : P_nearOf f = P_nearOf g) {x e : Int32} {k : Int32 → Int32 → Int32} : ∀ (n i : Nat) (a b : Int32), L_within_11 f x e k n i a b = L_within_11 g x e k n i a b
  | 0, _, _, _ => rfl
  | n + 1, i, a, b => by
    rw [L_within_11, L_within_11, around_ag h]
    simp only [bd, L_within_ag h n]
theorem partWith_ag {f g : Nat → Int32} (h : P_nearOf f = P_nearOf g) : P_partWith f = P_partWith g := by
  funext x
  exact L_within_ag h _ _ _ _
/-! colours -/
theorem L_hard32_ag {f hu hu' : Nat → Int32} (h : ag 6 hu hu') {knot : Nat} {k : Int32 → Int32} : ∀ (n i : Nat) (s : Int32), n + i = 6 → L_hardest_32 f hu knot k n i s = L_hardest_32 f hu' knot k n i s
  | 0, _, _, _ => rfl
  | n + 1, i, s, e => by
    rw [L_hardest_32, L_hardest_32, h i (by omega)]
    exact kIte (R := Eq) (fun _ => L_hard32_ag h n _ _ (by omega)) (fun _ => L_hard32_ag h n _ _ (by omega))
theorem L_hard8_ag {K : Nat} {f hu hu' : Nat → Int32} (h : ag 6 hu hu') {bare : Int32} {k : Int32 → Int32 → Int32} : ∀ (n i : Nat) (b m : Int32), L_hardest_8 K f hu bare k n i b m = L_hardest_8 K f hu' bare k n i b m
  | 0, _, _, _ => rfl
  | n + 1, i, b, m => by
    rw [L_hardest_8, L_hardest_8, L_hard32_ag h 6 0 0 rfl]
    simp only [L_hard8_ag h n]
theorem hardest_ag {K : Nat} {f hu hu' : Nat → Int32} (h : ag 6 hu hu') {bare : Int32} : P_hardest K f hu bare = P_hardest K f hu' bare := L_hard8_ag h _ _ _ _
def R6 (r r' : Int32 × (Nat → Int32)) : Prop := r.1 = r'.1 ∧ ag 6 r.2 r'.2
theorem L_can_ag {f : Nat → Int32} {many bare : Int32} {rc : Int32 → (Nat → Int32) → Int32 × (Nat → Int32)} (hrc : ∀ b x y, ag 6 x y → R6 (rc b x) (rc b y)) : ∀ (n hue : Nat) (knot : Int32) (hs hs' : Nat → Int32), hue + n < 2 ^ 31 → ag 6 hs hs' →
    R6 (L_canPaint_26 f many bare rc (fun _ hs => (0, hs)) n hue knot hs) (L_canPaint_26 f many bare rc (fun _ hs => (0, hs)) n hue knot hs')
  | 0, _, _, _, _, _, h => ⟨rfl, h⟩
  | n + 1, hue, knot, hs, hs', e, h => by
    rw [L_canPaint_26, L_canPaint_26]
    refine kIte (R := R6) (fun _ => ⟨rfl, h⟩) (fun c => ?_)
    have hlt : hue < 6 := kInN (n := 6) (N := 6) rfl c (by omega) (by omega)
    have q := hrc (bare &&& ((P_bit knot) ^^^ (-1 : Int32))) _ _ (ag_upd (i := hue) (x := (hs hue) ||| (P_bit knot)) (y := (hs' hue) ||| (P_bit knot)) h (fun _ => by rw [h hue hlt]))
    rw [h hue hlt] at q ⊢
    simp only [bd]
    generalize rc (bare &&& ((P_bit knot) ^^^ (-1 : Int32))) (upd hs hue ((hs' hue) ||| (P_bit knot))) = r at q ⊢
    generalize rc (bare &&& ((P_bit knot) ^^^ (-1 : Int32))) (upd hs' hue ((hs' hue) ||| (P_bit knot))) = r' at q ⊢
    obtain ⟨q1, q2⟩ := q
    rw [q1]
    have q3 : ag 6 (upd r.2 hue ((r.2 hue) &&& ((P_bit knot) ^^^ (-1 : Int32)))) (upd r'.2 hue ((r'.2 hue) &&& ((P_bit knot) ^^^ (-1 : Int32)))) := ag_upd q2 (fun z => by rw [q2 hue z])
    refine kIte (R := R6) (fun _ => kIte (R := R6) (fun _ => kIte (R := R6) (fun _ => ⟨rfl, q3⟩) (fun _ => ⟨rfl, q2⟩)) (fun _ => kIte (R := R6) (fun _ => ?_) (fun _ => ⟨rfl, q2⟩))) (fun _ => ?_)
    · exact L_can_ag hrc n _ _ _ _ (by omega) q3
    · exact L_can_ag hrc n _ _ _ _ (by omega) h
theorem canPaint_ag {K : Nat} {f : Nat → Int32} {many : Int32} : ∀ (n : Nat) (bare : Int32) (x y : Nat → Int32), ag 6 x y → R6 (P_canPaint K f many n bare x) (P_canPaint K f many n bare y)
  | 0, bare, x, y, h => by
    rw [P_canPaint, P_canPaint]
    exact kIte (R := R6) (fun _ => ⟨rfl, h⟩) (fun _ => ⟨rfl, h⟩)
  | n + 1, bare, x, y, h => by
    rw [P_canPaint, P_canPaint, hardest_ag h]
    refine kIte (R := R6) (fun _ => ⟨rfl, h⟩) (fun _ => ?_)
    exact L_can_ag (fun b x y h => canPaint_ag n b x y h) _ _ _ _ _ (by have := kClampLt many; omega) h
theorem L_few16_ag {k k' : (Nat → Int32) → Int32 × (Nat → Int32)} : ∀ (n i : Nat) (x y : Nat → Int32), n + i = 6 → ag i x y → ∃ a b, L_fewestOf_16 k n i x = k a ∧ L_fewestOf_16 k' n i y = k' b ∧ ag 6 a b
  | 0, i, x, y, e, h => ⟨x, y, rfl, rfl, fun j hj => h j (by omega)⟩
  | n + 1, i, x, y, e, h => by
    rw [L_fewestOf_16, L_fewestOf_16]
    refine L_few16_ag n (i + 1) _ _ (by omega) (fun j hj => ?_)
    unfold upd
    by_cases c : j = i
    · rw [if_pos c, if_pos c]
    · rw [if_neg c, if_neg c]
      exact h j (by omega)
theorem L_few3_ag {K : Nat} {f : Nat → Int32} {part : Int32} : ∀ (n : Nat) (many : Int32) (x y : Nat → Int32), (L_fewestOf_3 K f part (fun hs => (6, hs)) n many x).1 = (L_fewestOf_3 K f part (fun hs => (6, hs)) n many y).1
  | 0, _, _, _ => rfl
  | n + 1, many, x, y => by
    rw [L_fewestOf_3, L_fewestOf_3]
    obtain ⟨a, b, e1, e2, hab⟩ := L_few16_ag (k := fun hz => bd (P_canPaint K f many 16 part hz) (fun r_1 => if r_1.1 = 0 then L_fewestOf_3 K f part (fun hs => (6, hs)) n (many + 1) r_1.2 else (many, r_1.2))) (k' := fun hz => bd (P_canPaint K f many 16 part hz) (fun r_1 => if r_1.1 = 0 then L_fewestOf_3 K f part (fun hs => (6, hs)) n (many + 1) r_1.2 else (many, r_1.2))) 6 0 x y rfl (fun j hj => by omega)
    rw [e1, e2]
    have q := canPaint_ag (K := K) (f := f) (many := many) 16 part a b hab
    simp only [bd]
    rw [q.1]
    exact kIte (R := fun a b : Int32 × (Nat → Int32) => a.1 = b.1) (fun _ => L_few3_ag n _ _ _) (fun _ => rfl)
theorem fewestOf_ag {K : Nat} {f x y : Nat → Int32} {part low : Int32} : (P_fewestOf K f x part low).1 = (P_fewestOf K f y part low).1 := L_few3_ag _ _ _ _
theorem L_few7_ag {K : Nat} {f : Nat → Int32} : ∀ (n i : Nat) (many seen : Int32) (x y : Nat → Int32), (L_fewest_7 K f (fun many _ hs => (many, hs)) n i many seen x).1 = (L_fewest_7 K f (fun many _ hs => (many, hs)) n i many seen y).1
  | 0, _, _, _, _, _ => rfl
  | n + 1, i, many, seen, x, y => by
    rw [L_fewest_7, L_fewest_7]
    refine kIte (R := fun a b : Int32 × (Nat → Int32) => a.1 = b.1) (fun _ => ?_) (fun _ => L_few7_ag n _ _ _ _ _)
    simp only [bd]
    rw [fewestOf_ag (x := x) (y := y)]
    exact L_few7_ag n _ _ _ _ _
theorem fewest_ag {K : Nat} {f x y : Nat → Int32} : (P_fewest K f x).1 = (P_fewest K f y).1 := L_few7_ag _ _ _ _ _ _
/-! likeness -/
section LIKE
variable {ff gg tf ug : Nat → Int32} {KF KT : Nat}
theorem L_next_ag (h : P_nearOf ff = P_nearOf gg) {pl left : Int32} {k : Int32 → Int32 → Int32} : ∀ (n i : Nat) (b m : Int32), L_nextToPlace_7 KF ff pl left k n i b m = L_nextToPlace_7 KF gg pl left k n i b m
  | 0, _, _, _ => rfl
  | n + 1, i, b, m => by
    rw [L_nextToPlace_7, L_nextToPlace_7, h]
    simp only [bd, L_next_ag h n]
theorem next_ag (h : P_nearOf ff = P_nearOf gg) {pl left : Int32} : P_nextToPlace KF ff pl left = P_nextToPlace KF gg pl left := L_next_ag h _ _ _ _
/-- two rows of images that agree where knots are placed -/
def agp (p : Int32) (x y : Nat → Int32) : Prop := ∀ i, i < 16 → tb p i = true → x i = y i
theorem L_fit78_ag (ht : P_nearOf tf = P_nearOf ug) {x y : Nat → Int32} {p : Int32} (h : agp p x y) {k : Int32 → Int32 → Int32} : ∀ (n i : Nat) (a b : Int32), n + i = 16 → L_fitting_78 tf x p k n i a b = L_fitting_78 ug y p k n i a b
  | 0, _, _, _, _ => rfl
  | n + 1, i, a, b, e => by
    rw [L_fitting_78, L_fitting_78]
    refine kIte (R := Eq) (fun _ => L_fit78_ag ht h n _ _ _ (by omega)) (fun c => ?_)
    have c1 : tb p i = true := by
      cases z : tb p i with
      | true => rfl
      | false => exact absurd (by rw [holds_tb (by omega), z]; rfl) c
    rw [h i (by omega) c1, ht]
    exact kIte (R := Eq) (fun _ => L_fit78_ag ht h n _ _ _ (by omega)) (fun _ => L_fit78_ag ht h n _ _ _ (by omega))
theorem L_fit21_ag (ht : P_nearOf tf = P_nearOf ug) {x y : Nat → Int32} {p kn fr : Int32} {k k' : Int32 → Int32 → Int32 → Int32} (hk : ∀ a b c, k a b c = k' a b c) : ∀ (n i : Nat) (a b c : Int32), L_fitting_21 ff KT tf x p kn fr k n i a b c = L_fitting_21 gg KT ug y p kn fr k' n i a b c
  | 0, _, _, _, _ => hk _ _ _
  | n + 1, i, a, b, c => by
    rw [L_fitting_21, L_fitting_21, ht]
    exact kIte (R := Eq) (fun _ => L_fit21_ag ht hk n _ _ _ _) (fun _ => kIte (R := Eq) (fun _ => L_fit21_ag ht hk n _ _ _ _) (fun _ => L_fit21_ag ht hk n _ _ _ _))
theorem fit_ag (h : P_nearOf ff = P_nearOf gg) (ht : P_nearOf tf = P_nearOf ug) {x y : Nat → Int32} {p : Int32} (hp : agp p x y) {kn fr : Int32} : P_fitting ff KT tf x p kn fr = P_fitting gg KT ug y p kn fr := by
  unfold P_fitting
  rw [h]
  exact L_fit21_ag ht (fun a b c => L_fit78_ag ht hp 16 0 _ _ rfl) _ _ _ _ _
theorem place_ag {x y : Nat → Int32} {p k v : Int32} (h : agp p x y) : (P_place x p k v).2 = (P_place y p k v).2 ∧ agp (P_place x p k v).2 (P_place x p k v).1 (P_place y p k v).1 := by
  unfold P_place
  by_cases c1 : k < 0
  · rw [if_pos c1, if_pos c1]
    exact ⟨rfl, h⟩
  · rw [if_neg c1, if_neg c1]
    by_cases c2 : (16 : Int32) ≤ k
    · rw [if_pos c2, if_pos c2]
      exact ⟨rfl, h⟩
    · rw [if_neg c2, if_neg c2]
      refine ⟨rfl, fun i hi ti => ?_⟩
      obtain ⟨j, j1, rfl⟩ := nI_of c1
      have j2 : j < 16 := kInN (n := 16) (N := 16) rfl c2 j1 (by omega)
      show upd x _ v i = upd y _ v i
      rw [nI_clamp j1]
      unfold upd
      by_cases e : i = j
      · rw [if_pos e, if_pos e]
      · rw [if_neg e, if_neg e]
        refine h i hi ?_
        have ti : tb (p ||| P_bit (nI j)) i = true := ti
        rw [tb_or, tb_bit (by omega), show (i == j) = false from by simp [e], Bool.or_false] at ti
        exact ti
def RW3 (r r' : Int32 × (Nat → Int32) × Int32) : Prop := r.1 = r'.1 ∧ r.2.2 = r'.2.2 ∧ agp r.2.2 r.2.1 r'.2.1
theorem L_ways_ag {left free most : Int32} {rc rc' : Int32 → Int32 → Int32 → (Nat → Int32) → Int32 → Int32 × (Nat → Int32) × Int32} (hrc : ∀ a b c x y p, agp p x y → RW3 (rc a b c x p) (rc' a b c y p)) : ∀ (n i : Nat) (kn fit many : Int32) (x y : Nat → Int32) (p : Int32), agp p x y →
    RW3 (L_ways_37 left free most rc (fun _ _ many ia pa => (many, ia, pa)) n i kn fit many x p) (L_ways_37 left free most rc' (fun _ _ many ia pa => (many, ia, pa)) n i kn fit many y p)
  | 0, _, _, _, _, _, _, _, h => ⟨rfl, rfl, h⟩
  | n + 1, i, kn, fit, many, x, y, p, h => by
    rw [L_ways_37, L_ways_37]
    refine kIte (R := RW3) (fun _ => ⟨rfl, rfl, h⟩) (fun _ => kIte (R := RW3) (fun _ => L_ways_ag hrc n _ _ _ _ _ _ _ h) (fun _ => ?_))
    simp only [bd]
    obtain ⟨q1, q2⟩ := place_ag (k := kn) (v := nI i) h
    rw [← q1]
    have q := hrc (left &&& ((P_bit kn) ^^^ (-1 : Int32))) (free &&& ((P_bit (nI i)) ^^^ (-1 : Int32))) (most - many) _ _ _ q2
    generalize rc (left &&& ((P_bit kn) ^^^ (-1 : Int32))) (free &&& ((P_bit (nI i)) ^^^ (-1 : Int32))) (most - many) (P_place x p kn (nI i)).1 (P_place x p kn (nI i)).2 = r at q ⊢
    generalize rc' (left &&& ((P_bit kn) ^^^ (-1 : Int32))) (free &&& ((P_bit (nI i)) ^^^ (-1 : Int32))) (most - many) (P_place y p kn (nI i)).1 (P_place x p kn (nI i)).2 = r' at q ⊢
    obtain ⟨a1, a2, a3⟩ := q
    rw [a1, ← a2]
    refine L_ways_ag hrc n _ _ _ _ _ _ _ (fun j hj tj => a3 j hj ?_)
    rw [tb_and] at tj
    exact (Bool.and_eq_true_iff.mp tj).1
theorem ways_ag (h : P_nearOf ff = P_nearOf gg) (ht : P_nearOf tf = P_nearOf ug) : ∀ (n : Nat) (left free most : Int32) (x y : Nat → Int32) (p : Int32), agp p x y → RW3 (P_ways ff KF KT tf n left free most x p) (P_ways gg KF KT ug n left free most y p)
  | 0, left, free, most, x, y, p, hp => by
    rw [P_ways, P_ways]
    exact kIte (R := RW3) (fun _ => ⟨rfl, rfl, hp⟩) (fun _ => ⟨rfl, rfl, hp⟩)
  | n + 1, left, free, most, x, y, p, hp => by
    rw [P_ways, P_ways, next_ag h]
    refine kIte (R := RW3) (fun _ => ⟨rfl, rfl, hp⟩) (fun _ => ?_)
    simp only [bd]
    rw [fit_ag h ht hp]
    exact L_ways_ag (fun a b c x y p hp => ways_ag h ht n a b c x y p hp) _ _ _ _ _ _ _ _ hp
theorem waysOf_ag (h : P_nearOf ff = P_nearOf gg) (ht : P_nearOf tf = P_nearOf ug) {x y : Nat → Int32} {p q a b m : Int32} : (P_waysOf ff KF KT tf x p a b m).1 = (P_waysOf gg KF KT ug y q a b m).1 := by
  unfold P_waysOf
  refine kIte (R := fun a b : Int32 × (Nat → Int32) × Int32 => a.1 = b.1) (fun _ => ?_) (fun _ => rfl)
  exact (ways_ag h ht 16 a b m x y 0 (fun i _ ti => by rw [tb_zero] at ti; cases ti)).1
theorem L_parts_ag (h : P_nearOf ff = P_nearOf gg) (ht : P_nearOf tf = P_nearOf ug) {a : Int32} : ∀ (n i : Nat) (many left : Int32) (x y : Nat → Int32) (p q : Int32), (L_partsLike_8 ff KF KT tf a (fun many _ ia pa => (many, ia, pa)) n i many left x p).1 = (L_partsLike_8 gg KF KT ug a (fun many _ ia pa => (many, ia, pa)) n i many left y q).1
  | 0, _, _, _, _, _, _, _ => rfl
  | n + 1, i, many, left, x, y, p, q => by
    rw [L_partsLike_8, L_partsLike_8, partWith_ag ht]
    refine kIte (R := fun a b : Int32 × (Nat → Int32) × Int32 => a.1 = b.1) (fun _ => L_parts_ag h ht n _ _ _ _ _ _ _) (fun _ => ?_)
    simp only [bd]
    rw [waysOf_ag h ht (x := x) (y := y) (p := p) (q := q)]
    exact L_parts_ag h ht n _ _ _ _ _ _ _
theorem parts_ag (h : P_nearOf ff = P_nearOf gg) (ht : P_nearOf tf = P_nearOf ug) {x y : Nat → Int32} {p q a b : Int32} : (P_partsLike ff KF KT tf x p a b).1 = (P_partsLike gg KF KT ug y q a b).1 := L_parts_ag h ht _ _ _ _ _ _ _ _
theorem L_match_ag (h : P_nearOf ff = P_nearOf gg) (ht : P_nearOf tf = P_nearOf ug) {a : Int32} : ∀ (n i : Nat) (left : Int32) (x y : Nat → Int32) (p q : Int32), (L_partMatching_5 ff KF KT tf a (fun _ ia pa => (0, ia, pa)) n i left x p).1 = (L_partMatching_5 gg KF KT ug a (fun _ ia pa => (0, ia, pa)) n i left y q).1
  | 0, _, _, _, _, _, _ => rfl
  | n + 1, i, left, x, y, p, q => by
    rw [L_partMatching_5, L_partMatching_5, partWith_ag ht]
    refine kIte (R := fun a b : Int32 × (Nat → Int32) × Int32 => a.1 = b.1) (fun _ => L_match_ag h ht n _ _ _ _ _ _) (fun _ => ?_)
    simp only [bd]
    rw [waysOf_ag h ht (x := x) (y := y) (p := p) (q := q)]
    exact kIte (R := fun a b : Int32 × (Nat → Int32) × Int32 => a.1 = b.1) (fun _ => L_match_ag h ht n _ _ _ _ _ _) (fun _ => rfl)
theorem match_ag (h : P_nearOf ff = P_nearOf gg) (ht : P_nearOf tf = P_nearOf ug) {x y : Nat → Int32} {p q a b : Int32} : (P_partMatching ff KF KT tf x p a b).1 = (P_partMatching gg KF KT ug y q a b).1 := L_match_ag h ht _ _ _ _ _ _ _
end LIKE
theorem take_ag (f g h : Nat → Int32) : ag 16 (P_take f h) (P_take g h) := fun i hi => (take_at f h hi).trans (take_at g h hi).symm
theorem L_turns_ag {K : Nat} : ∀ (n i : Nat) (t s : Int32) (fa fa' fb fb' x y : Nat → Int32) (p q : Int32), P_nearOf fa = P_nearOf fa' → P_nearOf fb = P_nearOf fb' →
    (L_turnsOf_32 K (fun turns _ fa fb ia pa => (turns, K, fa, K, fb, ia, pa)) n i t s fa fb x p).1 = (L_turnsOf_32 K (fun turns _ fa fb ia pa => (turns, K, fa, K, fb, ia, pa)) n i t s fa' fb' y q).1
  | 0, _, _, _, _, _, _, _, _, _, _, _, _, _ => rfl
  | n + 1, i, t, s, fa, fa', fb, fb', x, y, p, q, h, ht => by
    rw [L_turnsOf_32, L_turnsOf_32, partWith_ag h]
    refine kIte (R := fun a b : Int32 × Nat × (Nat → Int32) × Nat × (Nat → Int32) × (Nat → Int32) × Int32 => a.1 = b.1) (fun _ => ?_) (fun _ => L_turns_ag n _ _ _ _ _ _ _ _ _ _ _ h ht)
    simp only [bd]
    rw [parts_ag h ht (x := x) (y := y) (p := p) (q := q)]
    rw [waysOf_ag h ht (x := (P_partsLike fa K K fb x p (P_partWith fa' (nI i)) s).2.1) (y := (P_partsLike fa' K K fb' y q (P_partWith fa' (nI i)) s).2.1) (p := (P_partsLike fa K K fb x p (P_partWith fa' (nI i)) s).2.2) (q := (P_partsLike fa' K K fb' y q (P_partWith fa' (nI i)) s).2.2)]
    exact L_turns_ag n _ _ _ _ _ _ _ _ _ _ _ h ht
theorem turns_ag {K KF KF' KT KT' : Nat} {f ff ff' tf tf' x y : Nat → Int32} {p q : Int32} : (P_turnsOf KF ff KT tf x p K f).1 = (P_turnsOf KF' ff' KT' tf' y q K f).1 := by
  unfold P_turnsOf
  refine kIte (R := fun a b : Int32 × Nat × (Nat → Int32) × Nat × (Nat → Int32) × (Nat → Int32) × Int32 => a.1 = b.1) (fun _ => rfl) (fun _ => ?_)
  exact L_turns_ag _ _ _ _ _ _ _ _ _ _ _ _ (near_ag (take_ag ff ff' f)) (near_ag (take_ag tf tf' f))
theorem L_alike_ag {K J : Nat} : ∀ (n i : Nat) (s l : Int32) (fa fa' fb fb' x y : Nat → Int32) (p q : Int32), P_nearOf fa = P_nearOf fa' → P_nearOf fb = P_nearOf fb' →
    (L_areAlike_59 K J (fun seen left fa fb ia pa => if left = 0 then (1, K, fa, J, fb, ia, pa) else (0, K, fa, J, fb, ia, pa)) n i s l fa fb x p).1 = (L_areAlike_59 K J (fun seen left fa fb ia pa => if left = 0 then (1, K, fa, J, fb, ia, pa) else (0, K, fa, J, fb, ia, pa)) n i s l fa' fb' y q).1
  | 0, _, _, _, _, _, _, _, _, _, _, _, _, _ => by
    rw [L_areAlike_59, L_areAlike_59]
    exact kIte (R := fun a b : Int32 × Nat × (Nat → Int32) × Nat × (Nat → Int32) × (Nat → Int32) × Int32 => a.1 = b.1) (fun _ => rfl) (fun _ => rfl)
  | n + 1, i, s, l, fa, fa', fb, fb', x, y, p, q, h, ht => by
    rw [L_areAlike_59, L_areAlike_59, partWith_ag h]
    refine kIte (R := fun a b : Int32 × Nat × (Nat → Int32) × Nat × (Nat → Int32) × (Nat → Int32) × Int32 => a.1 = b.1) (fun _ => ?_) (fun _ => L_alike_ag n _ _ _ _ _ _ _ _ _ _ _ h ht)
    simp only [bd]
    rw [match_ag h ht (x := x) (y := y) (p := p) (q := q)]
    exact kIte (R := fun a b : Int32 × Nat × (Nat → Int32) × Nat × (Nat → Int32) × (Nat → Int32) × Int32 => a.1 = b.1) (fun _ => rfl) (fun _ => L_alike_ag n _ _ _ _ _ _ _ _ _ _ _ h ht)
theorem alike_ag {K J KF KF' KT KT' : Nat} {f g ff ff' tf tf' x y : Nat → Int32} {p q : Int32} : (P_areAlike KF ff KT tf x p K f J g).1 = (P_areAlike KF' ff' KT' tf' y q K f J g).1 := by
  unfold P_areAlike
  refine kIte (R := fun a b : Int32 × Nat × (Nat → Int32) × Nat × (Nat → Int32) × (Nat → Int32) × Int32 => a.1 = b.1) (fun _ => ?_) (fun _ => rfl)
  refine kIte (R := fun a b : Int32 × Nat × (Nat → Int32) × Nat × (Nat → Int32) × (Nat → Int32) × Int32 => a.1 = b.1) (fun _ => ?_) (fun _ => rfl)
  exact L_alike_ag _ _ _ _ _ _ _ _ _ _ _ _ (near_ag (take_ag ff ff' f)) (near_ag (take_ag tf tf' g))
/-- whether they are alike, whatever lies in the working places -/
def kAl (K : Nat) (f : Nat → Int32) (J : Nat) (g : Nat → Int32) : Int32 := (P_areAlike 0 (fun _ => 0) 0 (fun _ => 0) (fun _ => 0) 0 K f J g).1
theorem isAlike_val {K J KF KT : Nat} {f g ff tf x : Nat → Int32} {p : Int32} : (P_isAlike KF ff KT tf x p K f J g).1 = kAl K f J g := by
  show (P_areAlike KF ff KT tf x p K f J g).1 = _
  exact alike_ag
/-! rings -/
theorem L_walk_ag {K start : Nat} {cl : Int32} {cc : Nat} {rc : Int32 → Int32 → Nat → (Nat → Int32) → (Nat → Int32)} (hrc : ∀ a b c x y, ag 8 x y → ag 8 (rc a b c x) (rc a b c y)) : ∀ (n i : Nat) (o : Int32) (x y : Nat → Int32), ag 8 x y → ag 8 (L_walk_74 K start cl cc rc (fun _ tb => tb) n i o x) (L_walk_74 K start cl cc rc (fun _ tb => tb) n i o y)
  | 0, _, _, _, _, h => h
  | n + 1, i, o, x, y, h => by
    rw [L_walk_74, L_walk_74]
    exact kIte (R := ag 8) (fun _ => L_walk_ag hrc n _ _ _ _ h) (fun _ => L_walk_ag hrc n _ _ _ _ (hrc _ _ _ _ _ h))
theorem walk_ag {K start : Nat} {f : Nat → Int32} {most : Int32} : ∀ (n : Nat) (kn cl : Int32) (cc : Nat) (x y : Nat → Int32), ag 8 x y → ag 8 (P_walk K f start most n kn cl cc x) (P_walk K f start most n kn cl cc y)
  | 0, kn, cl, cc, x, y, h => by
    rw [P_walk, P_walk]
    exact kIte (R := ag 8) (fun _ => h) (fun _ => kIte (R := ag 8) (fun _ => h) (fun _ => h))
  | n + 1, kn, cl, cc, x, y, h => by
    rw [P_walk, P_walk]
    refine kIte (R := ag 8) (fun _ => h) (fun _ => kIte (R := ag 8) (fun _ => h) (fun _ => kIte (R := ag 8) (fun _ => ?_) (fun _ => h)))
    simp only [bd]
    have w : ∀ a : Int32, ag 8 (upd x (cc + 1) ((x (cc + 1)) + a)) (upd y (cc + 1) ((y (cc + 1)) + a)) := fun a => ag_upd h (fun z => by rw [h _ z])
    refine kIte (R := ag 8) (fun _ => kIte (R := ag 8) (fun _ => L_walk_ag (fun a b c x y h => walk_ag n a b c x y h) _ _ _ _ _ h) (fun _ => h)) (fun _ => kIte (R := ag 8) (fun _ => L_walk_ag (fun a b c x y h => walk_ag n a b c x y h) _ _ _ _ _ (w _)) (fun _ => w _))
theorem L_cr26_ag {K : Nat} {f : Nat → Int32} {len : Int32} : ∀ (n i : Nat) (x y : Nat → Int32), ag 8 x y → ag 8 (L_countRings_26 K f len (fun tz => tz) n i x) (L_countRings_26 K f len (fun tz => tz) n i y)
  | 0, _, _, _, h => h
  | n + 1, i, x, y, h => by
    rw [L_countRings_26, L_countRings_26]
    exact L_cr26_ag n _ _ _ (walk_ag _ _ _ _ _ _ h)
theorem L_cr2_ag {k : (Nat → Int32) → Nat → Int32} (hk : ∀ x y, ag 8 x y → ag 8 (k x) (k y)) : ∀ (n i : Nat) (x y : Nat → Int32), n + i = 8 → ag i x y → ag 8 (L_countRings_2 k n i x) (L_countRings_2 k n i y)
  | 0, i, x, y, e, h => hk _ _ (fun j hj => h j (by omega))
  | n + 1, i, x, y, e, h => by
    rw [L_countRings_2, L_countRings_2]
    refine L_cr2_ag hk n (i + 1) _ _ (by omega) (fun j hj => ?_)
    unfold upd
    by_cases c : j = i
    · rw [if_pos c, if_pos c]
    · rw [if_neg c, if_neg c]
      exact h j (by omega)
theorem tallied_ag {x y : Nat → Int32} {len : Int32} (h : ag 8 x y) : P_tallied x len = P_tallied y len := by
  unfold P_tallied
  refine kIte (R := Eq) (fun _ => rfl) (fun c1 => kIte (R := Eq) (fun _ => rfl) (fun c2 => ?_))
  exact congrArg (fun z => z / 2) (h _ (Nat.not_le.mp fun q => (kIn (N := 8) (n := 8) (by decide) c1 c2) (Or.inr q)))
theorem rings_same {K w : Nat} {f x y : Nat → Int32} (h1 : 3 ≤ w) (h2 : w ≤ 7) : ∃ v v', P_rings K f x (nI w) = Sum.inl v ∧ P_rings K f y (nI w) = Sum.inl v' ∧ v.1 = v'.1 := by
  unfold P_rings
  rw [if_neg (kOne (kWithin1 (lo := 3) (hi := 7) (a := 3) (b := 7) rfl rfl h1 h2 (by omega))), if_neg (kOne (kWithin1 (lo := 3) (hi := 7) (a := 3) (b := 7) rfl rfl h1 h2 (by omega)))]
  exact ⟨_, _, rfl, rfl, tallied_ag (L_cr2_ag (fun x y h => L_cr26_ag _ _ _ _ h) 8 0 x y rfl (fun j hj => by omega))⟩
/-! now -/
abbrev kN8 : Type := Int32 × Nat × (Nat → Int32) × Nat × (Nat → Int32) × (Nat → Int32) × Int32 × (Nat → Int32)
def RS (a b : kN8 ⊕ Nat) : Prop := ∃ v v' : kN8, a = Sum.inl v ∧ b = Sum.inl v' ∧ v.1 = v'.1
theorem now_same {K w KF KF' KT KT' : Nat} {f ff ff' tf tf' x y hu hu' : Nat → Int32} {km rf p q : Int32} (hw : w ≤ 10) : RS (P_now K f km rf KF ff KT tf x p hu (nI w)) (P_now K f km rf KF' ff' KT' tf' y q hu' (nI w)) := by
  unfold P_now
  rw [if_neg (kOne (kWithin1 (lo := 0) (hi := 10) (a := 0) (b := 10) rfl rfl (by omega) hw (by omega))), if_neg (kOne (kWithin1 (lo := 0) (hi := 10) (a := 0) (b := 10) rfl rfl (by omega) hw (by omega)))]
  refine kIte (R := RS) (fun _ => ⟨_, _, rfl, rfl, rfl⟩) (fun _ => ?_)
  refine kIte (R := RS) (fun _ => ⟨_, _, rfl, rfl, rfl⟩) (fun _ => ?_)
  refine kIte (R := RS) (fun _ => ⟨_, _, rfl, rfl, rfl⟩) (fun _ => ?_)
  refine kIte (R := RS) (fun _ => ⟨_, _, rfl, rfl, rfl⟩) (fun _ => ?_)
  refine kIte (R := RS) (fun _ => ⟨_, _, rfl, rfl, rfl⟩) (fun _ => ?_)
  refine kIte (R := RS) (fun _ => ⟨_, _, rfl, rfl, rfl⟩) (fun _ => ?_)
  refine kIte (R := RS) (fun _ => ⟨_, _, rfl, rfl, fewest_ag⟩) (fun _ => ?_)
  refine kIte (R := RS) (fun _ => ⟨_, _, rfl, rfl, turns_ag⟩) (fun _ => ?_)
  refine kIte (R := RS) (fun _ => ⟨_, _, rfl, rfl, rfl⟩) (fun _ => ?_)
  exact kIte (R := RS) (fun _ => ⟨_, _, rfl, rfl, rfl⟩) (fun _ => ⟨_, _, rfl, rfl, rfl⟩)
