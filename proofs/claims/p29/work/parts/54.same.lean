/-! the digest does not depend on the working places (printed by wip/gen/same.py) -/
def kSam (a b : Int64 × Nat × (Nat → Int32) × Nat × (Nat → Int32) × (Nat → Int32) × Int32 × (Nat → Int32) × (Nat → Int32)) : Prop := a.1 = b.1
theorem kSam_bd {α : Type} {x : α} {f g : α → Int64 × Nat × (Nat → Int32) × Nat × (Nat → Int32) × (Nat → Int32) × Int32 × (Nat → Int32) × (Nat → Int32)} (h : ∀ y, kSam (f y) (g y)) : kSam (bd x f) (bd x g) := h x
theorem L_dig0_6 {K : Nat} {f : Nat → Int32} {rf : Int32} {k k' : Int64 → Nat → (Nat → Int32) → Nat → (Nat → Int32) → (Nat → Int32) → Int32 → (Nat → Int32) → Int64 × Nat × (Nat → Int32) × Nat × (Nat → Int32) × (Nat → Int32) × Int32 × (Nat → Int32) × (Nat → Int32)} (hk : ∀ (s : Int64) (x1 : Nat) (y1 : Nat → Int32) (x2 : Nat) (y2 y3 : Nat → Int32) (x3 : Int32) (y4 : Nat → Int32) (x1' : Nat) (y1' : Nat → Int32) (x2' : Nat) (y2' y3' : Nat → Int32) (x3' : Int32) (y4' : Nat → Int32), kSam (k s x1 y1 x2 y2 y3 x3 y4) (k' s x1' y1' x2' y2' y3' x3' y4')) : ∀ (n i : Nat) (s : Int64) (x1 : Nat) (y1 : Nat → Int32) (x2 : Nat) (y2 y3 : Nat → Int32) (x3 : Int32) (y4 : Nat → Int32) (x1' : Nat) (y1' : Nat → Int32) (x2' : Nat) (y2' y3' : Nat → Int32) (x3' : Int32) (y4' : Nat → Int32), n + i = 11 → kSam (L_digest0_6 K f rf k n i s x1 y1 x2 y2 y3 x3 y4) (L_digest0_6 K f rf k' n i s x1' y1' x2' y2' y3' x3' y4')
  | 0, _, _, _, _, _, _, _, _, _, _, _, _, _, _, _, _, _ => hk _ _ _ _ _ _ _ _ _ _ _ _ _ _ _
  | n + 1, i, s, x1, y1, x2, y2, y3, x3, y4, x1', y1', x2', y2', y3', x3', y4', e => by
    rw [L_digest0_6, L_digest0_6]
    obtain ⟨v, v', e1, e2, e3⟩ := now_same (K := K) (f := f) (km := 0) (rf := rf) (w := i) (KF := x1) (KF' := x1') (ff := y1) (ff' := y1') (KT := x2) (KT' := x2') (tf := y2) (tf' := y2') (x := y3) (y := y3') (p := x3) (q := x3') (hu := y4) (hu' := y4') (by omega)
    rw [e1, e2]
    simp only [sbd, bd]
    rw [e3]
    exact L_dig0_6 hk n (i + 1) _ _ _ _ _ _ _ _ _ _ _ _ _ _ _ (by omega)
theorem L_dig0_33 {K : Nat} {f bw : Nat → Int32} {isOn cnt len stp sta pm bm : Int32} {k k' : Int64 → Nat → (Nat → Int32) → Nat → (Nat → Int32) → (Nat → Int32) → Int32 → (Nat → Int32) → Int64 × Nat × (Nat → Int32) × Nat × (Nat → Int32) × (Nat → Int32) × Int32 × (Nat → Int32) × (Nat → Int32)} (hk : ∀ (s : Int64) (x1 : Nat) (y1 : Nat → Int32) (x2 : Nat) (y2 y3 : Nat → Int32) (x3 : Int32) (y4 : Nat → Int32) (x1' : Nat) (y1' : Nat → Int32) (x2' : Nat) (y2' y3' : Nat → Int32) (x3' : Int32) (y4' : Nat → Int32), kSam (k s x1 y1 x2 y2 y3 x3 y4) (k' s x1' y1' x2' y2' y3' x3' y4')) : ∀ (n i : Nat) (s : Int64) (x1 : Nat) (y1 : Nat → Int32) (x2 : Nat) (y2 y3 : Nat → Int32) (x3 : Int32) (y4 : Nat → Int32) (x1' : Nat) (y1' : Nat → Int32) (x2' : Nat) (y2' y3' : Nat → Int32) (x3' : Int32) (y4' : Nat → Int32), n + i = 8 → kSam (L_digest0_33 K f bw isOn cnt len stp sta pm bm k n i s x1 y1 x2 y2 y3 x3 y4) (L_digest0_33 K f bw isOn cnt len stp sta pm bm k' n i s x1' y1' x2' y2' y3' x3' y4')
  | 0, _, _, _, _, _, _, _, _, _, _, _, _, _, _, _, _, _ => hk _ _ _ _ _ _ _ _ _ _ _ _ _ _ _
  | n + 1, i, s, x1, y1, x2, y2, y3, x3, y4, x1', y1', x2', y2', y3', x3', y4', e => by
    rw [L_digest0_33, L_digest0_33]
    obtain ⟨v, e1⟩ := P_search_ok (K := K) (f := f) (bw := bw) (isOn := isOn) (cnt := cnt) (len := len) (stp := stp) (sta := sta) (pm := pm) (bm := bm) (w := i) (by omega)
    rw [e1]
    simp only [sbd, bd]
    exact L_dig0_33 hk n (i + 1) _ _ _ _ _ _ _ _ _ _ _ _ _ _ _ (by omega)
theorem L_dig0_72 {K : Nat} {f : Nat → Int32} {k k' : Int64 → (Nat → Int32) → Nat → (Nat → Int32) → Nat → (Nat → Int32) → (Nat → Int32) → Int32 → (Nat → Int32) → Int64 × Nat × (Nat → Int32) × Nat × (Nat → Int32) × (Nat → Int32) × Int32 × (Nat → Int32) × (Nat → Int32)} (hk : ∀ (s : Int64) (tz tz' : Nat → Int32) (x1 : Nat) (y1 : Nat → Int32) (x2 : Nat) (y2 y3 : Nat → Int32) (x3 : Int32) (y4 : Nat → Int32) (x1' : Nat) (y1' : Nat → Int32) (x2' : Nat) (y2' y3' : Nat → Int32) (x3' : Int32) (y4' : Nat → Int32), kSam (k s tz x1 y1 x2 y2 y3 x3 y4) (k' s tz' x1' y1' x2' y2' y3' x3' y4')) : ∀ (n i : Nat) (s : Int64) (tz tz' : Nat → Int32) (x1 : Nat) (y1 : Nat → Int32) (x2 : Nat) (y2 y3 : Nat → Int32) (x3 : Int32) (y4 : Nat → Int32) (x1' : Nat) (y1' : Nat → Int32) (x2' : Nat) (y2' y3' : Nat → Int32) (x3' : Int32) (y4' : Nat → Int32), n + i = 8 → 3 ≤ i → kSam (L_digest0_72 K f k n i s tz x1 y1 x2 y2 y3 x3 y4) (L_digest0_72 K f k' n i s tz' x1' y1' x2' y2' y3' x3' y4')
  | 0, _, _, _, _, _, _, _, _, _, _, _, _, _, _, _, _, _, _, _, _ => hk _ _ _ _ _ _ _ _ _ _ _ _ _ _ _ _ _
  | n + 1, i, s, tz, tz', x1, y1, x2, y2, y3, x3, y4, x1', y1', x2', y2', y3', x3', y4', e, e0 => by
    rw [L_digest0_72, L_digest0_72]
    obtain ⟨v, v', e1, e2, e3⟩ := rings_same (K := K) (f := f) (w := i) (x := tz) (y := tz') (by omega) (by omega)
    rw [e1, e2]
    simp only [sbd, bd]
    rw [e3]
    exact L_dig0_72 hk n (i + 1) _ _ _ _ _ _ _ _ _ _ _ _ _ _ _ _ _ (by omega) (by omega)
theorem P_digest0_same {K : Nat} {f bw g t : Nat → Int32} {rf isOn cnt len stp sta pm bm : Int32} {KF KF' KT KT' : Nat} {ff ff' tf tf' im im' hu hu' ta ta' : Nat → Int32} {pl pl' : Int32} : kSam (P_digest0 K f rf bw isOn cnt len stp sta pm bm g t KF ff KT tf im pl hu ta) (P_digest0 K f rf bw isOn cnt len stp sta pm bm g t KF' ff' KT' tf' im' pl' hu' ta') := by
  rw [P_digest0, P_digest0]
  refine L_dig0_6 (fun s x1 y1 x2 y2 y3 x3 y4 x1' y1' x2' y2' y3' x3' y4' => ?_) 11 0 _ _ _ _ _ _ _ _ _ _ _ _ _ _ _ rfl
  refine L_dig0_33 (fun s x1 y1 x2 y2 y3 x3 y4 x1' y1' x2' y2' y3' x3' y4' => ?_) 8 0 _ _ _ _ _ _ _ _ _ _ _ _ _ _ _ rfl
  refine kSam_bd (fun q1 => kSam_bd (fun q2 => ?_))
  refine L_dig0_72 (fun s tz tz' x1 y1 x2 y2 y3 x3 y4 x1' y1' x2' y2' y3' x3' y4' => ?_) (8 - 3) 3 _ _ _ _ _ _ _ _ _ _ _ _ _ _ _ _ _ rfl (Nat.le_refl _)
  refine kSam_bd (fun q3 => ?_)
  exact kIte (R := kSam) (fun _ => rfl) (fun _ => rfl)
theorem L_dig1_6 {K : Nat} {f : Nat → Int32} {rf : Int32} {k k' : Int64 → Nat → (Nat → Int32) → Nat → (Nat → Int32) → (Nat → Int32) → Int32 → (Nat → Int32) → Int64 × Nat × (Nat → Int32) × Nat × (Nat → Int32) × (Nat → Int32) × Int32 × (Nat → Int32) × (Nat → Int32)} (hk : ∀ (s : Int64) (x1 : Nat) (y1 : Nat → Int32) (x2 : Nat) (y2 y3 : Nat → Int32) (x3 : Int32) (y4 : Nat → Int32) (x1' : Nat) (y1' : Nat → Int32) (x2' : Nat) (y2' y3' : Nat → Int32) (x3' : Int32) (y4' : Nat → Int32), kSam (k s x1 y1 x2 y2 y3 x3 y4) (k' s x1' y1' x2' y2' y3' x3' y4')) : ∀ (n i : Nat) (s : Int64) (x1 : Nat) (y1 : Nat → Int32) (x2 : Nat) (y2 y3 : Nat → Int32) (x3 : Int32) (y4 : Nat → Int32) (x1' : Nat) (y1' : Nat → Int32) (x2' : Nat) (y2' y3' : Nat → Int32) (x3' : Int32) (y4' : Nat → Int32), n + i = 11 → kSam (L_digest1_6 K f rf k n i s x1 y1 x2 y2 y3 x3 y4) (L_digest1_6 K f rf k' n i s x1' y1' x2' y2' y3' x3' y4')
  | 0, _, _, _, _, _, _, _, _, _, _, _, _, _, _, _, _, _ => hk _ _ _ _ _ _ _ _ _ _ _ _ _ _ _
  | n + 1, i, s, x1, y1, x2, y2, y3, x3, y4, x1', y1', x2', y2', y3', x3', y4', e => by
    rw [L_digest1_6, L_digest1_6]
    obtain ⟨v, v', e1, e2, e3⟩ := now_same (K := K) (f := f) (km := 1) (rf := rf) (w := i) (KF := x1) (KF' := x1') (ff := y1) (ff' := y1') (KT := x2) (KT' := x2') (tf := y2) (tf' := y2') (x := y3) (y := y3') (p := x3) (q := x3') (hu := y4) (hu' := y4') (by omega)
    rw [e1, e2]
    simp only [sbd, bd]
    rw [e3]
    exact L_dig1_6 hk n (i + 1) _ _ _ _ _ _ _ _ _ _ _ _ _ _ _ (by omega)
theorem L_dig1_33 {K : Nat} {f bw : Nat → Int32} {isOn cnt len stp sta pm bm : Int32} {k k' : Int64 → Nat → (Nat → Int32) → Nat → (Nat → Int32) → (Nat → Int32) → Int32 → (Nat → Int32) → Int64 × Nat × (Nat → Int32) × Nat × (Nat → Int32) × (Nat → Int32) × Int32 × (Nat → Int32) × (Nat → Int32)} (hk : ∀ (s : Int64) (x1 : Nat) (y1 : Nat → Int32) (x2 : Nat) (y2 y3 : Nat → Int32) (x3 : Int32) (y4 : Nat → Int32) (x1' : Nat) (y1' : Nat → Int32) (x2' : Nat) (y2' y3' : Nat → Int32) (x3' : Int32) (y4' : Nat → Int32), kSam (k s x1 y1 x2 y2 y3 x3 y4) (k' s x1' y1' x2' y2' y3' x3' y4')) : ∀ (n i : Nat) (s : Int64) (x1 : Nat) (y1 : Nat → Int32) (x2 : Nat) (y2 y3 : Nat → Int32) (x3 : Int32) (y4 : Nat → Int32) (x1' : Nat) (y1' : Nat → Int32) (x2' : Nat) (y2' y3' : Nat → Int32) (x3' : Int32) (y4' : Nat → Int32), n + i = 8 → kSam (L_digest1_33 K f bw isOn cnt len stp sta pm bm k n i s x1 y1 x2 y2 y3 x3 y4) (L_digest1_33 K f bw isOn cnt len stp sta pm bm k' n i s x1' y1' x2' y2' y3' x3' y4')
  | 0, _, _, _, _, _, _, _, _, _, _, _, _, _, _, _, _, _ => hk _ _ _ _ _ _ _ _ _ _ _ _ _ _ _
  | n + 1, i, s, x1, y1, x2, y2, y3, x3, y4, x1', y1', x2', y2', y3', x3', y4', e => by
    rw [L_digest1_33, L_digest1_33]
    obtain ⟨v, e1⟩ := P_search_ok (K := K) (f := f) (bw := bw) (isOn := isOn) (cnt := cnt) (len := len) (stp := stp) (sta := sta) (pm := pm) (bm := bm) (w := i) (by omega)
    rw [e1]
    simp only [sbd, bd]
    exact L_dig1_33 hk n (i + 1) _ _ _ _ _ _ _ _ _ _ _ _ _ _ _ (by omega)
theorem L_dig1_72 {K : Nat} {f : Nat → Int32} {k k' : Int64 → (Nat → Int32) → Nat → (Nat → Int32) → Nat → (Nat → Int32) → (Nat → Int32) → Int32 → (Nat → Int32) → Int64 × Nat × (Nat → Int32) × Nat × (Nat → Int32) × (Nat → Int32) × Int32 × (Nat → Int32) × (Nat → Int32)} (hk : ∀ (s : Int64) (tz tz' : Nat → Int32) (x1 : Nat) (y1 : Nat → Int32) (x2 : Nat) (y2 y3 : Nat → Int32) (x3 : Int32) (y4 : Nat → Int32) (x1' : Nat) (y1' : Nat → Int32) (x2' : Nat) (y2' y3' : Nat → Int32) (x3' : Int32) (y4' : Nat → Int32), kSam (k s tz x1 y1 x2 y2 y3 x3 y4) (k' s tz' x1' y1' x2' y2' y3' x3' y4')) : ∀ (n i : Nat) (s : Int64) (tz tz' : Nat → Int32) (x1 : Nat) (y1 : Nat → Int32) (x2 : Nat) (y2 y3 : Nat → Int32) (x3 : Int32) (y4 : Nat → Int32) (x1' : Nat) (y1' : Nat → Int32) (x2' : Nat) (y2' y3' : Nat → Int32) (x3' : Int32) (y4' : Nat → Int32), n + i = 8 → 3 ≤ i → kSam (L_digest1_72 K f k n i s tz x1 y1 x2 y2 y3 x3 y4) (L_digest1_72 K f k' n i s tz' x1' y1' x2' y2' y3' x3' y4')
  | 0, _, _, _, _, _, _, _, _, _, _, _, _, _, _, _, _, _, _, _, _ => hk _ _ _ _ _ _ _ _ _ _ _ _ _ _ _ _ _
  | n + 1, i, s, tz, tz', x1, y1, x2, y2, y3, x3, y4, x1', y1', x2', y2', y3', x3', y4', e, e0 => by
    rw [L_digest1_72, L_digest1_72]
    obtain ⟨v, v', e1, e2, e3⟩ := rings_same (K := K) (f := f) (w := i) (x := tz) (y := tz') (by omega) (by omega)
    rw [e1, e2]
    simp only [sbd, bd]
    rw [e3]
    exact L_dig1_72 hk n (i + 1) _ _ _ _ _ _ _ _ _ _ _ _ _ _ _ _ _ (by omega) (by omega)
theorem P_digest1_same {K : Nat} {f bw g t : Nat → Int32} {rf isOn cnt len stp sta pm bm : Int32} {J0 : Nat} {g0 : Nat → Int32} {KF KF' KT KT' : Nat} {ff ff' tf tf' im im' hu hu' ta ta' : Nat → Int32} {pl pl' : Int32} : kSam (P_digest1 K f rf bw isOn cnt len stp sta pm bm g t KF ff KT tf im pl hu ta J0 g0) (P_digest1 K f rf bw isOn cnt len stp sta pm bm g t KF' ff' KT' tf' im' pl' hu' ta' J0 g0) := by
  rw [P_digest1, P_digest1]
  refine L_dig1_6 (fun s x1 y1 x2 y2 y3 x3 y4 x1' y1' x2' y2' y3' x3' y4' => ?_) 11 0 _ _ _ _ _ _ _ _ _ _ _ _ _ _ _ rfl
  refine L_dig1_33 (fun s x1 y1 x2 y2 y3 x3 y4 x1' y1' x2' y2' y3' x3' y4' => ?_) 8 0 _ _ _ _ _ _ _ _ _ _ _ _ _ _ _ rfl
  refine kSam_bd (fun q1 => kSam_bd (fun q2 => ?_))
  refine L_dig1_72 (fun s tz tz' x1 y1 x2 y2 y3 x3 y4 x1' y1' x2' y2' y3' x3' y4' => ?_) (8 - 3) 3 _ _ _ _ _ _ _ _ _ _ _ _ _ _ _ _ _ rfl (Nat.le_refl _)
  refine kSam_bd (fun q3 => ?_)
  refine kIte (R := kSam) (fun _ => ?_) (fun _ => ?_) <;> simp only [kSam, bd, isAlike_val]
theorem L_dig2_6 {K : Nat} {f : Nat → Int32} {rf : Int32} {k k' : Int64 → Nat → (Nat → Int32) → Nat → (Nat → Int32) → (Nat → Int32) → Int32 → (Nat → Int32) → Int64 × Nat × (Nat → Int32) × Nat × (Nat → Int32) × (Nat → Int32) × Int32 × (Nat → Int32) × (Nat → Int32)} (hk : ∀ (s : Int64) (x1 : Nat) (y1 : Nat → Int32) (x2 : Nat) (y2 y3 : Nat → Int32) (x3 : Int32) (y4 : Nat → Int32) (x1' : Nat) (y1' : Nat → Int32) (x2' : Nat) (y2' y3' : Nat → Int32) (x3' : Int32) (y4' : Nat → Int32), kSam (k s x1 y1 x2 y2 y3 x3 y4) (k' s x1' y1' x2' y2' y3' x3' y4')) : ∀ (n i : Nat) (s : Int64) (x1 : Nat) (y1 : Nat → Int32) (x2 : Nat) (y2 y3 : Nat → Int32) (x3 : Int32) (y4 : Nat → Int32) (x1' : Nat) (y1' : Nat → Int32) (x2' : Nat) (y2' y3' : Nat → Int32) (x3' : Int32) (y4' : Nat → Int32), n + i = 11 → kSam (L_digest2_6 K f rf k n i s x1 y1 x2 y2 y3 x3 y4) (L_digest2_6 K f rf k' n i s x1' y1' x2' y2' y3' x3' y4')
  | 0, _, _, _, _, _, _, _, _, _, _, _, _, _, _, _, _, _ => hk _ _ _ _ _ _ _ _ _ _ _ _ _ _ _
  | n + 1, i, s, x1, y1, x2, y2, y3, x3, y4, x1', y1', x2', y2', y3', x3', y4', e => by
    rw [L_digest2_6, L_digest2_6]
    obtain ⟨v, v', e1, e2, e3⟩ := now_same (K := K) (f := f) (km := 2) (rf := rf) (w := i) (KF := x1) (KF' := x1') (ff := y1) (ff' := y1') (KT := x2) (KT' := x2') (tf := y2) (tf' := y2') (x := y3) (y := y3') (p := x3) (q := x3') (hu := y4) (hu' := y4') (by omega)
    rw [e1, e2]
    simp only [sbd, bd]
    rw [e3]
    exact L_dig2_6 hk n (i + 1) _ _ _ _ _ _ _ _ _ _ _ _ _ _ _ (by omega)
theorem L_dig2_33 {K : Nat} {f bw : Nat → Int32} {isOn cnt len stp sta pm bm : Int32} {k k' : Int64 → Nat → (Nat → Int32) → Nat → (Nat → Int32) → (Nat → Int32) → Int32 → (Nat → Int32) → Int64 × Nat × (Nat → Int32) × Nat × (Nat → Int32) × (Nat → Int32) × Int32 × (Nat → Int32) × (Nat → Int32)} (hk : ∀ (s : Int64) (x1 : Nat) (y1 : Nat → Int32) (x2 : Nat) (y2 y3 : Nat → Int32) (x3 : Int32) (y4 : Nat → Int32) (x1' : Nat) (y1' : Nat → Int32) (x2' : Nat) (y2' y3' : Nat → Int32) (x3' : Int32) (y4' : Nat → Int32), kSam (k s x1 y1 x2 y2 y3 x3 y4) (k' s x1' y1' x2' y2' y3' x3' y4')) : ∀ (n i : Nat) (s : Int64) (x1 : Nat) (y1 : Nat → Int32) (x2 : Nat) (y2 y3 : Nat → Int32) (x3 : Int32) (y4 : Nat → Int32) (x1' : Nat) (y1' : Nat → Int32) (x2' : Nat) (y2' y3' : Nat → Int32) (x3' : Int32) (y4' : Nat → Int32), n + i = 8 → kSam (L_digest2_33 K f bw isOn cnt len stp sta pm bm k n i s x1 y1 x2 y2 y3 x3 y4) (L_digest2_33 K f bw isOn cnt len stp sta pm bm k' n i s x1' y1' x2' y2' y3' x3' y4')
  | 0, _, _, _, _, _, _, _, _, _, _, _, _, _, _, _, _, _ => hk _ _ _ _ _ _ _ _ _ _ _ _ _ _ _
  | n + 1, i, s, x1, y1, x2, y2, y3, x3, y4, x1', y1', x2', y2', y3', x3', y4', e => by
    rw [L_digest2_33, L_digest2_33]
    obtain ⟨v, e1⟩ := P_search_ok (K := K) (f := f) (bw := bw) (isOn := isOn) (cnt := cnt) (len := len) (stp := stp) (sta := sta) (pm := pm) (bm := bm) (w := i) (by omega)
    rw [e1]
    simp only [sbd, bd]
    exact L_dig2_33 hk n (i + 1) _ _ _ _ _ _ _ _ _ _ _ _ _ _ _ (by omega)
theorem L_dig2_72 {K : Nat} {f : Nat → Int32} {k k' : Int64 → (Nat → Int32) → Nat → (Nat → Int32) → Nat → (Nat → Int32) → (Nat → Int32) → Int32 → (Nat → Int32) → Int64 × Nat × (Nat → Int32) × Nat × (Nat → Int32) × (Nat → Int32) × Int32 × (Nat → Int32) × (Nat → Int32)} (hk : ∀ (s : Int64) (tz tz' : Nat → Int32) (x1 : Nat) (y1 : Nat → Int32) (x2 : Nat) (y2 y3 : Nat → Int32) (x3 : Int32) (y4 : Nat → Int32) (x1' : Nat) (y1' : Nat → Int32) (x2' : Nat) (y2' y3' : Nat → Int32) (x3' : Int32) (y4' : Nat → Int32), kSam (k s tz x1 y1 x2 y2 y3 x3 y4) (k' s tz' x1' y1' x2' y2' y3' x3' y4')) : ∀ (n i : Nat) (s : Int64) (tz tz' : Nat → Int32) (x1 : Nat) (y1 : Nat → Int32) (x2 : Nat) (y2 y3 : Nat → Int32) (x3 : Int32) (y4 : Nat → Int32) (x1' : Nat) (y1' : Nat → Int32) (x2' : Nat) (y2' y3' : Nat → Int32) (x3' : Int32) (y4' : Nat → Int32), n + i = 8 → 3 ≤ i → kSam (L_digest2_72 K f k n i s tz x1 y1 x2 y2 y3 x3 y4) (L_digest2_72 K f k' n i s tz' x1' y1' x2' y2' y3' x3' y4')
  | 0, _, _, _, _, _, _, _, _, _, _, _, _, _, _, _, _, _, _, _, _ => hk _ _ _ _ _ _ _ _ _ _ _ _ _ _ _ _ _
  | n + 1, i, s, tz, tz', x1, y1, x2, y2, y3, x3, y4, x1', y1', x2', y2', y3', x3', y4', e, e0 => by
    rw [L_digest2_72, L_digest2_72]
    obtain ⟨v, v', e1, e2, e3⟩ := rings_same (K := K) (f := f) (w := i) (x := tz) (y := tz') (by omega) (by omega)
    rw [e1, e2]
    simp only [sbd, bd]
    rw [e3]
    exact L_dig2_72 hk n (i + 1) _ _ _ _ _ _ _ _ _ _ _ _ _ _ _ _ _ (by omega) (by omega)
theorem P_digest2_same {K : Nat} {f bw g t : Nat → Int32} {rf isOn cnt len stp sta pm bm : Int32} {J0 : Nat} {g0 : Nat → Int32} {J1 : Nat} {g1 : Nat → Int32} {KF KF' KT KT' : Nat} {ff ff' tf tf' im im' hu hu' ta ta' : Nat → Int32} {pl pl' : Int32} : kSam (P_digest2 K f rf bw isOn cnt len stp sta pm bm g t KF ff KT tf im pl hu ta J0 g0 J1 g1) (P_digest2 K f rf bw isOn cnt len stp sta pm bm g t KF' ff' KT' tf' im' pl' hu' ta' J0 g0 J1 g1) := by
  rw [P_digest2, P_digest2]
  refine L_dig2_6 (fun s x1 y1 x2 y2 y3 x3 y4 x1' y1' x2' y2' y3' x3' y4' => ?_) 11 0 _ _ _ _ _ _ _ _ _ _ _ _ _ _ _ rfl
  refine L_dig2_33 (fun s x1 y1 x2 y2 y3 x3 y4 x1' y1' x2' y2' y3' x3' y4' => ?_) 8 0 _ _ _ _ _ _ _ _ _ _ _ _ _ _ _ rfl
  refine kSam_bd (fun q1 => kSam_bd (fun q2 => ?_))
  refine L_dig2_72 (fun s tz tz' x1 y1 x2 y2 y3 x3 y4 x1' y1' x2' y2' y3' x3' y4' => ?_) (8 - 3) 3 _ _ _ _ _ _ _ _ _ _ _ _ _ _ _ _ _ rfl (Nat.le_refl _)
  refine kSam_bd (fun q3 => ?_)
  refine kIte (R := kSam) (fun _ => ?_) (fun _ => ?_) <;> simp only [kSam, bd, isAlike_val]
theorem L_dig3_6 {K : Nat} {f : Nat → Int32} {rf : Int32} {k k' : Int64 → Nat → (Nat → Int32) → Nat → (Nat → Int32) → (Nat → Int32) → Int32 → (Nat → Int32) → Int64 × Nat × (Nat → Int32) × Nat × (Nat → Int32) × (Nat → Int32) × Int32 × (Nat → Int32) × (Nat → Int32)} (hk : ∀ (s : Int64) (x1 : Nat) (y1 : Nat → Int32) (x2 : Nat) (y2 y3 : Nat → Int32) (x3 : Int32) (y4 : Nat → Int32) (x1' : Nat) (y1' : Nat → Int32) (x2' : Nat) (y2' y3' : Nat → Int32) (x3' : Int32) (y4' : Nat → Int32), kSam (k s x1 y1 x2 y2 y3 x3 y4) (k' s x1' y1' x2' y2' y3' x3' y4')) : ∀ (n i : Nat) (s : Int64) (x1 : Nat) (y1 : Nat → Int32) (x2 : Nat) (y2 y3 : Nat → Int32) (x3 : Int32) (y4 : Nat → Int32) (x1' : Nat) (y1' : Nat → Int32) (x2' : Nat) (y2' y3' : Nat → Int32) (x3' : Int32) (y4' : Nat → Int32), n + i = 11 → kSam (L_digest3_6 K f rf k n i s x1 y1 x2 y2 y3 x3 y4) (L_digest3_6 K f rf k' n i s x1' y1' x2' y2' y3' x3' y4')
  | 0, _, _, _, _, _, _, _, _, _, _, _, _, _, _, _, _, _ => hk _ _ _ _ _ _ _ _ _ _ _ _ _ _ _
  | n + 1, i, s, x1, y1, x2, y2, y3, x3, y4, x1', y1', x2', y2', y3', x3', y4', e => by
    rw [L_digest3_6, L_digest3_6]
    obtain ⟨v, v', e1, e2, e3⟩ := now_same (K := K) (f := f) (km := 3) (rf := rf) (w := i) (KF := x1) (KF' := x1') (ff := y1) (ff' := y1') (KT := x2) (KT' := x2') (tf := y2) (tf' := y2') (x := y3) (y := y3') (p := x3) (q := x3') (hu := y4) (hu' := y4') (by omega)
    rw [e1, e2]
    simp only [sbd, bd]
    rw [e3]
    exact L_dig3_6 hk n (i + 1) _ _ _ _ _ _ _ _ _ _ _ _ _ _ _ (by omega)
theorem L_dig3_33 {K : Nat} {f bw : Nat → Int32} {isOn cnt len stp sta pm bm : Int32} {k k' : Int64 → Nat → (Nat → Int32) → Nat → (Nat → Int32) → (Nat → Int32) → Int32 → (Nat → Int32) → Int64 × Nat × (Nat → Int32) × Nat × (Nat → Int32) × (Nat → Int32) × Int32 × (Nat → Int32) × (Nat → Int32)} (hk : ∀ (s : Int64) (x1 : Nat) (y1 : Nat → Int32) (x2 : Nat) (y2 y3 : Nat → Int32) (x3 : Int32) (y4 : Nat → Int32) (x1' : Nat) (y1' : Nat → Int32) (x2' : Nat) (y2' y3' : Nat → Int32) (x3' : Int32) (y4' : Nat → Int32), kSam (k s x1 y1 x2 y2 y3 x3 y4) (k' s x1' y1' x2' y2' y3' x3' y4')) : ∀ (n i : Nat) (s : Int64) (x1 : Nat) (y1 : Nat → Int32) (x2 : Nat) (y2 y3 : Nat → Int32) (x3 : Int32) (y4 : Nat → Int32) (x1' : Nat) (y1' : Nat → Int32) (x2' : Nat) (y2' y3' : Nat → Int32) (x3' : Int32) (y4' : Nat → Int32), n + i = 8 → kSam (L_digest3_33 K f bw isOn cnt len stp sta pm bm k n i s x1 y1 x2 y2 y3 x3 y4) (L_digest3_33 K f bw isOn cnt len stp sta pm bm k' n i s x1' y1' x2' y2' y3' x3' y4')
  | 0, _, _, _, _, _, _, _, _, _, _, _, _, _, _, _, _, _ => hk _ _ _ _ _ _ _ _ _ _ _ _ _ _ _
  | n + 1, i, s, x1, y1, x2, y2, y3, x3, y4, x1', y1', x2', y2', y3', x3', y4', e => by
    rw [L_digest3_33, L_digest3_33]
    obtain ⟨v, e1⟩ := P_search_ok (K := K) (f := f) (bw := bw) (isOn := isOn) (cnt := cnt) (len := len) (stp := stp) (sta := sta) (pm := pm) (bm := bm) (w := i) (by omega)
    rw [e1]
    simp only [sbd, bd]
    exact L_dig3_33 hk n (i + 1) _ _ _ _ _ _ _ _ _ _ _ _ _ _ _ (by omega)
theorem L_dig3_72 {K : Nat} {f : Nat → Int32} {k k' : Int64 → (Nat → Int32) → Nat → (Nat → Int32) → Nat → (Nat → Int32) → (Nat → Int32) → Int32 → (Nat → Int32) → Int64 × Nat × (Nat → Int32) × Nat × (Nat → Int32) × (Nat → Int32) × Int32 × (Nat → Int32) × (Nat → Int32)} (hk : ∀ (s : Int64) (tz tz' : Nat → Int32) (x1 : Nat) (y1 : Nat → Int32) (x2 : Nat) (y2 y3 : Nat → Int32) (x3 : Int32) (y4 : Nat → Int32) (x1' : Nat) (y1' : Nat → Int32) (x2' : Nat) (y2' y3' : Nat → Int32) (x3' : Int32) (y4' : Nat → Int32), kSam (k s tz x1 y1 x2 y2 y3 x3 y4) (k' s tz' x1' y1' x2' y2' y3' x3' y4')) : ∀ (n i : Nat) (s : Int64) (tz tz' : Nat → Int32) (x1 : Nat) (y1 : Nat → Int32) (x2 : Nat) (y2 y3 : Nat → Int32) (x3 : Int32) (y4 : Nat → Int32) (x1' : Nat) (y1' : Nat → Int32) (x2' : Nat) (y2' y3' : Nat → Int32) (x3' : Int32) (y4' : Nat → Int32), n + i = 8 → 3 ≤ i → kSam (L_digest3_72 K f k n i s tz x1 y1 x2 y2 y3 x3 y4) (L_digest3_72 K f k' n i s tz' x1' y1' x2' y2' y3' x3' y4')
  | 0, _, _, _, _, _, _, _, _, _, _, _, _, _, _, _, _, _, _, _, _ => hk _ _ _ _ _ _ _ _ _ _ _ _ _ _ _ _ _
  | n + 1, i, s, tz, tz', x1, y1, x2, y2, y3, x3, y4, x1', y1', x2', y2', y3', x3', y4', e, e0 => by
    rw [L_digest3_72, L_digest3_72]
    obtain ⟨v, v', e1, e2, e3⟩ := rings_same (K := K) (f := f) (w := i) (x := tz) (y := tz') (by omega) (by omega)
    rw [e1, e2]
    simp only [sbd, bd]
    rw [e3]
    exact L_dig3_72 hk n (i + 1) _ _ _ _ _ _ _ _ _ _ _ _ _ _ _ _ _ (by omega) (by omega)
theorem P_digest3_same {K : Nat} {f bw g t : Nat → Int32} {rf isOn cnt len stp sta pm bm : Int32} {J0 : Nat} {g0 : Nat → Int32} {J1 : Nat} {g1 : Nat → Int32} {J2 : Nat} {g2 : Nat → Int32} {KF KF' KT KT' : Nat} {ff ff' tf tf' im im' hu hu' ta ta' : Nat → Int32} {pl pl' : Int32} : kSam (P_digest3 K f rf bw isOn cnt len stp sta pm bm g t KF ff KT tf im pl hu ta J0 g0 J1 g1 J2 g2) (P_digest3 K f rf bw isOn cnt len stp sta pm bm g t KF' ff' KT' tf' im' pl' hu' ta' J0 g0 J1 g1 J2 g2) := by
  rw [P_digest3, P_digest3]
  refine L_dig3_6 (fun s x1 y1 x2 y2 y3 x3 y4 x1' y1' x2' y2' y3' x3' y4' => ?_) 11 0 _ _ _ _ _ _ _ _ _ _ _ _ _ _ _ rfl
  refine L_dig3_33 (fun s x1 y1 x2 y2 y3 x3 y4 x1' y1' x2' y2' y3' x3' y4' => ?_) 8 0 _ _ _ _ _ _ _ _ _ _ _ _ _ _ _ rfl
  refine kSam_bd (fun q1 => kSam_bd (fun q2 => ?_))
  refine L_dig3_72 (fun s tz tz' x1 y1 x2 y2 y3 x3 y4 x1' y1' x2' y2' y3' x3' y4' => ?_) (8 - 3) 3 _ _ _ _ _ _ _ _ _ _ _ _ _ _ _ _ _ rfl (Nat.le_refl _)
  refine kSam_bd (fun q3 => ?_)
  refine kIte (R := kSam) (fun _ => ?_) (fun _ => ?_) <;> simp only [kSam, bd, isAlike_val]
theorem L_dig4_6 {K : Nat} {f : Nat → Int32} {rf : Int32} {k k' : Int64 → Nat → (Nat → Int32) → Nat → (Nat → Int32) → (Nat → Int32) → Int32 → (Nat → Int32) → Int64 × Nat × (Nat → Int32) × Nat × (Nat → Int32) × (Nat → Int32) × Int32 × (Nat → Int32) × (Nat → Int32)} (hk : ∀ (s : Int64) (x1 : Nat) (y1 : Nat → Int32) (x2 : Nat) (y2 y3 : Nat → Int32) (x3 : Int32) (y4 : Nat → Int32) (x1' : Nat) (y1' : Nat → Int32) (x2' : Nat) (y2' y3' : Nat → Int32) (x3' : Int32) (y4' : Nat → Int32), kSam (k s x1 y1 x2 y2 y3 x3 y4) (k' s x1' y1' x2' y2' y3' x3' y4')) : ∀ (n i : Nat) (s : Int64) (x1 : Nat) (y1 : Nat → Int32) (x2 : Nat) (y2 y3 : Nat → Int32) (x3 : Int32) (y4 : Nat → Int32) (x1' : Nat) (y1' : Nat → Int32) (x2' : Nat) (y2' y3' : Nat → Int32) (x3' : Int32) (y4' : Nat → Int32), n + i = 11 → kSam (L_digest4_6 K f rf k n i s x1 y1 x2 y2 y3 x3 y4) (L_digest4_6 K f rf k' n i s x1' y1' x2' y2' y3' x3' y4')
  | 0, _, _, _, _, _, _, _, _, _, _, _, _, _, _, _, _, _ => hk _ _ _ _ _ _ _ _ _ _ _ _ _ _ _
  | n + 1, i, s, x1, y1, x2, y2, y3, x3, y4, x1', y1', x2', y2', y3', x3', y4', e => by
    rw [L_digest4_6, L_digest4_6]
    obtain ⟨v, v', e1, e2, e3⟩ := now_same (K := K) (f := f) (km := 4) (rf := rf) (w := i) (KF := x1) (KF' := x1') (ff := y1) (ff' := y1') (KT := x2) (KT' := x2') (tf := y2) (tf' := y2') (x := y3) (y := y3') (p := x3) (q := x3') (hu := y4) (hu' := y4') (by omega)
    rw [e1, e2]
    simp only [sbd, bd]
    rw [e3]
    exact L_dig4_6 hk n (i + 1) _ _ _ _ _ _ _ _ _ _ _ _ _ _ _ (by omega)
theorem L_dig4_33 {K : Nat} {f bw : Nat → Int32} {isOn cnt len stp sta pm bm : Int32} {k k' : Int64 → Nat → (Nat → Int32) → Nat → (Nat → Int32) → (Nat → Int32) → Int32 → (Nat → Int32) → Int64 × Nat × (Nat → Int32) × Nat × (Nat → Int32) × (Nat → Int32) × Int32 × (Nat → Int32) × (Nat → Int32)} (hk : ∀ (s : Int64) (x1 : Nat) (y1 : Nat → Int32) (x2 : Nat) (y2 y3 : Nat → Int32) (x3 : Int32) (y4 : Nat → Int32) (x1' : Nat) (y1' : Nat → Int32) (x2' : Nat) (y2' y3' : Nat → Int32) (x3' : Int32) (y4' : Nat → Int32), kSam (k s x1 y1 x2 y2 y3 x3 y4) (k' s x1' y1' x2' y2' y3' x3' y4')) : ∀ (n i : Nat) (s : Int64) (x1 : Nat) (y1 : Nat → Int32) (x2 : Nat) (y2 y3 : Nat → Int32) (x3 : Int32) (y4 : Nat → Int32) (x1' : Nat) (y1' : Nat → Int32) (x2' : Nat) (y2' y3' : Nat → Int32) (x3' : Int32) (y4' : Nat → Int32), n + i = 8 → kSam (L_digest4_33 K f bw isOn cnt len stp sta pm bm k n i s x1 y1 x2 y2 y3 x3 y4) (L_digest4_33 K f bw isOn cnt len stp sta pm bm k' n i s x1' y1' x2' y2' y3' x3' y4')
  | 0, _, _, _, _, _, _, _, _, _, _, _, _, _, _, _, _, _ => hk _ _ _ _ _ _ _ _ _ _ _ _ _ _ _
  | n + 1, i, s, x1, y1, x2, y2, y3, x3, y4, x1', y1', x2', y2', y3', x3', y4', e => by
    rw [L_digest4_33, L_digest4_33]
    obtain ⟨v, e1⟩ := P_search_ok (K := K) (f := f) (bw := bw) (isOn := isOn) (cnt := cnt) (len := len) (stp := stp) (sta := sta) (pm := pm) (bm := bm) (w := i) (by omega)
    rw [e1]
    simp only [sbd, bd]
    exact L_dig4_33 hk n (i + 1) _ _ _ _ _ _ _ _ _ _ _ _ _ _ _ (by omega)
theorem L_dig4_72 {K : Nat} {f : Nat → Int32} {k k' : Int64 → (Nat → Int32) → Nat → (Nat → Int32) → Nat → (Nat → Int32) → (Nat → Int32) → Int32 → (Nat → Int32) → Int64 × Nat × (Nat → Int32) × Nat × (Nat → Int32) × (Nat → Int32) × Int32 × (Nat → Int32) × (Nat → Int32)} (hk : ∀ (s : Int64) (tz tz' : Nat → Int32) (x1 : Nat) (y1 : Nat → Int32) (x2 : Nat) (y2 y3 : Nat → Int32) (x3 : Int32) (y4 : Nat → Int32) (x1' : Nat) (y1' : Nat → Int32) (x2' : Nat) (y2' y3' : Nat → Int32) (x3' : Int32) (y4' : Nat → Int32), kSam (k s tz x1 y1 x2 y2 y3 x3 y4) (k' s tz' x1' y1' x2' y2' y3' x3' y4')) : ∀ (n i : Nat) (s : Int64) (tz tz' : Nat → Int32) (x1 : Nat) (y1 : Nat → Int32) (x2 : Nat) (y2 y3 : Nat → Int32) (x3 : Int32) (y4 : Nat → Int32) (x1' : Nat) (y1' : Nat → Int32) (x2' : Nat) (y2' y3' : Nat → Int32) (x3' : Int32) (y4' : Nat → Int32), n + i = 8 → 3 ≤ i → kSam (L_digest4_72 K f k n i s tz x1 y1 x2 y2 y3 x3 y4) (L_digest4_72 K f k' n i s tz' x1' y1' x2' y2' y3' x3' y4')
  | 0, _, _, _, _, _, _, _, _, _, _, _, _, _, _, _, _, _, _, _, _ => hk _ _ _ _ _ _ _ _ _ _ _ _ _ _ _ _ _
  | n + 1, i, s, tz, tz', x1, y1, x2, y2, y3, x3, y4, x1', y1', x2', y2', y3', x3', y4', e, e0 => by
    rw [L_digest4_72, L_digest4_72]
    obtain ⟨v, v', e1, e2, e3⟩ := rings_same (K := K) (f := f) (w := i) (x := tz) (y := tz') (by omega) (by omega)
    rw [e1, e2]
    simp only [sbd, bd]
    rw [e3]
    exact L_dig4_72 hk n (i + 1) _ _ _ _ _ _ _ _ _ _ _ _ _ _ _ _ _ (by omega) (by omega)
theorem P_digest4_same {K : Nat} {f bw g t : Nat → Int32} {rf isOn cnt len stp sta pm bm : Int32} {J0 : Nat} {g0 : Nat → Int32} {J1 : Nat} {g1 : Nat → Int32} {J2 : Nat} {g2 : Nat → Int32} {J3 : Nat} {g3 : Nat → Int32} {KF KF' KT KT' : Nat} {ff ff' tf tf' im im' hu hu' ta ta' : Nat → Int32} {pl pl' : Int32} : kSam (P_digest4 K f rf bw isOn cnt len stp sta pm bm g t KF ff KT tf im pl hu ta J0 g0 J1 g1 J2 g2 J3 g3) (P_digest4 K f rf bw isOn cnt len stp sta pm bm g t KF' ff' KT' tf' im' pl' hu' ta' J0 g0 J1 g1 J2 g2 J3 g3) := by
  rw [P_digest4, P_digest4]
  refine L_dig4_6 (fun s x1 y1 x2 y2 y3 x3 y4 x1' y1' x2' y2' y3' x3' y4' => ?_) 11 0 _ _ _ _ _ _ _ _ _ _ _ _ _ _ _ rfl
  refine L_dig4_33 (fun s x1 y1 x2 y2 y3 x3 y4 x1' y1' x2' y2' y3' x3' y4' => ?_) 8 0 _ _ _ _ _ _ _ _ _ _ _ _ _ _ _ rfl
  refine kSam_bd (fun q1 => kSam_bd (fun q2 => ?_))
  refine L_dig4_72 (fun s tz tz' x1 y1 x2 y2 y3 x3 y4 x1' y1' x2' y2' y3' x3' y4' => ?_) (8 - 3) 3 _ _ _ _ _ _ _ _ _ _ _ _ _ _ _ _ _ rfl (Nat.le_refl _)
  refine kSam_bd (fun q3 => ?_)
  refine kIte (R := kSam) (fun _ => ?_) (fun _ => ?_) <;> simp only [kSam, bd, isAlike_val]
theorem L_dig5_6 {K : Nat} {f : Nat → Int32} {rf : Int32} {k k' : Int64 → Nat → (Nat → Int32) → Nat → (Nat → Int32) → (Nat → Int32) → Int32 → (Nat → Int32) → Int64 × Nat × (Nat → Int32) × Nat × (Nat → Int32) × (Nat → Int32) × Int32 × (Nat → Int32) × (Nat → Int32)} (hk : ∀ (s : Int64) (x1 : Nat) (y1 : Nat → Int32) (x2 : Nat) (y2 y3 : Nat → Int32) (x3 : Int32) (y4 : Nat → Int32) (x1' : Nat) (y1' : Nat → Int32) (x2' : Nat) (y2' y3' : Nat → Int32) (x3' : Int32) (y4' : Nat → Int32), kSam (k s x1 y1 x2 y2 y3 x3 y4) (k' s x1' y1' x2' y2' y3' x3' y4')) : ∀ (n i : Nat) (s : Int64) (x1 : Nat) (y1 : Nat → Int32) (x2 : Nat) (y2 y3 : Nat → Int32) (x3 : Int32) (y4 : Nat → Int32) (x1' : Nat) (y1' : Nat → Int32) (x2' : Nat) (y2' y3' : Nat → Int32) (x3' : Int32) (y4' : Nat → Int32), n + i = 11 → kSam (L_digest5_6 K f rf k n i s x1 y1 x2 y2 y3 x3 y4) (L_digest5_6 K f rf k' n i s x1' y1' x2' y2' y3' x3' y4')
  | 0, _, _, _, _, _, _, _, _, _, _, _, _, _, _, _, _, _ => hk _ _ _ _ _ _ _ _ _ _ _ _ _ _ _
  | n + 1, i, s, x1, y1, x2, y2, y3, x3, y4, x1', y1', x2', y2', y3', x3', y4', e => by
    rw [L_digest5_6, L_digest5_6]
    obtain ⟨v, v', e1, e2, e3⟩ := now_same (K := K) (f := f) (km := 5) (rf := rf) (w := i) (KF := x1) (KF' := x1') (ff := y1) (ff' := y1') (KT := x2) (KT' := x2') (tf := y2) (tf' := y2') (x := y3) (y := y3') (p := x3) (q := x3') (hu := y4) (hu' := y4') (by omega)
    rw [e1, e2]
    simp only [sbd, bd]
    rw [e3]
    exact L_dig5_6 hk n (i + 1) _ _ _ _ _ _ _ _ _ _ _ _ _ _ _ (by omega)
theorem L_dig5_33 {K : Nat} {f bw : Nat → Int32} {isOn cnt len stp sta pm bm : Int32} {k k' : Int64 → Nat → (Nat → Int32) → Nat → (Nat → Int32) → (Nat → Int32) → Int32 → (Nat → Int32) → Int64 × Nat × (Nat → Int32) × Nat × (Nat → Int32) × (Nat → Int32) × Int32 × (Nat → Int32) × (Nat → Int32)} (hk : ∀ (s : Int64) (x1 : Nat) (y1 : Nat → Int32) (x2 : Nat) (y2 y3 : Nat → Int32) (x3 : Int32) (y4 : Nat → Int32) (x1' : Nat) (y1' : Nat → Int32) (x2' : Nat) (y2' y3' : Nat → Int32) (x3' : Int32) (y4' : Nat → Int32), kSam (k s x1 y1 x2 y2 y3 x3 y4) (k' s x1' y1' x2' y2' y3' x3' y4')) : ∀ (n i : Nat) (s : Int64) (x1 : Nat) (y1 : Nat → Int32) (x2 : Nat) (y2 y3 : Nat → Int32) (x3 : Int32) (y4 : Nat → Int32) (x1' : Nat) (y1' : Nat → Int32) (x2' : Nat) (y2' y3' : Nat → Int32) (x3' : Int32) (y4' : Nat → Int32), n + i = 8 → kSam (L_digest5_33 K f bw isOn cnt len stp sta pm bm k n i s x1 y1 x2 y2 y3 x3 y4) (L_digest5_33 K f bw isOn cnt len stp sta pm bm k' n i s x1' y1' x2' y2' y3' x3' y4')
  | 0, _, _, _, _, _, _, _, _, _, _, _, _, _, _, _, _, _ => hk _ _ _ _ _ _ _ _ _ _ _ _ _ _ _
  | n + 1, i, s, x1, y1, x2, y2, y3, x3, y4, x1', y1', x2', y2', y3', x3', y4', e => by
    rw [L_digest5_33, L_digest5_33]
    obtain ⟨v, e1⟩ := P_search_ok (K := K) (f := f) (bw := bw) (isOn := isOn) (cnt := cnt) (len := len) (stp := stp) (sta := sta) (pm := pm) (bm := bm) (w := i) (by omega)
    rw [e1]
    simp only [sbd, bd]
    exact L_dig5_33 hk n (i + 1) _ _ _ _ _ _ _ _ _ _ _ _ _ _ _ (by omega)
theorem L_dig5_72 {K : Nat} {f : Nat → Int32} {k k' : Int64 → (Nat → Int32) → Nat → (Nat → Int32) → Nat → (Nat → Int32) → (Nat → Int32) → Int32 → (Nat → Int32) → Int64 × Nat × (Nat → Int32) × Nat × (Nat → Int32) × (Nat → Int32) × Int32 × (Nat → Int32) × (Nat → Int32)} (hk : ∀ (s : Int64) (tz tz' : Nat → Int32) (x1 : Nat) (y1 : Nat → Int32) (x2 : Nat) (y2 y3 : Nat → Int32) (x3 : Int32) (y4 : Nat → Int32) (x1' : Nat) (y1' : Nat → Int32) (x2' : Nat) (y2' y3' : Nat → Int32) (x3' : Int32) (y4' : Nat → Int32), kSam (k s tz x1 y1 x2 y2 y3 x3 y4) (k' s tz' x1' y1' x2' y2' y3' x3' y4')) : ∀ (n i : Nat) (s : Int64) (tz tz' : Nat → Int32) (x1 : Nat) (y1 : Nat → Int32) (x2 : Nat) (y2 y3 : Nat → Int32) (x3 : Int32) (y4 : Nat → Int32) (x1' : Nat) (y1' : Nat → Int32) (x2' : Nat) (y2' y3' : Nat → Int32) (x3' : Int32) (y4' : Nat → Int32), n + i = 8 → 3 ≤ i → kSam (L_digest5_72 K f k n i s tz x1 y1 x2 y2 y3 x3 y4) (L_digest5_72 K f k' n i s tz' x1' y1' x2' y2' y3' x3' y4')
  | 0, _, _, _, _, _, _, _, _, _, _, _, _, _, _, _, _, _, _, _, _ => hk _ _ _ _ _ _ _ _ _ _ _ _ _ _ _ _ _
  | n + 1, i, s, tz, tz', x1, y1, x2, y2, y3, x3, y4, x1', y1', x2', y2', y3', x3', y4', e, e0 => by
    rw [L_digest5_72, L_digest5_72]
    obtain ⟨v, v', e1, e2, e3⟩ := rings_same (K := K) (f := f) (w := i) (x := tz) (y := tz') (by omega) (by omega)
    rw [e1, e2]
    simp only [sbd, bd]
    rw [e3]
    exact L_dig5_72 hk n (i + 1) _ _ _ _ _ _ _ _ _ _ _ _ _ _ _ _ _ (by omega) (by omega)
theorem P_digest5_same {K : Nat} {f bw g t : Nat → Int32} {rf isOn cnt len stp sta pm bm : Int32} {J0 : Nat} {g0 : Nat → Int32} {J1 : Nat} {g1 : Nat → Int32} {J2 : Nat} {g2 : Nat → Int32} {J3 : Nat} {g3 : Nat → Int32} {J4 : Nat} {g4 : Nat → Int32} {KF KF' KT KT' : Nat} {ff ff' tf tf' im im' hu hu' ta ta' : Nat → Int32} {pl pl' : Int32} : kSam (P_digest5 K f rf bw isOn cnt len stp sta pm bm g t KF ff KT tf im pl hu ta J0 g0 J1 g1 J2 g2 J3 g3 J4 g4) (P_digest5 K f rf bw isOn cnt len stp sta pm bm g t KF' ff' KT' tf' im' pl' hu' ta' J0 g0 J1 g1 J2 g2 J3 g3 J4 g4) := by
  rw [P_digest5, P_digest5]
  refine L_dig5_6 (fun s x1 y1 x2 y2 y3 x3 y4 x1' y1' x2' y2' y3' x3' y4' => ?_) 11 0 _ _ _ _ _ _ _ _ _ _ _ _ _ _ _ rfl
  refine L_dig5_33 (fun s x1 y1 x2 y2 y3 x3 y4 x1' y1' x2' y2' y3' x3' y4' => ?_) 8 0 _ _ _ _ _ _ _ _ _ _ _ _ _ _ _ rfl
  refine kSam_bd (fun q1 => kSam_bd (fun q2 => ?_))
  refine L_dig5_72 (fun s tz tz' x1 y1 x2 y2 y3 x3 y4 x1' y1' x2' y2' y3' x3' y4' => ?_) (8 - 3) 3 _ _ _ _ _ _ _ _ _ _ _ _ _ _ _ _ _ rfl (Nat.le_refl _)
  refine kSam_bd (fun q3 => ?_)
  refine kIte (R := kSam) (fun _ => ?_) (fun _ => ?_) <;> simp only [kSam, bd, isAlike_val]
