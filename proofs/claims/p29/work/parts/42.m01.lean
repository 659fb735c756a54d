/-! sets as words -/
set_option maxRecDepth 16384 in
def tb (s : Int32) (k : Nat) : Bool := s.toBitVec.getLsbD k
set_option maxRecDepth 16384 in
theorem tb_or (a b : Int32) (k : Nat) : tb (a ||| b) k = (tb a k || tb b k) := by simp [tb]
set_option maxRecDepth 16384 in
theorem tb_and (a b : Int32) (k : Nat) : tb (a &&& b) k = (tb a k && tb b k) := by simp [tb]
set_option maxRecDepth 16384 in
theorem tb_xor (a b : Int32) (k : Nat) : tb (a ^^^ b) k = (tb a k ^^ tb b k) := by simp [tb]
set_option maxRecDepth 16384 in
theorem tb_lt {a : Int32} {k : Nat} (h : tb a k = true) : k < 32 := by
  rcases Nat.lt_or_ge k 32 with q | q
  · exact q
  · simp [tb, BitVec.getLsbD_of_ge _ _ q] at h
set_option maxRecDepth 16384 in
theorem tb_m1 (k : Nat) : tb (-1) k = decide (k < 32) := by
  rw [tb, show (-1 : Int32).toBitVec = BitVec.allOnes 32 from by decide, BitVec.getLsbD_allOnes]
set_option maxRecDepth 16384 in
theorem tb_not (a : Int32) (k : Nat) : tb (a ^^^ (-1)) k = (decide (k < 32) && !tb a k) := by
  rw [tb_xor, tb_m1]
  rcases Nat.lt_or_ge k 32 with q | q
  · simp [q]
  · have : tb a k = false := by
      cases h : tb a k with
      | false => rfl
      | true => exact absurd (tb_lt h) (by omega)
    simp [this, show ¬ k < 32 from by omega]
set_option maxRecDepth 16384 in
theorem tb_zero (k : Nat) : tb 0 k = false := by
  rw [tb, show (0 : Int32).toBitVec = 0#32 from by decide, BitVec.getLsbD_zero]
set_option maxRecDepth 16384 in
theorem tb_ext {a b : Int32} (h : ∀ k, k < 32 → tb a k = tb b k) : a = b :=
  Int32.toBitVec_inj.mp (BitVec.eq_of_getLsbD_eq (fun i hi => h i hi))
set_option maxRecDepth 16384 in
theorem nI_bits {n : Nat} : (nI n).toBitVec = BitVec.ofNat 32 n := rfl
set_option maxRecDepth 16384 in
theorem tb_nI {n k : Nat} (h : n < 2 ^ 32) : tb (nI n) k = n.testBit k := by
  rw [tb, nI_bits, BitVec.getLsbD_ofNat]
  rcases Nat.lt_or_ge k 32 with q | q
  · simp [q]
  · have : n.testBit k = false := Nat.testBit_lt_two_pow (Nat.lt_of_lt_of_le h (Nat.pow_le_pow_right (by omega) q))
    simp [this]
-- a set of numbers below 16
set_option maxRecDepth 16384 in
def Sml (s : Int32) : Prop := ∀ k, 16 ≤ k → tb s k = false
set_option maxRecDepth 16384 in
theorem Sml.nat {s : Int32} (h : Sml s) : ∃ n, n < 65536 ∧ s = nI n := by
  refine ⟨s.toBitVec.toNat, ?_, ?_⟩
  · have : s.toBitVec.toNat < 2 ^ 16 := Nat.lt_pow_two_of_testBit _ (fun i hi => h i hi)
    omega
  · apply Int32.toBitVec_inj.mp
    rw [nI_bits]
    simp
set_option maxRecDepth 16384 in
theorem Sml.of_nat {n : Nat} (h : n < 65536) : Sml (nI n) := fun k hk => by
  rw [tb_nI (by omega)]
  exact Nat.testBit_lt_two_pow (Nat.lt_of_lt_of_le (show n < 2 ^ 16 by omega) (Nat.pow_le_pow_right (by omega) hk))
set_option maxRecDepth 16384 in
theorem Sml.zero : Sml 0 := fun k _ => tb_zero k
set_option maxRecDepth 16384 in
theorem Sml.or {a b : Int32} (ha : Sml a) (hb : Sml b) : Sml (a ||| b) := fun k hk => by rw [tb_or, ha k hk, hb k hk]; rfl
set_option maxRecDepth 16384 in
theorem Sml.and {a b : Int32} (ha : Sml a) : Sml (a &&& b) := fun k hk => by rw [tb_and, ha k hk]; rfl
set_option maxRecDepth 16384 in
theorem Sml.lt {s : Int32} {k : Nat} (h : Sml s) (hk : tb s k = true) : k < 16 := by
  rcases Nat.lt_or_ge k 16 with q | q
  · exact q
  · rw [h k q] at hk; cases hk
/-! counting -/
set_option maxRecDepth 16384 in
def cn (p : Nat → Bool) : Nat → Nat
  | 0 => 0
  | n + 1 => cn p n + (if p n then 1 else 0)
set_option maxRecDepth 16384 in
theorem cn_ext {p q : Nat → Bool} : ∀ {n : Nat}, (∀ k, k < n → p k = q k) → cn p n = cn q n
  | 0, _ => rfl
  | n + 1, h => by rw [cn, cn, cn_ext (fun k hk => h k (by omega)), h n (by omega)]
set_option maxRecDepth 16384 in
theorem cn_le {p q : Nat → Bool} : ∀ {n : Nat}, (∀ k, k < n → p k = true → q k = true) → cn p n ≤ cn q n
  | 0, _ => Nat.le_refl _
  | n + 1, h => by
    have a := cn_le (p := p) (q := q) (n := n) (fun k hk => h k (by omega))
    have b := h n (by omega)
    rw [cn, cn]
    cases hp : p n with
    | false => simp; omega
    | true => simp [b hp]; omega
set_option maxRecDepth 16384 in
theorem cn_top (p : Nat → Bool) : ∀ n : Nat, cn p n ≤ n
  | 0 => Nat.le_refl _
  | n + 1 => by
    have := cn_top p n
    rw [cn]
    split <;> omega
set_option maxRecDepth 16384 in
theorem cn_zero {p : Nat → Bool} : ∀ {n : Nat}, (∀ k, k < n → p k = false) → cn p n = 0
  | 0, _ => rfl
  | n + 1, h => by rw [cn, cn_zero (fun k hk => h k (by omega)), h n (by omega)]; rfl
set_option maxRecDepth 16384 in
theorem cn_pos {p : Nat → Bool} : ∀ {n k : Nat}, k < n → p k = true → 0 < cn p n
  | 0, k, h, _ => by omega
  | n + 1, k, h, hp => by
    rw [cn]
    rcases Nat.lt_or_ge k n with q | q
    · have := cn_pos q hp
      omega
    · have : k = n := by omega
      subst this
      simp [hp]
set_option maxRecDepth 16384 in
theorem cn_ex {p : Nat → Bool} : ∀ {n : Nat}, 0 < cn p n → ∃ k, k < n ∧ p k = true
  | 0, h => by simp [cn] at h
  | n + 1, h => by
    cases hp : p n with
    | true => exact ⟨n, by omega, hp⟩
    | false =>
      rw [cn, hp] at h
      obtain ⟨k, a, b⟩ := cn_ex (n := n) (p := p) (by simpa using h)
      exact ⟨k, by omega, b⟩
set_option maxRecDepth 16384 in
theorem cn_or (p q : Nat → Bool) : ∀ n : Nat, cn (fun k => p k || q k) n + cn (fun k => p k && q k) n = cn p n + cn q n
  | 0 => rfl
  | n + 1 => by
    have := cn_or p q n
    simp only [cn]
    rcases Bool.eq_false_or_eq_true (p n) with hp | hp <;> rcases Bool.eq_false_or_eq_true (q n) with hq | hq <;> simp only [hp, hq, Bool.or_true, Bool.or_false, Bool.and_true, Bool.and_false, Bool.not_true, Bool.not_false, if_true, if_false, Bool.false_eq_true, Bool.or_self, Bool.and_self] <;> omega
set_option maxRecDepth 16384 in
theorem cn_split (p q : Nat → Bool) : ∀ n : Nat, cn (fun k => p k && q k) n + cn (fun k => p k && !q k) n = cn p n
  | 0 => rfl
  | n + 1 => by
    have := cn_split p q n
    simp only [cn]
    rcases Bool.eq_false_or_eq_true (p n) with hp | hp <;> rcases Bool.eq_false_or_eq_true (q n) with hq | hq <;> simp only [hp, hq, Bool.or_true, Bool.or_false, Bool.and_true, Bool.and_false, Bool.not_true, Bool.not_false, if_true, if_false, Bool.false_eq_true, Bool.or_self, Bool.and_self] <;> omega
set_option maxRecDepth 16384 in
theorem cn_one {p : Nat → Bool} {n i : Nat} (hi : i < n) (hp : p i = true) : cn p n = cn (fun k => p k && !(k == i)) n + 1 := by
  have := cn_split p (fun k => k == i) n
  have h1 : cn (fun k => p k && k == i) n = 1 := by
    clear this
    induction n with
    | zero => omega
    | succ n ih =>
      rw [cn]
      rcases Nat.lt_or_ge i n with q | q
      · rw [ih q, show (n == i) = false from by simp; omega]; simp
      · have : i = n := by omega
        subst this
        rw [cn_zero (fun k hk => by rw [show (k == i) = false from by simp; omega]; simp)]
        simp [hp]
  omega
-- how many of a set
set_option maxRecDepth 16384 in
def sz (s : Int32) : Nat := cn (tb s) 16
set_option maxRecDepth 16384 in
theorem nI_sub {a b : Nat} (h : b ≤ a) : nI a - nI b = nI (a - b) := by
  apply Int32.toBitVec_inj.mp
  rw [Int32.toBitVec_sub, nI_bits, nI_bits, nI_bits]
  apply BitVec.eq_of_toNat_eq
  simp only [BitVec.toNat_sub, BitVec.toNat_ofNat]
  omega
set_option maxRecDepth 16384 in
theorem nI_and (a b : Nat) : nI a &&& nI b = nI (Nat.land a b) := by
  apply Int32.toBitVec_inj.mp
  rw [Int32.toBitVec_and, nI_bits, nI_bits, nI_bits]
  exact (BitVec.ofNat_and).symm
set_option maxRecDepth 16384 in
theorem nI_shr {a k : Nat} (h : a < 2 ^ 32) (hk : k < 32) : (((nI a).toUInt32 >>> ((nI k).toUInt32 &&& Int32.toUInt32 31)).toInt32) = nI (Nat.shiftRight a k) := by
  have e : ((nI k).toUInt32 &&& Int32.toUInt32 31) = UInt32.ofNat k := by
    apply UInt32.toBitVec_inj.mp
    apply BitVec.eq_of_toNat_eq
    show (k % 2 ^ 32) &&& 31 = k % 2 ^ 32
    rw [show (31 : Nat) = 2 ^ 5 - 1 from rfl, Nat.and_two_pow_sub_one_eq_mod]
    omega
  rw [e]
  apply Int32.toBitVec_inj.mp
  apply BitVec.eq_of_toNat_eq
  show ((BitVec.ofNat 32 a) >>> (BitVec.ofNat 32 k % 32#32)).toNat = (a >>> k) % 2 ^ 32
  rw [BitVec.ushiftRight_eq', BitVec.toNat_ushiftRight]
  have h1 : (BitVec.ofNat 32 k % 32#32).toNat = k := by
    rw [BitVec.toNat_umod, BitVec.toNat_ofNat]; simp; omega
  rw [h1, BitVec.toNat_ofNat, Nat.mod_eq_of_lt h]
  exact (Nat.mod_eq_of_lt (Nat.lt_of_le_of_lt (Nat.shiftRight_le a k) h)).symm
set_option maxRecDepth 16384 in
def allB (f : Nat → Bool) : Nat → Bool
  | 0 => true
  | n + 1 => f n && allB f n
set_option maxRecDepth 16384 in
theorem allB_spec {f : Nat → Bool} : ∀ {n : Nat}, allB f n = true → ∀ k, k < n → f k = true
  | 0, _, k, h => by omega
  | n + 1, h, k, hk => by
    rw [allB, Bool.and_eq_true] at h
    rcases Nat.lt_or_ge k n with q | q
    · exact allB_spec h.2 k q
    · have : k = n := by omega
      rw [this]; exact h.1
set_option maxRecDepth 16384 in
def popM (n : Nat) : Nat :=
  bd (Nat.sub n (Nat.land (Nat.shiftRight n 1) 1431655765)) (fun y1 =>
    bd (Nat.add (Nat.land y1 858993459) (Nat.land (Nat.shiftRight y1 2) 858993459)) (fun y2 =>
      bd (Nat.land (Nat.add y2 (Nat.shiftRight y2 4)) 252645135) (fun y3 =>
        bd (Nat.add y3 (Nat.shiftRight y3 8)) (fun y4 => bd (Nat.add y4 (Nat.shiftRight y4 16)) (fun y5 => Nat.land y5 63)))))
set_option maxRecDepth 16384 in
def popU (n : Nat) : Nat :=
  Nat.add (Nat.mod n 2) (Nat.add (Nat.mod (Nat.div n 2) 2) (Nat.add (Nat.mod (Nat.div n 4) 2) (Nat.add (Nat.mod (Nat.div n 8) 2)
    (Nat.add (Nat.mod (Nat.div n 16) 2) (Nat.add (Nat.mod (Nat.div n 32) 2) (Nat.add (Nat.mod (Nat.div n 64) 2) (Nat.add (Nat.mod (Nat.div n 128) 2)
    (Nat.add (Nat.mod (Nat.div n 256) 2) (Nat.add (Nat.mod (Nat.div n 512) 2) (Nat.add (Nat.mod (Nat.div n 1024) 2) (Nat.add (Nat.mod (Nat.div n 2048) 2)
    (Nat.add (Nat.mod (Nat.div n 4096) 2) (Nat.add (Nat.mod (Nat.div n 8192) 2) (Nat.add (Nat.mod (Nat.div n 16384) 2) (Nat.mod (Nat.div n 32768) 2)))))))))))))))
set_option maxRecDepth 16384 in
def lowM (n : Nat) : Nat := Nat.log2 (Nat.land n (Nat.sub 4294967296 n))
set_option maxRecDepth 16384 in
def chk (n : Nat) : Bool := Nat.beq (popM n) (popU n) && Nat.ble (Nat.land (Nat.shiftRight n 1) 1431655765) n
set_option maxRecDepth 16384 in
def chkL (n : Nat) : Bool := Nat.beq n 0 || (Nat.beq (popM (Nat.sub (Nat.land n (Nat.sub 4294967296 n)) 1)) (lowM n) && Nat.beq (Nat.land n (Nat.sub n 1)) (Nat.xor n (Nat.pow 2 (lowM n))) && Nat.beq (Nat.land 1 (Nat.shiftRight n (lowM n))) 1 && Nat.blt (lowM n) 16)
set_option maxRecDepth 16384 in
theorem t1 : allB (fun a => allB (fun b => chk (Nat.add (Nat.mul a 256) b)) 256) 256 = true := by decide +kernel
set_option maxRecDepth 16384 in
theorem t2 : allB (fun a => allB (fun b => chkL (Nat.add (Nat.mul a 256) b)) 256) 256 = true := by decide +kernel

set_option maxRecDepth 16384 in
theorem nI_addN (a b : Nat) : nI a + nI b = nI (Nat.add a b) := nI_add a b
set_option maxRecDepth 16384 in
theorem popM_eq {n : Nat} (h : n < 65536) (hc : Nat.land (Nat.shiftRight n 1) 1431655765 ≤ n) : P_bitCount (nI n) = nI (popM n) := by
  have l (a m : Nat) : Nat.land a m ≤ m := Nat.and_le_right
  have r (a k : Nat) : Nat.shiftRight a k ≤ a := Nat.shiftRight_le a k
  unfold P_bitCount popM
  simp only [bd]
  rw [show (1 : Int32) = nI 1 from rfl, show (1431655765 : Int32) = nI 1431655765 from rfl, show (858993459 : Int32) = nI 858993459 from rfl, show (252645135 : Int32) = nI 252645135 from rfl, show (63 : Int32) = nI 63 from rfl, show (2 : Int32) = nI 2 from rfl, show (4 : Int32) = nI 4 from rfl, show (8 : Int32) = nI 8 from rfl, show (16 : Int32) = nI 16 from rfl]
  rw [nI_shr (by omega) (by omega), nI_and, nI_sub hc]
  have y1 : n.sub ((n.shiftRight 1).land 1431655765) < 65536 := Nat.lt_of_le_of_lt (Nat.sub_le _ _) h
  rw [nI_and, nI_shr (by omega) (by omega), nI_and, nI_addN]
  have y2 : Nat.add ((n.sub ((n.shiftRight 1).land 1431655765)).land 858993459) (((n.sub ((n.shiftRight 1).land 1431655765)).shiftRight 2).land 858993459) < 2 ^ 31 := by
    have a := l (n.sub ((n.shiftRight 1).land 1431655765)) 858993459
    have b := l ((n.sub ((n.shiftRight 1).land 1431655765)).shiftRight 2) 858993459
    show (_ : Nat) + _ < _
    omega
  generalize Nat.add ((n.sub ((n.shiftRight 1).land 1431655765)).land 858993459) (((n.sub ((n.shiftRight 1).land 1431655765)).shiftRight 2).land 858993459) = y at *
  rw [nI_shr (by omega) (by omega), nI_addN, nI_and]
  have y3 := l (y.add (y.shiftRight 4)) 252645135
  generalize (y.add (y.shiftRight 4)).land 252645135 = z at *
  rw [nI_shr (by omega) (by omega), nI_addN]
  have y4 : Nat.add z (z.shiftRight 8) < 2 ^ 31 := by
    have := r z 8
    show z + _ < _
    omega
  rw [nI_shr (by omega) (by omega), nI_addN, nI_and]
set_option maxRecDepth 16384 in
theorem popTab {n : Nat} (h : n < 65536) : P_bitCount (nI n) = nI (popU n) := by
  have a := allB_spec (allB_spec t1 (n / 256) (by omega)) (n % 256) (by omega)
  have e : Nat.add (Nat.mul (n / 256) 256) (n % 256) = n := by
    show n / 256 * 256 + n % 256 = n
    omega
  rw [e, chk, Bool.and_eq_true] at a
  rw [popM_eq h (Nat.le_of_ble_eq_true a.2), Nat.eq_of_beq_eq_true a.1]
set_option maxRecDepth 16384 in
theorem lowTab {n : Nat} (h : n < 65536) (h0 : n ≠ 0) : P_bitCount ((nI n &&& (- nI n)) - 1) = nI (lowM n) ∧ (nI n &&& (nI n - 1)) = nI (n ^^^ 2 ^ lowM n) ∧ n.testBit (lowM n) = true ∧ lowM n < 16 := by
  have a := allB_spec (allB_spec t2 (n / 256) (by omega)) (n % 256) (by omega)
  have e : Nat.add (Nat.mul (n / 256) 256) (n % 256) = n := by
    show n / 256 * 256 + n % 256 = n
    omega
  rw [e, chkL, Bool.or_eq_true, Bool.and_eq_true, Bool.and_eq_true, Bool.and_eq_true] at a
  rcases a with a | ⟨⟨⟨a1, a2⟩, a3⟩, a4⟩
  · exact absurd (Nat.eq_of_beq_eq_true a) h0
  have a1 := Nat.eq_of_beq_eq_true a1
  have a2 := Nat.eq_of_beq_eq_true a2
  have a3 := Nat.eq_of_beq_eq_true a3
  have hl : lowM n < 16 := by
    have := Nat.le_of_ble_eq_true a4
    omega
  have hneg : (- nI n) = nI (4294967296 - n) := by
    apply Int32.toBitVec_inj.mp
    rw [Int32.toBitVec_neg, nI_bits, nI_bits]
    apply BitVec.eq_of_toNat_eq
    simp only [BitVec.toNat_neg, BitVec.toNat_ofNat]
    omega
  have hle : Nat.land n (4294967296 - n) ≤ n := Nat.and_le_left
  have hp : 1 ≤ Nat.land n (4294967296 - n) := by
    rcases Nat.eq_zero_or_pos (Nat.land n (4294967296 - n)) with q | q
    · exfalso
      have e0 : lowM n = 0 := by
        show Nat.log2 (Nat.land n (4294967296 - n)) = 0
        rw [q]; decide
      rw [e0] at a1
      have : popM (Nat.sub (Nat.land n (4294967296 - n)) 1) = 0 := a1
      have b1 : n &&& (n - 1) = n ^^^ 1 := by
        have := a2
        rw [e0] at this
        exact this
      have b2 : 1 &&& n = 1 := by
        have := a3
        rw [e0] at this
        exact this
      have b3 : (n &&& (4294967296 - n)).testBit 0 = true := by
        rw [Nat.testBit_and]
        have h1 : n % 2 = 1 := by
          have : (1 &&& n).testBit 0 = true := by rw [b2]; decide
          rw [Nat.testBit_and, Bool.and_eq_true] at this
          have := this.2
          rw [Nat.testBit_zero] at this
          simpa using this
        simp [Nat.testBit_zero]
        omega
      rw [show (n &&& (4294967296 - n)) = 0 from q] at b3
      simp at b3
    · exact q
  refine ⟨?_, ?_, ?_, hl⟩
  · rw [hneg, nI_and, show (1 : Int32) = nI 1 from rfl, nI_sub hp, ← a1]
    have hs : Nat.land n (4294967296 - n) - 1 < 65536 := by omega
    have c := allB_spec (allB_spec t1 ((Nat.land n (4294967296 - n) - 1) / 256) (by omega)) ((Nat.land n (4294967296 - n) - 1) % 256) (by omega)
    have e : Nat.add (Nat.mul ((Nat.land n (4294967296 - n) - 1) / 256) 256) ((Nat.land n (4294967296 - n) - 1) % 256) = (Nat.land n (4294967296 - n) - 1) := by
      show ((Nat.land n (4294967296 - n) - 1) / 256) * 256 + (Nat.land n (4294967296 - n) - 1) % 256 = _
      omega
    rw [e, chk, Bool.and_eq_true] at c
    exact popM_eq hs (Nat.le_of_ble_eq_true c.2)
  · rw [show (1 : Int32) = nI 1 from rfl, nI_sub (by omega), nI_and]
    exact congrArg nI a2
  · have : (1 &&& (n >>> lowM n)) = 1 := a3
    simp [Nat.testBit, this]
set_option maxRecDepth 16384 in
theorem popU_cn {n : Nat} : popU n = (if n.testBit 0 then 1 else 0) + ((if n.testBit 1 then 1 else 0) + ((if n.testBit 2 then 1 else 0) + ((if n.testBit 3 then 1 else 0) + ((if n.testBit 4 then 1 else 0) + ((if n.testBit 5 then 1 else 0) + ((if n.testBit 6 then 1 else 0) + ((if n.testBit 7 then 1 else 0) + ((if n.testBit 8 then 1 else 0) + ((if n.testBit 9 then 1 else 0) + ((if n.testBit 10 then 1 else 0) + ((if n.testBit 11 then 1 else 0) + ((if n.testBit 12 then 1 else 0) + ((if n.testBit 13 then 1 else 0) + ((if n.testBit 14 then 1 else 0) + (if n.testBit 15 then 1 else 0))))))))))))))) := by
  have t (k : Nat) : (if n.testBit k then 1 else 0) = Nat.mod (Nat.div n (2 ^ k)) 2 := by
    show _ = n / 2 ^ k % 2
    rw [Nat.testBit_eq_decide_div_mod_eq]
    rcases Nat.mod_two_eq_zero_or_one (n / 2 ^ k) with q | q <;> simp [q]
  simp only [t]
  have : Nat.mod n 2 = Nat.mod (Nat.div n (2 ^ 0)) 2 := by
    show n % 2 = n / 1 % 2
    rw [Nat.div_one]
  rw [popU, this]
  rfl
set_option maxRecDepth 16384 in
theorem bitCount_sz {s : Int32} (h : Sml s) : P_bitCount s = nI (sz s) := by
  obtain ⟨n, hn, rfl⟩ := h.nat
  rw [popTab hn, popU_cn, sz]
  congr 1
  simp only [cn, tb_nI (show n < 2 ^ 32 by omega)]
  omega
set_option maxRecDepth 16384 in
theorem sz_le (s : Int32) : sz s ≤ 16 := cn_top _ _
-- the first of a set, and what is left behind it
set_option maxRecDepth 16384 in
theorem first_of {s : Int32} (h : Sml s) (h0 : s ≠ 0) : ∃ i, i < 16 ∧ tb s i = true ∧ P_bitCount ((s &&& (-s)) - 1) = nI i ∧ Sml (s &&& (s - 1)) ∧ ∀ k, tb (s &&& (s - 1)) k = (tb s k && !(k == i)) := by
  obtain ⟨n, hn, rfl⟩ := h.nat
  have hz : n ≠ 0 := fun e => h0 (by subst e; rfl)
  obtain ⟨t1, t2, l1, l2⟩ := lowTab hn hz
  have hx : n ^^^ 2 ^ lowM n < 65536 := by
    have : n ^^^ 2 ^ lowM n < 2 ^ 16 := Nat.xor_lt_two_pow (by omega) (Nat.pow_lt_pow_right (by omega) l2)
    omega
  refine ⟨lowM n, l2, by rw [tb_nI (by omega)]; exact l1, t1, ?_, fun k => ?_⟩
  · rw [t2]; exact Sml.of_nat hx
  · rw [t2, tb_nI (by omega), tb_nI (by omega), Nat.testBit_xor, Nat.testBit_two_pow]
    rcases Nat.decEq k (lowM n) with q | q
    · simp [q, show ¬ lowM n = k from fun e => q e.symm]
    · rw [q, l1]; simp
set_option maxRecDepth 16384 in
theorem bitTab : ∀ k, k < 31 → P_bit (nI k) = nI (2 ^ k) := by decide +kernel
set_option maxRecDepth 16384 in
theorem tb_bit {k : Nat} (h : k < 31) (j : Nat) : tb (P_bit (nI k)) j = (j == k) := by
  rw [bitTab k h, tb_nI (Nat.pow_lt_pow_right (by omega) (by omega)), Nat.testBit_two_pow]
  rcases Nat.decEq j k with q | q
  · simp [q, show ¬ k = j from fun e => q e.symm]
  · simp [q]
set_option maxRecDepth 16384 in
theorem Sml.bit {k : Nat} (h : k < 16) : Sml (P_bit (nI k)) := fun j hj => by rw [tb_bit (by omega)]; simp; omega
set_option maxRecDepth 16384 in
theorem nI_and31 : ∀ k, k < 31 → (nI k &&& 31) = nI k := by decide +kernel
set_option maxRecDepth 16384 in
theorem holds_tb {s : Int32} {k : Nat} (h : k < 31) : P_holds s (nI k) = if tb s k then 1 else 0 := by
  rw [P_holds, if_neg (nI_pos (by omega)), if_neg (show ¬ (31 : Int32) ≤ nI k from nI_ge (a := k) (b := 31) h (by omega)), nI_and31 k h]
  have e : ((s >>> nI k) &&& 1) = if tb s k then 1 else 0 := by
    apply tb_ext
    intro j hj
    rw [tb_and, show (1 : Int32) = nI 1 from rfl, tb_nI (by omega)]
    rcases Nat.eq_zero_or_pos j with q | q
    · subst q
      rw [tb, Int32.toBitVec_shiftRight, nI_bits]
      have e1 : ((BitVec.ofNat 32 k).smod 32).toNat = k := by
        clear hj
        revert h
        revert k
        decide +kernel
      rw [BitVec.sshiftRight', e1, BitVec.getLsbD_sshiftRight]
      rw [if_pos (show k + 0 < 32 by omega), Nat.add_zero, show (!decide (32 ≤ 0)) = true from rfl, Bool.true_and, show Nat.testBit 1 0 = true from rfl, Bool.and_true]
      rcases Bool.eq_false_or_eq_true (tb s k) with hb | hb
      · rw [hb, if_pos rfl]; exact hb
      · rw [hb, if_neg (by decide), tb_zero]; exact hb
    · have z : (1 : Nat).testBit j = false := by
        rw [show (1 : Nat) = 2 ^ 0 from rfl, Nat.testBit_two_pow]
        simp; omega
      rw [z, Bool.and_false]
      cases tb s k
      · exact (tb_zero j).symm
      · rw [if_pos rfl, tb_nI (by omega)]; exact z.symm
  rw [e]
  cases tb s k <;> rfl
