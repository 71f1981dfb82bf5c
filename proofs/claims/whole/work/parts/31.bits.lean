/-! How many bits are set. -/
theorem ush_k : ∀ k, k < 32 → ((nI k).toUInt32 &&& Int32.toUInt32 31).toNat % 32 = k := by decide +kernel
theorem ushr_nI {a k : Nat} (ha : a < 2 ^ 32) (hk : k < 32) : ushr (nI a) (nI k) = nI (a / 2 ^ k) := by
  apply i32_inj
  apply BitVec.eq_of_toNat_eq
  have e1 : (ushr (nI a) (nI k)).toBitVec = ((nI a).toUInt32 >>> ((nI k).toUInt32 &&& Int32.toUInt32 31)).toBitVec := rfl
  have e2 : (nI a).toUInt32.toNat = a := by
    show (nI a).toBitVec.toNat = a
    rw [nI_bv, BitVec.toNat_ofNat, Nat.mod_eq_of_lt ha]
  have hd : a / 2 ^ k ≤ a := Nat.div_le_self _ _
  rw [e1, nI_bv, BitVec.toNat_ofNat, Nat.mod_eq_of_lt (by omega)]
  show ((nI a).toUInt32 >>> ((nI k).toUInt32 &&& Int32.toUInt32 31)).toNat = _
  rw [UInt32.toNat_shiftRight, e2, ush_k k hk, Nat.shiftRight_eq_div_pow]
theorem and_blk {u v p q : Nat} (hu : u < 256) (hp : p < 256) : (256 * v + u) &&& (256 * q + p) = 256 * (v &&& q) + (u &&& p) := by
  have hup : u &&& p < 2 ^ 8 := Nat.lt_of_le_of_lt Nat.and_le_left hu
  apply Nat.eq_of_testBit_eq
  intro i
  have e : (256 : Nat) = 2 ^ 8 := rfl
  rw [Nat.testBit_and, e, Nat.testBit_two_pow_mul_add _ hu, Nat.testBit_two_pow_mul_add _ hp, Nat.testBit_two_pow_mul_add _ hup]
  split <;> rw [Nat.testBit_and]
def f1 (b : Nat) : Nat := b - (b / 2 &&& 85)
def f2 (t : Nat) : Nat := (t &&& 51) + (t / 4 &&& 51)
def f3 (t : Nat) : Nat := (t + t / 16) &&& 15
theorem by1 : ∀ x, x < 256 → ∀ r, r < 2 → (128 * r + x / 2) &&& 85 = (x / 2) &&& 85 := by decide +kernel
theorem by2 : ∀ x, x < 256 → ∀ r, r < 4 → (64 * r + x / 4) &&& 51 = (x / 4) &&& 51 := by decide +kernel
theorem by3 : ∀ x, x < 69 → ∀ r, r < 16 → (16 * r + (x + x / 16)) &&& 15 = (x + x / 16) &&& 15 := by decide +kernel
theorem by4 : ∀ b, b < 256 → f1 b < 256 ∧ f2 (f1 b) < 69 ∧ f2 (f1 b) % 16 < 5 ∧ f3 (f2 (f1 b)) = ct (fun i => b.testBit i) 8 := by decide +kernel
theorem st1 {x y M : Nat} (hx : x < 256) : (256 * y + x) - ((256 * y + x) / 2 &&& (256 * M + 85)) = 256 * (y - (y / 2 &&& M)) + f1 x := by
  have e : (256 * y + x) / 2 = 256 * (y / 2) + (128 * (y % 2) + x / 2) := by omega
  rw [e, and_blk (by omega) (by decide), by1 x hx _ (Nat.mod_lt _ (by decide))]
  have h1 : y / 2 &&& M ≤ y / 2 := Nat.and_le_left
  have h2 : x / 2 &&& 85 ≤ x / 2 := Nat.and_le_left
  unfold f1
  omega
theorem st2 {x y M : Nat} (hx : x < 256) : ((256 * y + x) &&& (256 * M + 51)) + ((256 * y + x) / 4 &&& (256 * M + 51)) = 256 * ((y &&& M) + (y / 4 &&& M)) + f2 x := by
  have e : (256 * y + x) / 4 = 256 * (y / 4) + (64 * (y % 4) + x / 4) := by omega
  rw [e, and_blk hx (by decide), and_blk (by omega) (by decide), by2 x hx _ (Nat.mod_lt _ (by decide))]
  unfold f2
  omega
theorem st3 {x y M : Nat} (hx : x < 69) (hy : y % 16 < 5) : ((256 * y + x) + (256 * y + x) / 16) &&& (256 * M + 15) = 256 * ((y + y / 16) &&& M) + f3 x := by
  have e : (256 * y + x) + (256 * y + x) / 16 = 256 * (y + y / 16) + (16 * (y % 16) + (x + x / 16)) := by omega
  rw [e, and_blk (by omega) (by decide), by3 x hx _ (Nat.mod_lt _ (by decide))]
  rfl
theorem ct_add (p : Nat → Bool) (m : Nat) : ∀ n, ct p (m + n) = ct p m + ct (fun i => p (m + i)) n
  | 0 => rfl
  | n + 1 => by rw [← Nat.add_assoc, ct, ct, ct_add p m n, Nat.add_assoc]
theorem ct_byte {x y : Nat} (hx : x < 256) (n : Nat) : ct (fun i => (256 * y + x).testBit i) (8 + n) = ct (fun i => x.testBit i) 8 + ct (fun i => y.testBit i) n := by
  have e : (256 : Nat) = 2 ^ 8 := rfl
  rw [ct_add]
  congr 1
  · refine ct_cong (fun i hi => ?_)
    rw [e, Nat.testBit_two_pow_mul_add _ hx, if_pos hi]
  · refine ct_cong (fun i hi => ?_)
    rw [e, Nat.testBit_two_pow_mul_add _ hx, if_neg (by omega), Nat.add_sub_cancel_left]
theorem and_63 (x : Nat) : x &&& 63 = x % 64 := Nat.and_two_pow_sub_one_eq_mod x 6
def pop (X : Nat) : Nat := ct (fun i => X.testBit i) 32
theorem I_bitCount_ok {X : Nat} {σ : St} {Q : Int32 → St → Prop} (hX : X < 2 ^ 31) (k : Q (nI (pop X)) σ) : P_I_bitCount (nI X) σ Q := by
  obtain ⟨b0, Y0, h0, e0⟩ : ∃ b0 Y0, b0 < 256 ∧ X = 256 * Y0 + b0 := ⟨X % 256, X / 256, by omega, by omega⟩
  obtain ⟨b1, Y1, h1, e1⟩ : ∃ b1 Y1, b1 < 256 ∧ Y0 = 256 * Y1 + b1 := ⟨Y0 % 256, Y0 / 256, by omega, by omega⟩
  obtain ⟨b2, b3, h2, e2⟩ : ∃ b2 b3, b2 < 256 ∧ Y1 = 256 * b3 + b2 := ⟨Y1 % 256, Y1 / 256, by omega, by omega⟩
  have h3 : b3 < 128 := by omega
  obtain ⟨p0, q0, r0, s0⟩ := by4 b0 h0
  obtain ⟨p1, q1, r1, s1⟩ := by4 b1 h1
  obtain ⟨p2, q2, r2, s2⟩ := by4 b2 h2
  obtain ⟨p3, q3, r3, s3⟩ := by4 b3 (by omega)
  have hpop : pop X = ct (fun i => b0.testBit i) 8 + (ct (fun i => b1.testBit i) 8 + (ct (fun i => b2.testBit i) 8 + ct (fun i => b3.testBit i) 8)) := by
    unfold pop
    rw [e0, show (32 : Nat) = 8 + 24 from rfl, ct_byte h0, e1, show (24 : Nat) = 8 + 16 from rfl, ct_byte h1, e2, show (16 : Nat) = 8 + 8 from rfl, ct_byte h2]
  have c0 := ct_le (fun i => b0.testBit i) 8
  have c1 := ct_le (fun i => b1.testBit i) 8
  have c2 := ct_le (fun i => b2.testBit i) 8
  have c3 := ct_le (fun i => b3.testBit i) 8
  rw [← s0, ← s1, ← s2, ← s3] at hpop
  rw [← s0] at c0
  rw [← s1] at c1
  rw [← s2] at c2
  rw [← s3] at c3
  -- first
  have t1 : X - (X / 2 &&& 1431655765) = 256 * (256 * (256 * f1 b3 + f1 b2) + f1 b1) + f1 b0 := by
    rw [e0, show (1431655765 : Nat) = 256 * 5592405 + 85 from rfl, st1 h0, e1, show (5592405 : Nat) = 256 * 21845 + 85 from rfl, st1 h1, e2, show (21845 : Nat) = 256 * 85 + 85 from rfl, st1 h2]
    rfl
  obtain ⟨T1, eT1⟩ : ∃ T1, T1 = 256 * (256 * (256 * f1 b3 + f1 b2) + f1 b1) + f1 b0 := ⟨_, rfl⟩
  rw [← eT1] at t1
  have t2 : (T1 &&& 858993459) + (T1 / 4 &&& 858993459) = 256 * (256 * (256 * f2 (f1 b3) + f2 (f1 b2)) + f2 (f1 b1)) + f2 (f1 b0) := by
    rw [eT1, show (858993459 : Nat) = 256 * 3355443 + 51 from rfl, st2 p0, show (3355443 : Nat) = 256 * 13107 + 51 from rfl, st2 p1, show (13107 : Nat) = 256 * 51 + 51 from rfl, st2 p2]
    rfl
  obtain ⟨T2, eT2⟩ : ∃ T2, T2 = 256 * (256 * (256 * f2 (f1 b3) + f2 (f1 b2)) + f2 (f1 b1)) + f2 (f1 b0) := ⟨_, rfl⟩
  rw [← eT2] at t2
  have t3 : (T2 + T2 / 16) &&& 252645135 = 256 * (256 * (256 * f3 (f2 (f1 b3)) + f3 (f2 (f1 b2))) + f3 (f2 (f1 b1))) + f3 (f2 (f1 b0)) := by
    rw [eT2, show (252645135 : Nat) = 256 * 986895 + 15 from rfl, st3 q0 (by omega), show (986895 : Nat) = 256 * 3855 + 15 from rfl, st3 q1 (by omega), show (3855 : Nat) = 256 * 15 + 15 from rfl, st3 q2 (by omega)]
    rfl
  obtain ⟨T3, eT3⟩ : ∃ T3, T3 = 256 * (256 * (256 * f3 (f2 (f1 b3)) + f3 (f2 (f1 b2))) + f3 (f2 (f1 b1))) + f3 (f2 (f1 b0)) := ⟨_, rfl⟩
  rw [← eT3] at t3
  have b1' : T1 < 2 ^ 32 := by omega
  have b2' : T2 < 2 ^ 31 := by omega
  have a1 : X / 2 &&& 1431655765 ≤ X := Nat.le_trans Nat.and_le_left (Nat.div_le_self _ _)
  have bT3 : T3 + T3 / 256 < 2 ^ 32 := by omega
  have u : ∀ k, k < 32 → ∀ a, a < 2 ^ 32 → ushr (nI a) (nI k) = nI (a / 2 ^ k) := fun k hk a ha => ushr_nI ha hk
  unfold P_I_bitCount
  rw [u 1 (by decide) X (by omega), show X / 2 ^ 1 = X / 2 from rfl, nI_and, nI_sub a1, t1]
  rw [u 2 (by decide) T1 b1', show T1 / 2 ^ 2 = T1 / 4 from rfl, nI_and, nI_and, nI_add, t2]
  rw [u 4 (by decide) T2 (by omega), show T2 / 2 ^ 4 = T2 / 16 from rfl, nI_add, nI_and, t3]
  rw [u 8 (by decide) T3 (by omega), show T3 / 2 ^ 8 = T3 / 256 from rfl, nI_add]
  rw [u 16 (by decide) (T3 + T3 / 256) bT3, nI_add, nI_and, and_63]
  have fin : (T3 + T3 / 256 + (T3 + T3 / 256) / 2 ^ 16) % 64 = pop X := by
    have d1 : T3 / 256 = 256 * (256 * f3 (f2 (f1 b3)) + f3 (f2 (f1 b2))) + f3 (f2 (f1 b1)) := by omega
    have d2 : T3 + T3 / 256 = 65536 * (256 * f3 (f2 (f1 b3)) + (f3 (f2 (f1 b2)) + f3 (f2 (f1 b3)))) + (256 * (f3 (f2 (f1 b1)) + f3 (f2 (f1 b2))) + (f3 (f2 (f1 b0)) + f3 (f2 (f1 b1)))) := by omega
    have d3 : (T3 + T3 / 256) / 2 ^ 16 = 256 * f3 (f2 (f1 b3)) + (f3 (f2 (f1 b2)) + f3 (f2 (f1 b3))) := by
      rw [d2]
      omega
    rw [d3, d2, hpop]
    omega
  rw [fin]
  exact k
theorem bset_bit (p : Nat → Bool) : ∀ N i, (bset N p).testBit i = (decide (i < N) && p i)
  | 0, i => by simp [bset, sm]
  | N + 1, i => by
    rw [← bset_or, Nat.testBit_or, bset_bit p N i]
    by_cases e : p N = true
    · rw [if_pos e, Nat.testBit_two_pow]
      by_cases h : i = N
      · subst h; simp [e]
      · have : (decide (N = i)) = false := by simp; omega
        rw [this, Bool.or_false]
        congr 1
        apply decide_eq_decide.mpr
        omega
    · rw [if_neg e, Nat.zero_testBit, Bool.or_false]
      by_cases h : i = N
      · subst h; simp [e]
      · congr 1
        apply decide_eq_decide.mpr
        omega
theorem ct_zero (p : Nat → Bool) : ∀ {n}, (∀ i, i < n → p i = false) → ct p n = 0
  | 0, _ => rfl
  | n + 1, h => by rw [ct, ct_zero p (fun i hi => h i (by omega)), h n (by omega)]; rfl
theorem pop_bset {N : Nat} (h : N ≤ 31) (p : Nat → Bool) : pop (bset N p) = ct p N := by
  unfold pop
  rw [show (32 : Nat) = N + (32 - N) by omega, ct_add, ct_zero (fun i => (bset N p).testBit (N + i)) (fun i hi => ?_), Nat.add_zero]
  · refine ct_cong (fun i hi => ?_)
    rw [bset_bit]; simp [hi]
  · show (bset N p).testBit (N + i) = false
    rw [bset_bit, decide_eq_false (by omega), Bool.false_and]
/-- the lowest bit -/
theorem low_bit {S k : Nat} (hS : S < 2 ^ 32) (h1 : S.testBit k = true) (h2 : ∀ j, j < k → S.testBit j = false) : S &&& (2 ^ 32 - S) = 2 ^ k := by
  have hm : S % 2 ^ k = 0 := by
    apply Nat.eq_of_testBit_eq
    intro i
    rw [Nat.testBit_mod_two_pow, Nat.zero_testBit]
    by_cases e : i < k
    · rw [h2 i e, Bool.and_false]
    · simp [e]
  have ho : S / 2 ^ k % 2 = 1 := by
    rw [Nat.testBit_eq_decide_div_mod_eq] at h1
    exact of_decide_eq_true h1
  obtain ⟨u, hu⟩ : ∃ u, S = 2 ^ k * (2 * u) + 2 ^ k := ⟨S / 2 ^ k / 2, by
    have e1 := Nat.div_add_mod S (2 ^ k)
    have e2 := Nat.div_add_mod (S / 2 ^ k) 2
    rw [hm, Nat.add_zero] at e1
    rw [ho] at e2
    have e3 : 2 ^ k * (2 * (S / 2 ^ k / 2)) + 2 ^ k = 2 ^ k * (2 * (S / 2 ^ k / 2) + 1) := by rw [Nat.mul_add, Nat.mul_one]
    rw [e3, e2, e1]⟩
  have hp : 0 < 2 ^ k := Nat.pow_pos (by decide)
  obtain ⟨S1, e1⟩ : ∃ S1, S1 = 2 ^ k * (2 * u) + (2 ^ k - 1) := ⟨_, rfl⟩
  have hS1 : S = S1 + 1 := by omega
  apply Nat.eq_of_testBit_eq
  intro i
  rw [Nat.testBit_and, show 2 ^ 32 - S = 2 ^ 32 - (S1 + 1) by rw [hS1], Nat.testBit_two_pow_sub_succ (by omega), Nat.testBit_two_pow]
  have b1 : S1.testBit i = if i < k then true else (2 * u).testBit (i - k) := by
    rw [e1, Nat.testBit_two_pow_mul_add _ (by omega)]
    split
    · rename_i h
      rw [Nat.testBit_two_pow_sub_one]; simp [h]
    · rfl
  rcases Nat.lt_trichotomy i k with q | q | q
  · rw [h2 i q, Bool.false_and]; simp; omega
  · subst q
    rw [h1, b1, if_neg (by omega), Nat.sub_self]
    have hi : i < 32 := by
      rcases Nat.lt_or_ge i 32 with z | z
      · exact z
      · have := Nat.testBit_lt_two_pow (x := S) (i := i) (Nat.lt_of_lt_of_le hS (Nat.pow_le_pow_right (by decide) z))
        rw [this] at h1; cases h1
    simp [hi]
  · have b2 : S.testBit i = (2 * u + 1).testBit (i - k) := by
      rw [hu, show 2 ^ k * (2 * u) + 2 ^ k = 2 ^ k * (2 * u + 1) + 0 by rw [Nat.mul_add, Nat.mul_one]; rfl, Nat.testBit_two_pow_mul_add _ hp, if_neg (by omega)]
    rw [b1, if_neg (by omega), b2]
    obtain ⟨d, hd⟩ : ∃ d, i - k = d + 1 := ⟨i - k - 1, by omega⟩
    rw [hd, Nat.testBit_succ, Nat.testBit_succ, show (2 * u + 1) / 2 = 2 * u / 2 by omega]
    have : decide (k = i) = false := by simp; omega
    rw [this]
    cases (2 * u / 2).testBit d <;> simp
theorem pop_ones {k : Nat} (hk : k ≤ 31) : pop (2 ^ k - 1) = k := by
  have e : 2 ^ k - 1 = bset k (fun _ => true) := by
    apply Nat.eq_of_testBit_eq
    intro i
    rw [Nat.testBit_two_pow_sub_one, bset_bit, Bool.and_true]
  rw [e, pop_bset (by omega)]
  clear e hk
  induction k with
  | zero => rfl
  | succ k ih => rw [ct, ih]; rfl
theorem nI_neg {a : Nat} (h : a < 2 ^ 32) : -(nI a) = nI (2 ^ 32 - a) := by
  apply i32_inj
  show -(nI a).toBitVec = _
  rw [nI_bv, nI_bv]
  apply BitVec.eq_of_toNat_eq
  rw [BitVec.toNat_neg, BitVec.toNat_ofNat, BitVec.toNat_ofNat, Nat.mod_eq_of_lt h]
theorem X_firstCase_ok {N : Nat} {p : Nat → Bool} {σ : St} {Q : Int32 → St → Prop} (hN : N ≤ 27) (k : Q (match (List.range N).find? p with | none => (-5) | some k => nI k) σ) : P_X_firstCase (nI (bset N p)) σ Q := by
  have hl := bset_lt p N
  have h27 : 2 ^ N ≤ 2 ^ 27 := Nat.pow_le_pow_right (by decide) hN
  rcases Nat.lt_or_ge 0 (bset N p) with h0 | h0
  · -- a first one
    have hex : ∃ k, k < N ∧ p k = true ∧ ∀ j, j < k → p j = false := by
      clear k hl h27 hN
      induction N with
      | zero => simp [bset, sm] at h0
      | succ N ih =>
        rcases Nat.lt_or_ge 0 (bset N p) with q | q
        · obtain ⟨k, h1, h2⟩ := ih q
          exact ⟨k, by omega, h2⟩
        · have hz : bset N p = 0 := by omega
          have hall : ∀ j, j < N → p j = false := fun j hj => by
            have := bset_bit p N j
            rw [hz, Nat.zero_testBit] at this
            simp [hj] at this
            exact this
          refine ⟨N, by omega, ?_, hall⟩
          rw [← bset_or, hz] at h0
          cases hp : p N with
          | true => rfl
          | false => rw [hp] at h0; simp at h0
    obtain ⟨j, h1, h2, h3⟩ := hex
    rw [(find_range p N).1 j h1 h2 h3] at k
    refine b_ff (nI_ne0 h0 (by omega)) ?_
    have hlow := low_bit (S := bset N p) (k := j) (by omega) (by rw [bset_bit]; simp [h1, h2]) (fun i hi => by rw [bset_bit, h3 i hi, Bool.and_false])
    rw [nI_neg (by omega), nI_and, hlow, nI_sub (Nat.pow_pos (by decide))]
    have hj : 2 ^ j ≤ 2 ^ 27 := Nat.pow_le_pow_right (by decide) (by omega)
    refine I_bitCount_ok (by omega) ?_
    rw [pop_ones (by omega)]
    exact k
  · have hz : bset N p = 0 := by omega
    have hall : ∀ j, j < N → p j = false := fun j hj => by
      have := bset_bit p N j
      rw [hz, Nat.zero_testBit] at this
      simp [hj] at this
      exact this
    rw [(find_range p N).2 hall] at k
    rw [hz]
    exact b_tt rfl k
