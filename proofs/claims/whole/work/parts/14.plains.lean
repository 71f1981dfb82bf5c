/-! The plain worlds in their order. -/
def fo (n : Nat) : Nat := if n ≤ 1 then 0 else if n = 2 then 1 else if n = 3 then 11 else 3341
def pws (w : Nat) : Nat := if w < 1 then 1 else if w < 11 then 2 else 3
def kf (p : Nat → Bool) (k : Nat) : Nat → Nat
  | 0 => 0
  | N + 1 => if p N && ct p N == k then N else kf p k N
def pwc (w : Nat) : Nat := kf (isP (pws w)) (w - fo (pws w)) (pws w ^ (pws w * pws w))
def pidx (n c : Nat) : Nat := fo n + ct (isP n) c
theorem ct_lt {p : Nat → Bool} {c N : Nat} (hp : p c = true) (h : c < N) : ct p c < ct p N := by
  have := ct_mono p (show c + 1 ≤ N from h)
  rw [ct, hp] at this
  simp at this
  omega
theorem kf_eq {p : Nat → Bool} {c : Nat} (hp : p c = true) : ∀ {N : Nat}, c < N → kf p (ct p c) N = c
  | 0, h => absurd h (Nat.not_lt_zero c)
  | N + 1, h => by
    rw [kf]
    rcases Nat.lt_or_ge c N with q | q
    · rw [if_neg, kf_eq hp q]
      simp only [Bool.and_eq_true, beq_iff_eq, not_and]
      intro _ h2
      have := ct_lt hp q
      omega
    · have : c = N := by omega
      subst this
      rw [if_pos]
      simp [hp]
theorem ct_kth {p : Nat → Bool} {k : Nat} : ∀ {N : Nat}, k < ct p N → ∃ i, i < N ∧ p i = true ∧ ct p i = k
  | 0, h => absurd h (Nat.not_lt_zero k)
  | N + 1, h => by
    rcases Nat.lt_or_ge k (ct p N) with q | q
    · obtain ⟨i, h1, h2⟩ := ct_kth q
      exact ⟨i, by omega, h2⟩
    · rw [ct] at h
      cases hp : p N with
      | true =>
        rw [hp] at h
        simp at h
        exact ⟨N, by omega, hp, by omega⟩
      | false =>
        rw [hp] at h
        simp at h
        omega
theorem cnt_n {n : Nat} (hn : nok n) : fo n + ct (isP n) (n ^ (n * n)) = fo (n + 1) := by
  rcases nok3 hn with rfl | rfl | rfl
  · rw [show (1 : Nat) ^ (1 * 1) = 1 from rfl, cnt1]; rfl
  · rw [show (2 : Nat) ^ (2 * 2) = 16 from rfl, cnt2]; rfl
  · rw [show (3 : Nat) ^ (3 * 3) = 19683 from rfl, cnt3]; rfl
theorem pidx_lt {n c : Nat} (h : wok n c) (hp : isP n c = true) : fo n ≤ pidx n c ∧ pidx n c < fo (n + 1) := by
  refine ⟨Nat.le_add_right _ _, ?_⟩
  rw [← cnt_n h.1]
  exact Nat.add_lt_add_left (ct_lt hp h.2) _
theorem fo_le : fo 1 = 0 ∧ fo 2 = 1 ∧ fo 3 = 11 ∧ fo 4 = 3341 := ⟨rfl, rfl, rfl, rfl⟩
theorem pws_fo {n w : Nat} (hn : nok n) (h1 : fo n ≤ w) (h2 : w < fo (n + 1)) : pws w = n := by
  rcases nok3 hn with rfl | rfl | rfl
  · have : w < 1 := h2
    simp [pws, this]
  · have h1 : 1 ≤ w := h1
    have h2 : w < 11 := h2
    simp [pws, h2, Nat.not_lt.mpr h1]
  · have h1 : 11 ≤ w := h1
    have h2 : w < 3341 := h2
    simp [pws, show ¬ w < 1 by omega, show ¬ w < 11 by omega]
theorem pws_pidx {n c : Nat} (h : wok n c) (hp : isP n c = true) : pws (pidx n c) = n := pws_fo h.1 (pidx_lt h hp).1 (pidx_lt h hp).2
theorem pwc_pidx {n c : Nat} (h : wok n c) (hp : isP n c = true) : pwc (pidx n c) = c := by
  unfold pwc
  rw [pws_pidx h hp, show pidx n c - fo n = ct (isP n) c by unfold pidx; omega]
  exact kf_eq hp h.2
theorem pws_nok (w : Nat) : nok (pws w) := by
  unfold pws
  split
  · exact ⟨by decide, by decide⟩
  · split <;> exact ⟨by decide, by decide⟩
theorem pws_rng {w : Nat} (h : w < 3341) : fo (pws w) ≤ w ∧ w < fo (pws w + 1) := by
  unfold pws
  split
  · simp [fo]; omega
  · split
    · simp [fo]; omega
    · simp [fo]; omega
theorem pw_ok {w : Nat} (h : w < 3341) : isP (pws w) (pwc w) = true ∧ wok (pws w) (pwc w) ∧ pidx (pws w) (pwc w) = w := by
  have hn := pws_nok w
  obtain ⟨h1, h2⟩ := pws_rng h
  have h3 : w - fo (pws w) < ct (isP (pws w)) (pws w ^ (pws w * pws w)) := by
    have := cnt_n hn
    omega
  obtain ⟨c, hc, hp, hk⟩ := ct_kth h3
  have e : pidx (pws w) c = w := by unfold pidx; omega
  have e2 : pwc w = c := by
    have := pwc_pidx ⟨hn, hc⟩ hp
    rw [e] at this
    exact this
  rw [e2]
  exact ⟨hp, ⟨hn, hc⟩, e⟩
/-! orbits and those that stay -/
def oc (n c : Nat) : Nat := ct (fun i => (List.range i).all (fun j => !(rcode n c j == rcode n c i))) (ways n)
def stb (n c : Nat) : Nat := ct (fun w => rcode n c w == c) (ways n)
theorem rcode_inj {n c d w : Nat} (h : wok n c) (h' : wok n d) (hw : w < ways n) (e : rcode n c w = rcode n d w) : c = d := by
  rw [← rcode_inv h hw, e, rcode_inv h' hw]
theorem rcode_same {n c i j : Nat} (h : wok n c) (hi : i < ways n) (hj : j < ways n) : (rcode n c j == rcode n c i) = (rcode n c (rmul (rinv j) i) == c) := by
  have hv := rinv_ways h.1 hj
  rw [Bool.eq_iff_iff, beq_iff_eq, beq_iff_eq, ← rcode_mul h.1 hv hi]
  constructor
  · intro e
    rw [← e, rcode_inv h hj]
  · intro e
    have := rcode_inv' (c := rcode n c i) (rcode_wok h.1 hi) hj
    rw [← this, e]
theorem orb2 (s : Nat → Nat → Bool) (b : Nat → Bool) (hs : ∀ i, i < 2 → ∀ j, j < 2 → s j i = b (rmul (rinv j) i)) (b0 : b 0 = true) : ct (fun i => (List.range i).all (fun j => !(s j i))) 2 = 2 / ct b 2 ∧ 0 < ct b 2 := by
  have e1 := hs 1 (by decide) 0 (by decide)
  rw [show rmul (rinv 0) 1 = 1 by decide] at e1
  simp only [ct, List.range_zero, List.all_nil, show List.range 1 = [0] from rfl, List.all_cons, Bool.and_true, e1, b0]
  generalize b 1 = x1
  revert x1
  decide
theorem orb6 (s : Nat → Nat → Bool) (b : Nat → Bool) (hs : ∀ i, i < 6 → ∀ j, j < 6 → s j i = b (rmul (rinv j) i)) (b0 : b 0 = true) (cl : ∀ v, v < 6 → ∀ w, w < 6 → b v = true → b w = true → b (rmul v w) = true) : ct (fun i => (List.range i).all (fun j => !(s j i))) 6 = 6 / ct b 6 ∧ 0 < ct b 6 := by
  have e01 := hs 1 (by decide) 0 (by decide)
  have e02 := hs 2 (by decide) 0 (by decide)
  have e12 := hs 2 (by decide) 1 (by decide)
  have e03 := hs 3 (by decide) 0 (by decide)
  have e13 := hs 3 (by decide) 1 (by decide)
  have e23 := hs 3 (by decide) 2 (by decide)
  have e04 := hs 4 (by decide) 0 (by decide)
  have e14 := hs 4 (by decide) 1 (by decide)
  have e24 := hs 4 (by decide) 2 (by decide)
  have e34 := hs 4 (by decide) 3 (by decide)
  have e05 := hs 5 (by decide) 0 (by decide)
  have e15 := hs 5 (by decide) 1 (by decide)
  have e25 := hs 5 (by decide) 2 (by decide)
  have e35 := hs 5 (by decide) 3 (by decide)
  have e45 := hs 5 (by decide) 4 (by decide)
  have c12 := cl 1 (by decide) 2 (by decide)
  have c21 := cl 2 (by decide) 1 (by decide)
  have c13 := cl 1 (by decide) 3 (by decide)
  have c31 := cl 3 (by decide) 1 (by decide)
  have c23 := cl 2 (by decide) 3 (by decide)
  have c32 := cl 3 (by decide) 2 (by decide)
  have c44 := cl 4 (by decide) 4 (by decide)
  have c55 := cl 5 (by decide) 5 (by decide)
  have c14 := cl 1 (by decide) 4 (by decide)
  have c24 := cl 2 (by decide) 4 (by decide)
  have c34 := cl 3 (by decide) 4 (by decide)
  have c41 := cl 4 (by decide) 1 (by decide)
  have c42 := cl 4 (by decide) 2 (by decide)
  have c43 := cl 4 (by decide) 3 (by decide)
  simp only [show rmul (rinv 0) 1 = 1 by decide, show rmul (rinv 0) 2 = 2 by decide, show rmul (rinv 1) 2 = rmul 1 2 by decide, show rmul (rinv 0) 3 = 3 by decide, show rmul (rinv 1) 3 = rmul 1 3 by decide, show rmul (rinv 2) 3 = rmul 2 3 by decide, show rmul (rinv 0) 4 = 4 by decide, show rmul (rinv 1) 4 = rmul 1 4 by decide, show rmul (rinv 2) 4 = rmul 2 4 by decide, show rmul (rinv 3) 4 = rmul 3 4 by decide, show rmul (rinv 0) 5 = 5 by decide, show rmul (rinv 1) 5 = rmul 1 5 by decide, show rmul (rinv 2) 5 = rmul 2 5 by decide, show rmul (rinv 3) 5 = rmul 3 5 by decide, show rmul (rinv 4) 5 = rmul 5 5 by decide] at e01 e02 e12 e03 e13 e23 e04 e14 e24 e34 e05 e15 e25 e35 e45
  simp only [ct, show List.range 0 = [] from rfl, show List.range 1 = [0] from rfl, show List.range 2 = [0, 1] from rfl, show List.range 3 = [0, 1, 2] from rfl, show List.range 4 = [0, 1, 2, 3] from rfl, show List.range 5 = [0, 1, 2, 3, 4] from rfl, List.all_cons, List.all_nil, e01, e02, e12, e03, e13, e23, e04, e14, e24, e34, e05, e15, e25, e35, e45]
  simp only [show rmul 1 2 = 5 by decide, show rmul 2 1 = 4 by decide, show rmul 1 3 = 4 by decide, show rmul 3 1 = 5 by decide, show rmul 2 3 = 5 by decide, show rmul 3 2 = 4 by decide, show rmul 4 4 = 5 by decide, show rmul 5 5 = 4 by decide, show rmul 1 4 = 3 by decide, show rmul 2 4 = 1 by decide, show rmul 3 4 = 2 by decide, show rmul 4 1 = 2 by decide, show rmul 4 2 = 3 by decide, show rmul 4 3 = 1 by decide, show rmul 1 5 = 2 by decide, show rmul 2 5 = 3 by decide, show rmul 3 5 = 1 by decide, b0] at c12 c21 c13 c31 c23 c32 c44 c55 c14 c24 c34 c41 c42 c43 ⊢
  generalize b 1 = x1 at *
  generalize b 2 = x2 at *
  generalize b 3 = x3 at *
  generalize b 4 = x4 at *
  generalize b 5 = x5 at *
  clear e01 e02 e12 e03 e13 e23 e04 e14 e24 e34 e05 e15 e25 e35 e45 hs cl b0
  cases x1 <;> cases x2 <;> cases x3 <;> cases x4 <;> cases x5 <;> first | (simp at c12 c21 c13 c31 c23 c32 c44 c55 c14 c24 c34 c41 c42 c43; done) | decide | (simp; done)
theorem oc_ways {n c : Nat} (h : wok n c) : oc n c = ways n / stb n c ∧ 0 < stb n c := by
  have h0 : (rcode n c 0 == c) = true := by rw [beq_iff_eq]; exact rcode_0 h
  rcases nok3 h.1 with rfl | rfl | rfl
  · have e : rcode 1 c 0 = c := rcode_0 h
    simp [oc, stb, ways, ct, e]
  · exact orb2 (fun j i => rcode 2 c j == rcode 2 c i) (fun w => rcode 2 c w == c) (fun i hi j hj => rcode_same h hi hj) h0
  · refine orb6 (fun j i => rcode 3 c j == rcode 3 c i) (fun w => rcode 3 c w == c) (fun i hi j hj => rcode_same h hi hj) h0 ?_
    intro v hv w hw h1 h2
    rw [beq_iff_eq] at h1 h2 ⊢
    rw [← rcode_mul h.1 hv hw, h2, h1]
