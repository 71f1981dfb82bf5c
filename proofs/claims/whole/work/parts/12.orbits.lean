/-! Worlds that are alike. -/
theorem rinv_ways {n w : Nat} (hn : nok n) (hw : w < ways n) : rinv w < ways n := by
  rcases nok3 hn with rfl | rfl | rfl
  · have : w = 0 := by simp [ways] at hw; omega
    subst this; decide
  · have h2 : w = 0 ∨ w = 1 := by simp [ways] at hw; omega
    rcases h2 with rfl | rfl <;> decide
  · have h6 : ∀ w, w < 6 → rinv w < 6 := by decide
    exact h6 w (by simpa [ways] using hw)
theorem dpos_lt {n c w k : Nat} (hn : nok n) (hw : w < ways n) : rho w (dig n c (pos n (rinv w) k)) < n := rho_lt hn hw (dig_lt hn.1)
theorem rcode_lt {n c w : Nat} (hn : nok n) (hw : w < ways n) : rcode n c w < n ^ (n * n) := by
  rw [rcode_cd hn hw]
  exact cd_lt hn.1 (fun k _ => dpos_lt hn hw)
theorem rcode_dig {n c w k : Nat} (hn : nok n) (hw : w < ways n) (hk : k < n * n) : dig n (rcode n c w) k = rho w (dig n c (pos n (rinv w) k)) := by
  rw [rcode_cd hn hw]
  exact cd_dig hn.1 (fun k _ => dpos_lt hn hw) k hk
theorem pos_id : ∀ n, n < 4 → ∀ k, k < n * n → pos n 0 k = k := by decide +kernel
theorem rcode_0 {n c : Nat} (h : wok n c) : rcode n c 0 = c := by
  obtain ⟨hn, hc⟩ := h
  have h0 : 0 < ways n := by rcases nok3 hn with rfl | rfl | rfl <;> decide
  refine dig_ext hn.1 (rcode_lt hn h0) hc (fun k hk => ?_)
  rw [rcode_dig hn h0 hk, show rinv 0 = 0 from rfl, pos_id n (by have := hn.2; omega) k hk]
  exact rho_id _ (by have := dig_lt (n := n) (c := c) (k := k) hn.1; have := hn.2; omega)
/-- renamings put together -/
def rmul (v w : Nat) : Nat := ([0, 1, 2, 3, 4, 5, 1, 0, 5, 4, 3, 2, 2, 4, 0, 5, 1, 3, 3, 5, 4, 0, 2, 1, 4, 2, 3, 1, 5, 0, 5, 3, 1, 2, 0, 4] : List Nat).getD (6 * v + w) 0
theorem rmul_ok : ∀ v, v < 6 → ∀ w, w < 6 → rmul v w < 6 ∧ (∀ t, t < 3 → rho v (rho w t) = rho (rmul v w) t) ∧ rmul (rinv w) w = 0 ∧ rmul w (rinv w) = 0 ∧ rinv (rmul v w) = rmul (rinv w) (rinv v) := by decide +kernel
theorem rmul_ways {n v w : Nat} (hn : nok n) (hv : v < ways n) (hw : w < ways n) : rmul v w < ways n := by
  rcases nok3 hn with rfl | rfl | rfl
  · have : w = 0 := by simp [ways] at hw; omega
    have : v = 0 := by simp [ways] at hv; omega
    subst_vars; decide
  · have h2 : ∀ v, v < 2 → ∀ w, w < 2 → rmul v w < 2 := by decide +kernel
    exact h2 v (by simpa [ways] using hv) w (by simpa [ways] using hw)
  · exact (rmul_ok v (by simpa [ways] using hv) w (by simpa [ways] using hw)).1
theorem ways_le {n : Nat} : ways n ≤ 6 := by unfold ways; split <;> (try split) <;> omega
theorem rho_mul {v w t : Nat} (hv : v < 6) (hw : w < 6) (ht : t < 3) : rho v (rho w t) = rho (rmul v w) t := (rmul_ok v hv w hw).2.1 t ht
theorem pos_mul {n v w k : Nat} (hn : nok n) (hv : v < ways n) (hw : w < ways n) (hk : k < n * n) : pos n v (pos n w k) = pos n (rmul v w) k := by
  have h0 := hn.1
  have w6 := ways_le (n := n)
  have h1 := rho_lt hn hw (Nat.div_lt_of_lt_mul hk)
  have h2 := rho_lt hn hw (Nat.mod_lt k h0)
  have n3 := hn.2
  have e1 : pos n w k / n = rho w (k / n) := by unfold pos; rw [Nat.mul_add_div h0, Nat.div_eq_of_lt h2]; rfl
  have e2 : pos n w k % n = rho w (k % n) := by unfold pos; rw [Nat.mul_add_mod, Nat.mod_eq_of_lt h2]
  have q1 : k / n < 3 := Nat.lt_of_lt_of_le (Nat.div_lt_of_lt_mul hk) n3
  have q2 : k % n < 3 := Nat.lt_of_lt_of_le (Nat.mod_lt k h0) n3
  rw [show pos n v (pos n w k) = n * rho v (pos n w k / n) + rho v (pos n w k % n) from rfl, e1, e2, rho_mul (by omega) (by omega) q1, rho_mul (by omega) (by omega) q2]
  rfl
theorem rcode_mul {n c v w : Nat} (hn : nok n) (hv : v < ways n) (hw : w < ways n) : rcode n (rcode n c w) v = rcode n c (rmul v w) := by
  have w6 := ways_le (n := n)
  have hm := rmul_ways hn hv hw
  refine dig_ext hn.1 (rcode_lt hn hv) (rcode_lt hn hm) (fun k hk => ?_)
  rw [rcode_dig hn hv hk, rcode_dig hn hm hk, rcode_dig hn hw (pos_lt hn (rinv_ways hn hv) hk), pos_mul hn (rinv_ways hn hw) (rinv_ways hn hv) hk, ← (rmul_ok v (by omega) w (by omega)).2.2.2.2, rho_mul (by omega) (by omega) (Nat.lt_of_lt_of_le (dig_lt hn.1) hn.2)]
theorem rcode_inv {n c w : Nat} (h : wok n c) (hw : w < ways n) : rcode n (rcode n c w) (rinv w) = c := by
  have w6 := ways_le (n := n)
  rw [rcode_mul h.1 (rinv_ways h.1 hw) hw, (rmul_ok w (by omega) w (by omega)).2.2.1, rcode_0 h]
theorem rcode_inv' {n c w : Nat} (h : wok n c) (hw : w < ways n) : rcode n (rcode n c (rinv w)) w = c := by
  have w6 := ways_le (n := n)
  rw [rcode_mul h.1 hw (rinv_ways h.1 hw), (rmul_ok w (by omega) w (by omega)).2.2.2.1, rcode_0 h]
/-! plain codes -/
theorem pln_le {n c : Nat} (h : wok n c) : ∀ m w, w ≤ m → pln n c m ≤ rcode n c w
  | 0, w, hw => by
    have : w = 0 := by omega
    subst this
    rw [rcode_0 h]
    exact Nat.le_refl _
  | m + 1, w, hw => by
    rcases Nat.lt_or_ge w (m + 1) with q | q
    · exact Nat.le_trans (Nat.min_le_left _ _) (pln_le h m w (by omega))
    · have : w = m + 1 := by omega
      subst this
      exact Nat.min_le_right _ _
theorem pln_ex {n c : Nat} (h : wok n c) : ∀ m, ∃ w, w ≤ m ∧ pln n c m = rcode n c w
  | 0 => ⟨0, Nat.le_refl _, (rcode_0 h).symm⟩
  | m + 1 => by
    obtain ⟨w, h1, h2⟩ := pln_ex h m
    rcases Nat.le_total (pln n c m) (rcode n c (m + 1)) with q | q
    · exact ⟨w, by omega, by rw [← h2]; exact Nat.min_eq_left q⟩
    · exact ⟨m + 1, Nat.le_refl _, Nat.min_eq_right q⟩
theorem ways_pos (n : Nat) : 0 < ways n := by unfold ways; split <;> (try split) <;> omega
theorem plain_le {n c w : Nat} (h : wok n c) (hw : w < ways n) : plain n c ≤ rcode n c w := pln_le h _ w (by omega)
theorem plain_ex {n c : Nat} (h : wok n c) : ∃ w, w < ways n ∧ plain n c = rcode n c w := by
  obtain ⟨w, h1, h2⟩ := pln_ex h (ways n - 1)
  have := ways_pos n
  exact ⟨w, by omega, h2⟩
theorem plain_le_self {n c : Nat} (h : wok n c) : plain n c ≤ c := by
  have := plain_le h (ways_pos n)
  rwa [rcode_0 h] at this
theorem rcode_wok {n c w : Nat} (hn : nok n) (hw : w < ways n) : wok n (rcode n c w) := ⟨hn, rcode_lt hn hw⟩
theorem plain_rcode {n c w : Nat} (h : wok n c) (hw : w < ways n) : plain n (rcode n c w) = plain n c := by
  have hr := rcode_wok (c := c) h.1 hw
  apply Nat.le_antisymm
  · obtain ⟨v, h1, h2⟩ := plain_ex h
    rw [h2]
    have e : rcode n (rcode n c w) (rmul v (rinv w)) = rcode n c v := by
      rw [← rcode_mul h.1 h1 (rinv_ways h.1 hw), rcode_inv h hw]
    rw [← e]
    exact plain_le hr (rmul_ways h.1 h1 (rinv_ways h.1 hw))
  · obtain ⟨v, h1, h2⟩ := plain_ex hr
    rw [h2, rcode_mul h.1 h1 hw]
    exact plain_le h (rmul_ways h.1 h1 hw)
theorem plain_wok {n c : Nat} (h : wok n c) : wok n (plain n c) := by
  obtain ⟨v, h1, h2⟩ := plain_ex h
  rw [h2]; exact rcode_wok h.1 h1
theorem plain_plain {n c : Nat} (h : wok n c) : plain n (plain n c) = plain n c := by
  obtain ⟨v, h1, h2⟩ := plain_ex h
  rw [h2, plain_rcode h h1, h2]
/-- two worlds of one orbit -/
theorem plain_eq_iff {n c d : Nat} (h : wok n c) (h' : wok n d) : plain n c = plain n d ↔ ∃ w, w < ways n ∧ rcode n c w = d := by
  constructor
  · intro e
    obtain ⟨v, h1, h2⟩ := plain_ex h
    obtain ⟨u, h3, h4⟩ := plain_ex h'
    refine ⟨rmul (rinv u) v, rmul_ways h.1 (rinv_ways h.1 h3) h1, ?_⟩
    rw [← rcode_mul h.1 (rinv_ways h.1 h3) h1, ← h2, e, h4, rcode_inv h' h3]
  · rintro ⟨w, hw, rfl⟩
    exact (plain_rcode h hw).symm
/-! how many -/
def ct (p : Nat → Bool) : Nat → Nat
  | 0 => 0
  | n + 1 => ct p n + (if p n then 1 else 0)
theorem ct_cong {p q : Nat → Bool} : ∀ {n : Nat}, (∀ k, k < n → p k = q k) → ct p n = ct q n
  | 0, _ => rfl
  | n + 1, h => by rw [ct, ct, ct_cong (fun k hk => h k (by omega)), h n (by omega)]
theorem ct_le (p : Nat → Bool) : ∀ n, ct p n ≤ n
  | 0 => Nat.le_refl _
  | n + 1 => by
    have := ct_le p n
    rw [ct]; split <;> omega
theorem ct_mono (p : Nat → Bool) {m n : Nat} (h : m ≤ n) : ct p m ≤ ct p n := by
  induction h with
  | refl => exact Nat.le_refl _
  | step h ih => rw [ct]; omega
def isP (n : Nat) (c : Nat) : Bool := plain n c == c
/-- counted by thirds -/
def ctB (p : Nat → Bool) (lo : Nat) : Nat → Nat
  | 0 => if p lo then 1 else 0
  | k + 1 => ctB p lo k + ctB p (lo + 3 ^ k) k + ctB p (lo + 2 * 3 ^ k) k
theorem ctB_ct (p : Nat → Bool) : ∀ k lo, ct p lo + ctB p lo k = ct p (lo + 3 ^ k)
  | 0, lo => rfl
  | k + 1, lo => by
    rw [ctB, ← Nat.add_assoc, ← Nat.add_assoc, ctB_ct p k lo, ctB_ct p k (lo + 3 ^ k), show lo + 3 ^ k + 3 ^ k = lo + 2 * 3 ^ k by omega, ctB_ct p k (lo + 2 * 3 ^ k)]
    congr 1
    rw [Nat.pow_succ]
    omega
