/-! Worlds as numbers. -/
def dig (n c k : Nat) : Nat := c / n ^ k % n
def rhoL : List Nat := [0, 1, 2, 1, 0, 2, 2, 1, 0, 0, 2, 1, 1, 2, 0, 2, 0, 1]
def rho (w t : Nat) : Nat := rhoL.getD (3 * w + t) 0
def ways (n : Nat) : Nat := if n = 1 then 1 else if n = 2 then 2 else 6
def sm (f : Nat → Nat) : Nat → Nat
  | 0 => 0
  | n + 1 => sm f n + f n
def pos (n w k : Nat) : Nat := n * rho w (k / n) + rho w (k % n)
def rcode (n c w : Nat) : Nat := sm (fun k => rho w (dig n c k) * n ^ pos n w k) (n * n)
def mir (n c : Nat) : Nat := sm (fun k => dig n c k * n ^ (n * (k % n) + k / n)) (n * n)
def pln (n c : Nat) : Nat → Nat
  | 0 => c
  | w + 1 => Nat.min (pln n c w) (rcode n c (w + 1))
def plain (n c : Nat) : Nat := pln n c (ways n - 1)
def nok (n : Nat) : Prop := 1 ≤ n ∧ n ≤ 3
def wok (n c : Nat) : Prop := nok n ∧ c < n ^ (n * n)
theorem nok3 {n : Nat} (h : nok n) : n = 1 ∨ n = 2 ∨ n = 3 := by
  obtain ⟨h1, h2⟩ := h
  omega
theorem sm_cong {f g : Nat → Nat} : ∀ {n : Nat}, (∀ k, k < n → f k = g k) → sm f n = sm g n
  | 0, _ => rfl
  | n + 1, h => by rw [sm, sm, sm_cong (fun k hk => h k (by omega)), h n (by omega)]
theorem dig_lt {n c k : Nat} (h : 0 < n) : dig n c k < n := Nat.mod_lt _ h
/-- the code of a table -/
def cd (n : Nat) (f : Nat → Nat) (m : Nat) : Nat := sm (fun k => f k * n ^ k) m
theorem cd_lt {n : Nat} {f : Nat → Nat} (h0 : 0 < n) : ∀ {m : Nat}, (∀ k, k < m → f k < n) → cd n f m < n ^ m
  | 0, _ => by simp [cd, sm]
  | m + 1, h => by
    have ih := cd_lt h0 (m := m) (fun k hk => h k (by omega))
    have hm := h m (by omega)
    show cd n f m + f m * n ^ m < n ^ (m + 1)
    rw [Nat.pow_succ]
    have : f m * n ^ m + n ^ m ≤ n * n ^ m := by
      rw [← Nat.succ_mul]
      exact Nat.mul_le_mul_right _ hm
    rw [Nat.mul_comm (n ^ m) n]
    omega
theorem cd_dig {n : Nat} {f : Nat → Nat} (h0 : 0 < n) : ∀ {m : Nat}, (∀ k, k < m → f k < n) → ∀ k, k < m → dig n (cd n f m) k = f k
  | 0, _, k, hk => absurd hk (Nat.not_lt_zero k)
  | m + 1, h, k, hk => by
    have ih := cd_dig h0 (m := m) (fun k hk => h k (by omega))
    have hl := cd_lt h0 (m := m) (fun k hk => h k (by omega))
    have e : cd n f (m + 1) = cd n f m + f m * n ^ m := rfl
    rcases Nat.lt_or_ge k m with q | q
    · rw [← ih k q]
      unfold dig
      rw [e]
      have : n ^ m = n ^ k * (n * n ^ (m - k - 1)) := by
        rw [← Nat.mul_assoc, ← Nat.pow_succ, ← Nat.pow_add]
        congr 1
        omega
      rw [this, show f m * (n ^ k * (n * n ^ (m - k - 1))) = n ^ k * (n * (f m * n ^ (m - k - 1))) by rw [Nat.mul_left_comm, Nat.mul_left_comm (f m) n], Nat.add_mul_div_left _ _ (Nat.pow_pos h0), Nat.add_mul_mod_self_left]
    · have : k = m := by omega
      subst this
      unfold dig
      rw [e, Nat.add_mul_div_right _ _ (Nat.pow_pos h0), Nat.div_eq_of_lt hl, Nat.zero_add, Nat.mod_eq_of_lt (h k (by omega))]
theorem dig_cd {n c : Nat} (h0 : 0 < n) : ∀ m, cd n (dig n c) m = c % n ^ m
  | 0 => by simp [cd, sm, Nat.mod_one]
  | m + 1 => by
    show cd n (dig n c) m + dig n c m * n ^ m = _
    rw [dig_cd h0 m, dig, Nat.pow_succ, Nat.mod_mul, Nat.mul_comm (n ^ m)]
theorem dig_cd' {n c m : Nat} (h0 : 0 < n) (h : c < n ^ m) : cd n (dig n c) m = c := by rw [dig_cd h0, Nat.mod_eq_of_lt h]
theorem dig_ext {n c c' m : Nat} (h0 : 0 < n) (h : c < n ^ m) (h' : c' < n ^ m) (e : ∀ k, k < m → dig n c k = dig n c' k) : c = c' := by
  rw [← dig_cd' h0 h, ← dig_cd' h0 h']
  exact sm_cong (fun k hk => by rw [e k hk])
def rinv (w : Nat) : Nat := if w = 4 then 5 else if w = 5 then 4 else w
theorem rho_tab : ∀ w, w < 6 → ∀ t, t < 3 → rho w t < 3 ∧ rho (rinv w) (rho w t) = t ∧ rho w (rho (rinv w) t) = t := by decide +kernel
theorem rho_id : ∀ t, t < 3 → rho 0 t = t := by decide +kernel
theorem rho_lt {n w t : Nat} (hn : nok n) (hw : w < ways n) (ht : t < n) : rho w t < n := by
  rcases nok3 hn with rfl | rfl | rfl
  · have : w = 0 := by simp [ways] at hw; omega
    have : t = 0 := by omega
    subst_vars; decide
  · have h2 : ∀ w, w < 2 → ∀ t, t < 2 → rho w t < 2 := by decide +kernel
    exact h2 w (by simpa [ways] using hw) t ht
  · exact (rho_tab w (by simpa [ways] using hw) t ht).1
theorem pos_lt {n w k : Nat} (hn : nok n) (hw : w < ways n) (hk : k < n * n) : pos n w k < n * n := by
  have h0 : 0 < n := hn.1
  have h1 := rho_lt hn hw (Nat.div_lt_of_lt_mul hk)
  have h2 := rho_lt hn hw (Nat.mod_lt k h0)
  unfold pos
  calc n * rho w (k / n) + rho w (k % n) < n * rho w (k / n) + n := by omega
    _ = n * (rho w (k / n) + 1) := by rw [Nat.mul_succ]
    _ ≤ n * n := Nat.mul_le_mul_left _ h1
/-- a renamed world, as a table -/
theorem rcode_cd {n c w : Nat} (hn : nok n) (hw : w < ways n) : rcode n c w = cd n (fun k => rho w (dig n c (pos n (rinv w) k))) (n * n) := by
  rcases nok3 hn with rfl | rfl | rfl
  · have : w = 0 := by simp [ways] at hw; omega
    subst this
    rfl
  · have h2 : w = 0 ∨ w = 1 := by simp [ways] at hw; omega
    rcases h2 with rfl | rfl
    · simp only [rcode, cd, sm, show (2 * 2 : Nat) = 4 from rfl, show ∀ k, k < 4 → pos 2 0 k = k by decide +kernel, show rinv 0 = 0 from rfl]
      simp [pos, rho, rhoL]
    · simp only [rcode, cd, sm, show (2 * 2 : Nat) = 4 from rfl, show rinv 1 = 1 from rfl, show pos 2 1 0 = 3 by decide, show pos 2 1 1 = 2 by decide, show pos 2 1 2 = 1 by decide, show pos 2 1 3 = 0 by decide]
      omega
  · have h6 : w = 0 ∨ w = 1 ∨ w = 2 ∨ w = 3 ∨ w = 4 ∨ w = 5 := by simp [ways] at hw; omega
    rcases h6 with rfl | rfl | rfl | rfl | rfl | rfl
    · simp only [rcode, cd, sm, show (3 * 3 : Nat) = 9 from rfl, show rinv 0 = 0 from rfl, show pos 3 0 0 = 0 by decide, show pos 3 0 1 = 1 by decide, show pos 3 0 2 = 2 by decide, show pos 3 0 3 = 3 by decide, show pos 3 0 4 = 4 by decide, show pos 3 0 5 = 5 by decide, show pos 3 0 6 = 6 by decide, show pos 3 0 7 = 7 by decide, show pos 3 0 8 = 8 by decide]
    · simp only [rcode, cd, sm, show (3 * 3 : Nat) = 9 from rfl, show rinv 1 = 1 from rfl, show pos 3 1 0 = 4 by decide, show pos 3 1 1 = 3 by decide, show pos 3 1 2 = 5 by decide, show pos 3 1 3 = 1 by decide, show pos 3 1 4 = 0 by decide, show pos 3 1 5 = 2 by decide, show pos 3 1 6 = 7 by decide, show pos 3 1 7 = 6 by decide, show pos 3 1 8 = 8 by decide]
      omega
    · simp only [rcode, cd, sm, show (3 * 3 : Nat) = 9 from rfl, show rinv 2 = 2 from rfl, show pos 3 2 0 = 8 by decide, show pos 3 2 1 = 7 by decide, show pos 3 2 2 = 6 by decide, show pos 3 2 3 = 5 by decide, show pos 3 2 4 = 4 by decide, show pos 3 2 5 = 3 by decide, show pos 3 2 6 = 2 by decide, show pos 3 2 7 = 1 by decide, show pos 3 2 8 = 0 by decide]
      omega
    · simp only [rcode, cd, sm, show (3 * 3 : Nat) = 9 from rfl, show rinv 3 = 3 from rfl, show pos 3 3 0 = 0 by decide, show pos 3 3 1 = 2 by decide, show pos 3 3 2 = 1 by decide, show pos 3 3 3 = 6 by decide, show pos 3 3 4 = 8 by decide, show pos 3 3 5 = 7 by decide, show pos 3 3 6 = 3 by decide, show pos 3 3 7 = 5 by decide, show pos 3 3 8 = 4 by decide]
      omega
    · simp only [rcode, cd, sm, show (3 * 3 : Nat) = 9 from rfl, show rinv 4 = 5 from rfl, show pos 3 4 0 = 4 by decide, show pos 3 4 1 = 5 by decide, show pos 3 4 2 = 3 by decide, show pos 3 4 3 = 7 by decide, show pos 3 4 4 = 8 by decide, show pos 3 4 5 = 6 by decide, show pos 3 4 6 = 1 by decide, show pos 3 4 7 = 2 by decide, show pos 3 4 8 = 0 by decide, show pos 3 5 0 = 8 by decide, show pos 3 5 1 = 6 by decide, show pos 3 5 2 = 7 by decide, show pos 3 5 3 = 2 by decide, show pos 3 5 4 = 0 by decide, show pos 3 5 5 = 1 by decide, show pos 3 5 6 = 5 by decide, show pos 3 5 7 = 3 by decide, show pos 3 5 8 = 4 by decide]
      omega
    · simp only [rcode, cd, sm, show (3 * 3 : Nat) = 9 from rfl, show rinv 5 = 4 from rfl, show pos 3 4 0 = 4 by decide, show pos 3 4 1 = 5 by decide, show pos 3 4 2 = 3 by decide, show pos 3 4 3 = 7 by decide, show pos 3 4 4 = 8 by decide, show pos 3 4 5 = 6 by decide, show pos 3 4 6 = 1 by decide, show pos 3 4 7 = 2 by decide, show pos 3 4 8 = 0 by decide, show pos 3 5 0 = 8 by decide, show pos 3 5 1 = 6 by decide, show pos 3 5 2 = 7 by decide, show pos 3 5 3 = 2 by decide, show pos 3 5 4 = 0 by decide, show pos 3 5 5 = 1 by decide, show pos 3 5 6 = 5 by decide, show pos 3 5 7 = 3 by decide, show pos 3 5 8 = 4 by decide]
      omega
