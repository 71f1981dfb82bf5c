/-! how many plain worlds there are -/
def pk4 (K d : Nat) : Nat := K / 4 ^ d % 4
def fr (K c p0 p1 p2 p3 p4 p5 p6 p7 p8 : Nat) : Nat := pk4 K (c % 3) * p0 + pk4 K (c / 3 % 3) * p1 + pk4 K (c / 9 % 3) * p2 + pk4 K (c / 27 % 3) * p3 + pk4 K (c / 81 % 3) * p4 + pk4 K (c / 243 % 3) * p5 + pk4 K (c / 729 % 3) * p6 + pk4 K (c / 2187 % 3) * p7 + pk4 K (c / 6561 % 3) * p8
def isPf (c : Nat) : Bool :=
  Nat.ble c (fr 33 c 81 27 243 3 1 9 2187 729 6561) && (Nat.ble c (fr 6 c 6561 2187 729 243 81 27 9 3 1) && (Nat.ble c (fr 24 c 1 9 3 729 6561 2187 27 243 81) && (Nat.ble c (fr 9 c 81 243 27 2187 6561 729 3 9 1) && Nat.ble c (fr 18 c 6561 729 2187 9 1 3 243 27 81))))
theorem pk4_rho : ∀ t, t < 3 → pk4 33 t = rho 1 t ∧ pk4 6 t = rho 2 t ∧ pk4 24 t = rho 3 t ∧ pk4 9 t = rho 4 t ∧ pk4 18 t = rho 5 t := by decide +kernel
theorem rcode3 (c w p0 p1 p2 p3 p4 p5 p6 p7 p8 K : Nat) (hK : ∀ t, t < 3 → pk4 K t = rho w t) (h : pos 3 w 0 = p0 ∧ pos 3 w 1 = p1 ∧ pos 3 w 2 = p2 ∧ pos 3 w 3 = p3 ∧ pos 3 w 4 = p4 ∧ pos 3 w 5 = p5 ∧ pos 3 w 6 = p6 ∧ pos 3 w 7 = p7 ∧ pos 3 w 8 = p8) : rcode 3 c w = fr K c (3 ^ p0) (3 ^ p1) (3 ^ p2) (3 ^ p3) (3 ^ p4) (3 ^ p5) (3 ^ p6) (3 ^ p7) (3 ^ p8) := by
  obtain ⟨h0, h1, h2, h3, h4, h5, h6, h7, h8⟩ := h
  have hd : ∀ k, pk4 K (c / 3 ^ k % 3) = rho w (c / 3 ^ k % 3) := fun k => hK _ (Nat.mod_lt _ (by decide))
  have d0 := hd 0
  have d1 := hd 1
  have d2 := hd 2
  have d3 := hd 3
  have d4 := hd 4
  have d5 := hd 5
  have d6 := hd 6
  have d7 := hd 7
  have d8 := hd 8
  simp only [show (3 : Nat) ^ 0 = 1 from rfl, show (3 : Nat) ^ 1 = 3 from rfl, show (3 : Nat) ^ 2 = 9 from rfl, show (3 : Nat) ^ 3 = 27 from rfl, show (3 : Nat) ^ 4 = 81 from rfl, show (3 : Nat) ^ 5 = 243 from rfl, show (3 : Nat) ^ 6 = 729 from rfl, show (3 : Nat) ^ 7 = 2187 from rfl, show (3 : Nat) ^ 8 = 6561 from rfl, Nat.div_one] at d0 d1 d2 d3 d4 d5 d6 d7 d8
  unfold fr
  rw [d0, d1, d2, d3, d4, d5, d6, d7, d8]
  simp only [rcode, sm, show (3 * 3 : Nat) = 9 from rfl, h0, h1, h2, h3, h4, h5, h6, h7, h8, dig, show (3 : Nat) ^ 0 = 1 from rfl, show (3 : Nat) ^ 1 = 3 from rfl, show (3 : Nat) ^ 2 = 9 from rfl, show (3 : Nat) ^ 3 = 27 from rfl, show (3 : Nat) ^ 4 = 81 from rfl, show (3 : Nat) ^ 5 = 243 from rfl, show (3 : Nat) ^ 6 = 729 from rfl, show (3 : Nat) ^ 7 = 2187 from rfl, show (3 : Nat) ^ 8 = 6561 from rfl, Nat.div_one, Nat.zero_add]
theorem isP_f (c : Nat) : isP 3 c = isPf c := by
  have e1 : rcode 3 c 1 = fr 33 c 81 27 243 3 1 9 2187 729 6561 := rcode3 c 1 4 3 5 1 0 2 7 6 8 33 (fun t ht => (pk4_rho t ht).1) (by decide +kernel)
  have e2 : rcode 3 c 2 = fr 6 c 6561 2187 729 243 81 27 9 3 1 := rcode3 c 2 8 7 6 5 4 3 2 1 0 6 (fun t ht => (pk4_rho t ht).2.1) (by decide +kernel)
  have e3 : rcode 3 c 3 = fr 24 c 1 9 3 729 6561 2187 27 243 81 := rcode3 c 3 0 2 1 6 8 7 3 5 4 24 (fun t ht => (pk4_rho t ht).2.2.1) (by decide +kernel)
  have e4 : rcode 3 c 4 = fr 9 c 81 243 27 2187 6561 729 3 9 1 := rcode3 c 4 4 5 3 7 8 6 1 2 0 9 (fun t ht => (pk4_rho t ht).2.2.2.1) (by decide +kernel)
  have e5 : rcode 3 c 5 = fr 18 c 6561 729 2187 9 1 3 243 27 81 := rcode3 c 5 8 6 7 2 0 1 5 3 4 18 (fun t ht => (pk4_rho t ht).2.2.2.2) (by decide +kernel)
  have hp : plain 3 c = Nat.min (Nat.min (Nat.min (Nat.min (Nat.min c (rcode 3 c 1)) (rcode 3 c 2)) (rcode 3 c 3)) (rcode 3 c 4)) (rcode 3 c 5) := rfl
  rw [Bool.eq_iff_iff]
  unfold isP isPf
  rw [hp, ← e1, ← e2, ← e3, ← e4, ← e5]
  simp only [beq_iff_eq, Bool.and_eq_true, Nat.ble_eq, show ∀ a b : Nat, Nat.min a b = min a b from fun _ _ => rfl]
  omega
theorem ctB_cong {p q : Nat → Bool} (h : ∀ c, p c = q c) : ∀ k lo, ctB p lo k = ctB q lo k
  | 0, lo => by rw [ctB, ctB, h]
  | k + 1, lo => by rw [ctB, ctB, ctB_cong h k, ctB_cong h k, ctB_cong h k]
theorem cnt_f : ctB isPf 0 9 = 3330 := by decide +kernel
theorem cnt3 : ct (isP 3) 19683 = 3330 := by
  have h := ctB_ct (isP 3) 9 0
  rw [ctB_cong isP_f, cnt_f] at h
  rw [show ct (isP 3) 0 = 0 from rfl, Nat.zero_add, show (0 + 3 ^ 9 : Nat) = 19683 by decide +kernel] at h
  exact h.symm
theorem cnt1 : ct (isP 1) 1 = 1 := by decide +kernel
theorem cnt2 : ct (isP 2) 16 = 10 := by decide +kernel
