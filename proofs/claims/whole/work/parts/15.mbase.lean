/-! The reference: its cells. -/
def ML (m : Nat) (σ : St) : Prop := s_s σ m = some (.inl 9) ∧ (s_s σ (m + 1) = some (.inr (0, 176)) ∧ s_r σ m 0 = some (m + 1)) ∧ (s_s σ (m + 2) = some (.inr (0, 176)) ∧ s_r σ m 1 = some (m + 2)) ∧ (s_s σ (m + 3) = some (.inr (0, 704)) ∧ s_r σ m 2 = some (m + 3)) ∧ (s_s σ (m + 4) = some (.inr (0, 176)) ∧ s_r σ m 4 = some (m + 4)) ∧ (s_s σ (m + 5) = some (.inr (0, 3341)) ∧ s_r σ m 6 = some (m + 5)) ∧ (s_s σ (m + 6) = some (.inr (0, 5)) ∧ s_r σ m 7 = some (m + 6)) ∧ (s_s σ (m + 7) = some (.inr (0, 9)) ∧ s_r σ m 8 = some (m + 7)) ∧ (s_s σ (m + 8) = some (.inr (0, 16)) ∧ s_r σ m 9 = some (m + 8)) ∧ (s_s σ (m + 9) = some (.inr (0, 16705)) ∧ s_r σ m 10 = some (m + 9)) ∧ (s_s σ (m + 10) = some (.inr (0, 165)) ∧ s_r σ m 11 = some (m + 10)) ∧ (s_s σ (m + 11) = some (.inr (0, 12)) ∧ s_r σ m 13 = some (m + 11)) ∧ (s_s σ (m + 12) = some (.inr (0, 60)) ∧ s_r σ m 15 = some (m + 12)) ∧ (s_s σ (m + 13) = some (.inr (0, 660)) ∧ s_r σ m 17 = some (m + 13)) ∧ (s_s σ (m + 14) = some (.inr (0, 5)) ∧ s_r σ m 22 = some (m + 14))
theorem ML.s {m : Nat} {σ : St} (h : ML m σ) : s_s σ m = some (.inl 9) := h.1
theorem ML.a1 {m : Nat} {σ : St} (h : ML m σ) : s_s σ (m + 1) = some (.inr (0, 176)) := h.2.1.1
theorem ML.r1 {m : Nat} {σ : St} (h : ML m σ) : s_r σ m 0 = some (m + 1) := h.2.1.2
theorem ML.a2 {m : Nat} {σ : St} (h : ML m σ) : s_s σ (m + 2) = some (.inr (0, 176)) := h.2.2.1.1
theorem ML.r2 {m : Nat} {σ : St} (h : ML m σ) : s_r σ m 1 = some (m + 2) := h.2.2.1.2
theorem ML.a3 {m : Nat} {σ : St} (h : ML m σ) : s_s σ (m + 3) = some (.inr (0, 704)) := h.2.2.2.1.1
theorem ML.r3 {m : Nat} {σ : St} (h : ML m σ) : s_r σ m 2 = some (m + 3) := h.2.2.2.1.2
theorem ML.a4 {m : Nat} {σ : St} (h : ML m σ) : s_s σ (m + 4) = some (.inr (0, 176)) := h.2.2.2.2.1.1
theorem ML.r4 {m : Nat} {σ : St} (h : ML m σ) : s_r σ m 4 = some (m + 4) := h.2.2.2.2.1.2
theorem ML.a5 {m : Nat} {σ : St} (h : ML m σ) : s_s σ (m + 5) = some (.inr (0, 3341)) := h.2.2.2.2.2.1.1
theorem ML.r5 {m : Nat} {σ : St} (h : ML m σ) : s_r σ m 6 = some (m + 5) := h.2.2.2.2.2.1.2
theorem ML.a6 {m : Nat} {σ : St} (h : ML m σ) : s_s σ (m + 6) = some (.inr (0, 5)) := h.2.2.2.2.2.2.1.1
theorem ML.r6 {m : Nat} {σ : St} (h : ML m σ) : s_r σ m 7 = some (m + 6) := h.2.2.2.2.2.2.1.2
theorem ML.a7 {m : Nat} {σ : St} (h : ML m σ) : s_s σ (m + 7) = some (.inr (0, 9)) := h.2.2.2.2.2.2.2.1.1
theorem ML.r7 {m : Nat} {σ : St} (h : ML m σ) : s_r σ m 8 = some (m + 7) := h.2.2.2.2.2.2.2.1.2
theorem ML.a8 {m : Nat} {σ : St} (h : ML m σ) : s_s σ (m + 8) = some (.inr (0, 16)) := h.2.2.2.2.2.2.2.2.1.1
theorem ML.r8 {m : Nat} {σ : St} (h : ML m σ) : s_r σ m 9 = some (m + 8) := h.2.2.2.2.2.2.2.2.1.2
theorem ML.a9 {m : Nat} {σ : St} (h : ML m σ) : s_s σ (m + 9) = some (.inr (0, 16705)) := h.2.2.2.2.2.2.2.2.2.1.1
theorem ML.r9 {m : Nat} {σ : St} (h : ML m σ) : s_r σ m 10 = some (m + 9) := h.2.2.2.2.2.2.2.2.2.1.2
theorem ML.a10 {m : Nat} {σ : St} (h : ML m σ) : s_s σ (m + 10) = some (.inr (0, 165)) := h.2.2.2.2.2.2.2.2.2.2.1.1
theorem ML.r10 {m : Nat} {σ : St} (h : ML m σ) : s_r σ m 11 = some (m + 10) := h.2.2.2.2.2.2.2.2.2.2.1.2
theorem ML.a11 {m : Nat} {σ : St} (h : ML m σ) : s_s σ (m + 11) = some (.inr (0, 12)) := h.2.2.2.2.2.2.2.2.2.2.2.1.1
theorem ML.r11 {m : Nat} {σ : St} (h : ML m σ) : s_r σ m 13 = some (m + 11) := h.2.2.2.2.2.2.2.2.2.2.2.1.2
theorem ML.a12 {m : Nat} {σ : St} (h : ML m σ) : s_s σ (m + 12) = some (.inr (0, 60)) := h.2.2.2.2.2.2.2.2.2.2.2.2.1.1
theorem ML.r12 {m : Nat} {σ : St} (h : ML m σ) : s_r σ m 15 = some (m + 12) := h.2.2.2.2.2.2.2.2.2.2.2.2.1.2
theorem ML.a13 {m : Nat} {σ : St} (h : ML m σ) : s_s σ (m + 13) = some (.inr (0, 660)) := h.2.2.2.2.2.2.2.2.2.2.2.2.2.1.1
theorem ML.r13 {m : Nat} {σ : St} (h : ML m σ) : s_r σ m 17 = some (m + 13) := h.2.2.2.2.2.2.2.2.2.2.2.2.2.1.2
theorem ML.a14 {m : Nat} {σ : St} (h : ML m σ) : s_s σ (m + 14) = some (.inr (0, 5)) := h.2.2.2.2.2.2.2.2.2.2.2.2.2.2.1
theorem ML.r14 {m : Nat} {σ : St} (h : ML m σ) : s_r σ m 22 = some (m + 14) := h.2.2.2.2.2.2.2.2.2.2.2.2.2.2.2
theorem ML.g {m : Nat} {SI : Nat → Nat → Prop} {σ σ' : St} (h : ML m σ) (c : chg SI no σ σ') : ML m σ' := by
  unfold ML at *
  simp only [c.s, show ∀ k, s_r σ' m k = s_r σ m k from fun k => c.r (fun z => z)]
  exact h
theorem ML.wi {m q k : Nat} {v : Int32} {σ : St} (h : ML m σ) : ML m (w_i σ q k v) := h
theorem loopU {P G : Nat → St → Prop} (e : Nat) (hend : ∀ σ, P e σ → G e σ) (hstep : ∀ i σ, i < e → P i σ → (∀ σ', P (i + 1) σ' → G (i + 1) σ') → G i σ) : ∀ i σ, i ≤ e → P i σ → G i σ := by
  intro i
  obtain ⟨d, hd⟩ : ∃ d, d = e - i := ⟨_, rfl⟩
  induction d generalizing i with
  | zero =>
    intro σ h hp
    have : i = e := by omega
    subst this
    exact hend σ hp
  | succ d ih =>
    intro σ h hp
    exact hstep i σ (by omega) hp (fun σ' hp' => ih (i + 1) (by omega) σ' (by omega) hp')
/-! its plain functions -/
theorem lg_neg {a b : Nat} (ha : a < 2 ^ 31) (hb : b < 2 ^ 31) {A B : Prop} (f : a < b → A) (g : b ≤ a → B) : (lg_cmp (lN a) (lN b) < 0 → A) ∧ (¬ lg_cmp (lN a) (lN b) < 0 → B) := by
  rw [lg_cmp_lN ha hb]
  by_cases h : a < b
  · rw [if_pos h]; exact ⟨fun _ => f h, fun z => absurd (by decide) z⟩
  · rw [if_neg h]
    by_cases e : a = b
    · rw [if_pos e]; exact ⟨fun z => absurd z (by decide), fun _ => g (by omega)⟩
    · rw [if_neg e]; exact ⟨fun z => absurd z (by decide), fun _ => g (by omega)⟩
theorem lg_pos {a b : Nat} (ha : a < 2 ^ 31) (hb : b < 2 ^ 31) {A B : Prop} (f : b < a → A) (g : a ≤ b → B) : (0 < lg_cmp (lN a) (lN b) → A) ∧ (¬ 0 < lg_cmp (lN a) (lN b) → B) := by
  rw [lg_cmp_lN ha hb]
  by_cases h : a < b
  · rw [if_pos h]; exact ⟨fun z => absurd z (by decide), fun _ => g (by omega)⟩
  · rw [if_neg h]
    by_cases e : a = b
    · rw [if_pos e]; exact ⟨fun z => absurd z (by decide), fun _ => g (by omega)⟩
    · rw [if_neg e]; exact ⟨fun _ => f (by omega), fun z => absurd (by decide) z⟩
/-- a number of an argument, or none: what the reference's 'in' asks -/
def wthn (x : Int32) (lo hi : Int) : Bool := decide (lo ≤ x.toInt ∧ x.toInt ≤ hi)
theorem i64T (x : Int32) : x.toInt64.toInt = x.toInt := Int32.toInt_toInt64 x
theorem lg_lt0 (a b : Int64) : lg_cmp a b < 0 ↔ a.toInt < b.toInt := by
  unfold lg_cmp
  by_cases h : b < a
  · rw [if_pos h]
    have := Int64.lt_iff_toInt_lt.mp h
    exact ⟨fun z => absurd z (by decide), fun z => by omega⟩
  · rw [if_neg h]
    by_cases e : a = b
    · rw [if_pos e, e]
      exact ⟨fun z => absurd z (by decide), fun z => by omega⟩
    · rw [if_neg e]
      have h1 : ¬ b.toInt < a.toInt := fun z => h (Int64.lt_iff_toInt_lt.mpr z)
      have h2 : ¬ a.toInt = b.toInt := fun z => e (Int64.toInt_inj.mp z)
      exact ⟨fun _ => by omega, fun _ => by decide⟩
theorem lg_gt0 (a b : Int64) : 0 < lg_cmp a b ↔ b.toInt < a.toInt := by
  unfold lg_cmp
  by_cases h : b < a
  · rw [if_pos h]
    exact ⟨fun _ => Int64.lt_iff_toInt_lt.mp h, fun _ => by decide⟩
  · rw [if_neg h]
    have h1 : ¬ b.toInt < a.toInt := fun z => h (Int64.lt_iff_toInt_lt.mpr z)
    by_cases e : a = b
    · rw [if_pos e]
      exact ⟨fun z => absurd z (by decide), fun z => absurd z h1⟩
    · rw [if_neg e]
      exact ⟨fun z => absurd z (by decide), fun z => absurd z h1⟩
theorem M_in_ok {x : Int32} {l2 l4 : Int64} {lo hi : Int} {σ : St} {Q : Int32 → St → Prop} (h2 : l2.toInt = lo) (h4 : l4.toInt = hi) (k : Q (bI (wthn x lo hi)) σ) : P_M_in x.toInt64 l2 l4 σ Q := by
  unfold P_M_in
  rw [lg_lt0, lg_gt0, i64T, h2, h4]
  by_cases a : x.toInt < lo
  · refine b_tt a ?_
    have : wthn x lo hi = false := by simp [wthn]; omega
    rw [this] at k; exact k
  · refine b_ff a ?_
    by_cases b : hi < x.toInt
    · refine b_tt b ?_
      have : wthn x lo hi = false := by simp [wthn]; omega
      rw [this] at k; exact k
    · refine b_ff b ?_
      have : wthn x lo hi = true := by simp [wthn]; omega
      rw [this] at k; exact k
theorem M_power_ok {n e : Nat} {σ : St} {Q : Int32 → St → Prop} (he : e < 2 ^ 31) (k : Q (nI (n ^ e)) σ) : P_M_power (nI n) (nI e) σ Q := by
  intro K4 h4
  refine loopU (P := fun i σ' => σ' = σ) (G := fun i σ' => K4 (nI n) (nI e) (nI (n ^ i)) (nI i) σ') e ?_ ?_ 0 σ (Nat.zero_le _) rfl
  · rintro σ' rfl
    exact h4 _ _ _ _ _ (b_tt (nI_le (Nat.le_refl _) he) k)
  · rintro i σ' hi rfl ih
    refine h4 _ _ _ _ _ (b_le e i rfl rfl he (by omega) (fun h => absurd h (by omega)) (fun _ => ?_))
    rw [nI_mul, nI_add, ← Nat.pow_succ]
    exact ih σ' rfl
theorem nn9 {n : Nat} (hn : nok n) : n * n ≤ 9 := Nat.mul_le_mul hn.2 hn.2
theorem wc_le {n : Nat} (hn : nok n) : n ^ (n * n) ≤ 19683 := by rcases nok3 hn with rfl | rfl | rfl <;> decide
theorem M_codes_ok {n : Nat} {σ : St} {Q : Int32 → St → Prop} (hn : nok n) (k : Q (nI (n ^ (n * n))) σ) : P_M_codes (nI n) σ Q := by
  unfold P_M_codes
  rw [nI_mul]
  exact M_power_ok (by have := nn9 hn; omega) k
theorem wthn_nI {a : Nat} {lo hi : Nat} (ha : a < 2 ^ 31) : wthn (nI a) lo hi = decide (lo ≤ a ∧ a ≤ hi) := by
  unfold wthn
  rw [nI_toInt ha]
  congr 1
  apply propext
  omega
/-- whether an argument is one of the worlds -/
def isW (x y : Int32) : Bool := wthn x 1 3 && wthn y 0 ((x.toInt.toNat ^ (x.toInt.toNat * x.toInt.toNat) : Nat) - 1 : Int)
theorem wthn_ex {x : Int32} {lo hi : Nat} (h : wthn x lo hi = true) (hh : hi + 1 < 2 ^ 31) : ∃ a, x = nI a ∧ lo ≤ a ∧ a ≤ hi := by
  simp [wthn] at h
  obtain ⟨j, hj, rfl⟩ := nI_intlt (x := x) (n := hi + 1) (by omega) (by omega) (by omega)
  rw [nI_toInt (by omega)] at h
  exact ⟨j, rfl, by omega, by omega⟩
theorem isW_ex {x y : Int32} (h : isW x y = true) : ∃ n c, x = nI n ∧ y = nI c ∧ wok n c := by
  simp only [isW, Bool.and_eq_true] at h
  obtain ⟨n, rfl, h1, h2⟩ := wthn_ex (lo := 1) (hi := 3) h.1 (by decide)
  rw [nI_toInt (by omega)] at h
  have hn : nok n := ⟨h1, h2⟩
  have hp : 1 ≤ n ^ (n * n) := Nat.pow_pos hn.1
  have hl := wc_le hn
  have e : (((n : Int).toNat ^ ((n : Int).toNat * (n : Int).toNat) : Nat) : Int) - 1 = ((n ^ (n * n) - 1 : Nat) : Int) := by
    rw [Int.toNat_natCast]; omega
  have h' := h.2
  rw [e] at h'
  obtain ⟨c, rfl, h3, h4⟩ := wthn_ex (lo := 0) (hi := n ^ (n * n) - 1) h' (by omega)
  exact ⟨n, c, rfl, rfl, hn, by omega⟩
theorem isW_ok {n c : Nat} (h : wok n c) : isW (nI n) (nI c) = true := by
  have hl := wc_le h.1
  have h1 := h.1.1
  have h2 := h.1.2
  have h3 := h.2
  have hp : 1 ≤ n ^ (n * n) := Nat.pow_pos h1
  simp only [isW, Bool.and_eq_true]
  rw [nI_toInt (by omega), Int.toNat_natCast]
  refine ⟨?_, ?_⟩
  · simp [wthn, nI_toInt (show n < 2 ^ 31 by omega)]; omega
  · simp only [wthn, nI_toInt (show c < 2 ^ 31 by omega), decide_eq_true_eq]; omega
theorem lN_m1 {a : Nat} (h1 : 1 ≤ a) (h : a < 2 ^ 31) : (lN a - lN 1).toInt = (a : Int) - 1 := by
  rw [lN_sub h1, lN_toInt (by omega)]; omega
theorem M_isWorld_ok {x y : Int32} {σ : St} {Q : Int32 → St → Prop} (k : Q (bI (isW x y)) σ) : P_M_isWorld x y σ Q := by
  unfold P_M_isWorld
  refine M_in_ok (lo := 1) (hi := 3) rfl rfl (b_b _ rfl (fun h => ?_) (fun h => ?_))
  · have e : isW x y = false := by simp [isW, h]
    rw [e] at k; exact k
  · obtain ⟨n, rfl, h1, h2⟩ := wthn_ex (lo := 1) (hi := 3) h (by decide)
    have hn : nok n := ⟨h1, h2⟩
    have hp : 1 ≤ n ^ (n * n) := Nat.pow_pos h1
    have hl := wc_le hn
    refine M_codes_ok hn ?_
    refine M_in_ok (lo := 0) (hi := ((n ^ (n * n) : Nat) : Int) - 1) rfl (by rw [i64_nI (by omega)]; exact lN_m1 hp (by omega)) ?_
    have e : isW (nI n) y = wthn y 0 (((n ^ (n * n) : Nat) : Int) - 1) := by
      simp only [isW, h, Bool.true_and, nI_toInt (show n < 2 ^ 31 by omega), Int.toNat_natCast]
    rw [e] at k
    refine b_b _ rfl (fun h => ?_) (fun h => ?_)
    · rw [h] at k; exact k
    · rw [h] at k; exact k
theorem M_comes_ok {n c a b : Nat} {σ : St} {Q : Int32 → St → Prop} (hw : wok n c) (ha : a < n) (hb : b < n) (k : Q (nI (dig n c (n * a + b))) σ) : P_M_comes (nI n) (nI c) (nI a) (nI b) σ Q := by
  unfold P_M_comes
  have hl := wc_le hw.1
  have h9 := nn9 hw.1
  have h1 := hw.1.1
  have h2 := hw.1.2
  have h3 := hw.2
  have hk : n * a + b < n * n := by
    calc n * a + b < n * a + n := by omega
      _ = n * (a + 1) := by rw [Nat.mul_succ]
      _ ≤ n * n := Nat.mul_le_mul_left _ ha
  have hp : n ^ (n * a + b) ≤ n ^ (n * n) := Nat.pow_le_pow_right h1 (Nat.le_of_lt hk)
  have hp0 : 0 < n ^ (n * a + b) := Nat.pow_pos h1
  rw [nI_mul, nI_add]
  refine M_power_ok (by omega) ⟨nI_ne0 hp0 (by omega), nI_ne0 h1 (by omega), ?_⟩
  have hd : c / n ^ (n * a + b) ≤ c := Nat.div_le_self _ _
  rw [nI_div (by omega) hp0 (by omega), irem_nI (by omega) h1 (by omega)]
  exact k
theorem M_unfolds_ok {m n c : Nat} {σ : St} {Q : St → Prop} (hL : ML m σ) (hw : wok n c) (k : ∀ σ', chg (fun q _ => q = m + 7) no σ σ' → (∀ j, j < n * n → s_i σ' (m + 7) j = nI (dig n c j)) → Q σ') : P_M_unfolds m (nI n) (nI c) σ Q := by
  have hl := wc_le hw.1
  have h9 := nn9 hw.1
  have h1 := hw.1.1
  have h2 := hw.1.2
  have h3 := hw.2
  refine ⟨hL.s, fun K5 h5 => ?_⟩
  have h0 := loopU (P := fun i σ' => chg (fun q _ => q = m + 7) no σ σ' ∧ ∀ j, j < i → s_i σ' (m + 7) j = nI (dig n c j)) (G := fun i σ' => K5 (nI n) (nI (c / n ^ i)) (nI i) σ') (n * n) ?_ ?_ 0 σ (Nat.zero_le _) ⟨chg.rf, fun j hj => absurd hj (Nat.not_lt_zero j)⟩
  · simpa using h0
  · rintro σ' ⟨hc, hi⟩
    exact h5 _ _ _ _ (b_tt (by rw [nI_mul]; exact nI_le (Nat.le_refl _) (by omega)) (k σ' hc hi))
  · rintro i σ' hi ⟨hc, hj⟩ ih
    refine h5 _ _ _ _ (b_le (n * n) i (nI_mul n n) rfl (by omega) (by omega) (fun h => absurd h (by omega)) (fun _ => ⟨nI_ne0 h1 (by omega), ?_⟩))
    have hL' := hL.g hc
    refine ar_mk (m + 7) 9 i hL'.r7 hL'.a7 rfl (by omega) (by decide) ⟨nI_ne0 h1 (by omega), ?_⟩
    have hd : c / n ^ i ≤ c := Nat.div_le_self _ _
    rw [nI_div (by omega) h1 (by omega), irem_nI (by omega) h1 (by omega), nI_add, Nat.div_div_eq_div_mul, ← Nat.pow_succ]
    refine ih _ ⟨hc.wi rfl, fun j hj' => ?_⟩
    rw [s_i_wi]
    by_cases e : j = i
    · rw [if_pos ⟨rfl, e⟩, e]; rfl
    · rw [if_neg (fun z => e z.2)]
      exact hj j (by omega)
theorem M_renamed_ok {w t : Nat} {σ : St} {Q : Int32 → St → Prop} (hw : w < 6) (ht : t < 3) (k : Q (nI (rho w t)) σ) : P_M_renamed (nI w) (nI t) σ Q := by
  unfold P_M_renamed
  have h6 : w = 0 ∨ w = 1 ∨ w = 2 ∨ w = 3 ∨ w = 4 ∨ w = 5 := by omega
  have h3 : t = 0 ∨ t = 1 ∨ t = 2 := by omega
  rcases h6 with rfl | rfl | rfl | rfl | rfl | rfl <;> rcases h3 with rfl | rfl | rfl <;> first
    | exact b_tt (by decide) k
    | exact b_ff (by decide) (b_tt (by decide) (b_tt (by decide) k))
    | exact b_ff (by decide) (b_tt (by decide) (b_ff (by decide) k))
    | exact b_ff (by decide) (b_ff (by decide) (b_tt (by decide) (b_tt (by decide) k)))
    | exact b_ff (by decide) (b_ff (by decide) (b_tt (by decide) (b_ff (by decide) (b_tt (by decide) k))))
    | exact b_ff (by decide) (b_ff (by decide) (b_tt (by decide) (b_ff (by decide) (b_ff (by decide) k))))
    | exact b_ff (by decide) (b_ff (by decide) (b_ff (by decide) (b_tt (by decide) (b_tt (by decide) k))))
    | exact b_ff (by decide) (b_ff (by decide) (b_ff (by decide) (b_tt (by decide) (b_ff (by decide) k))))
    | exact b_ff (by decide) (b_ff (by decide) (b_ff (by decide) (b_ff (by decide) (b_tt (by decide) k))))
    | exact b_ff (by decide) (b_ff (by decide) (b_ff (by decide) (b_ff (by decide) (b_ff (by decide) k))))
theorem M_waysOf_ok {n : Nat} {σ : St} {Q : Int32 → St → Prop} (hn : nok n) (k : Q (nI (ways n)) σ) : P_M_waysOf (nI n) σ Q := by
  unfold P_M_waysOf
  rcases nok3 hn with rfl | rfl | rfl
  · exact b_tt rfl k
  · exact b_ff (by decide) (b_tt rfl k)
  · exact b_ff (by decide) (b_ff (by decide) k)
