/-! The class: the bench. -/
def BL (c : Nat) (σ : St) : Prop := s_s σ c = some (.inl 5) ∧ (s_s σ (c + 1) = some (.inr (0, 9)) ∧ s_r σ c 0 = some (c + 1)) ∧ (s_s σ (c + 2) = some (.inr (0, 9)) ∧ s_r σ c 1 = some (c + 2)) ∧ (s_s σ (c + 3) = some (.inr (0, 18)) ∧ s_r σ c 2 = some (c + 3)) ∧ (s_s σ (c + 4) = some (.inr (0, 3)) ∧ s_r σ c 3 = some (c + 4))
theorem BL.s {c : Nat} {σ : St} (h : BL c σ) : s_s σ c = some (.inl 5) := h.1
theorem BL.a1 {c : Nat} {σ : St} (h : BL c σ) : s_s σ (c + 1) = some (.inr (0, 9)) := h.2.1.1
theorem BL.r1 {c : Nat} {σ : St} (h : BL c σ) : s_r σ c 0 = some (c + 1) := h.2.1.2
theorem BL.a2 {c : Nat} {σ : St} (h : BL c σ) : s_s σ (c + 2) = some (.inr (0, 9)) := h.2.2.1.1
theorem BL.r2 {c : Nat} {σ : St} (h : BL c σ) : s_r σ c 1 = some (c + 2) := h.2.2.1.2
theorem BL.a3 {c : Nat} {σ : St} (h : BL c σ) : s_s σ (c + 3) = some (.inr (0, 18)) := h.2.2.2.1.1
theorem BL.r3 {c : Nat} {σ : St} (h : BL c σ) : s_r σ c 2 = some (c + 3) := h.2.2.2.1.2
theorem BL.a4 {c : Nat} {σ : St} (h : BL c σ) : s_s σ (c + 4) = some (.inr (0, 3)) := h.2.2.2.2.1
theorem BL.r4 {c : Nat} {σ : St} (h : BL c σ) : s_r σ c 3 = some (c + 4) := h.2.2.2.2.2
theorem BL.g {c : Nat} {SI : Nat → Nat → Prop} {σ σ' : St} (h : BL c σ) (k : chg SI no σ σ') : BL c σ' := by
  unfold BL at *
  simp only [k.s, show ∀ j, s_r σ' c j = s_r σ c j from fun j => k.r (fun z => z)]
  exact h
/-- what a letter stands for -/
def ltv (n k : Nat) (s : Nat) : Nat := match s with
  | 0 => k % n
  | 1 => k / n % n
  | _ => k / (n * n)
def LT (c n : Nat) (σ : St) : Prop := ∀ s, s < 3 → ∀ t, t < 3 → s_i σ (c + 2) (3 * s + t) = nI (bset (n * n * n) (fun k => ltv n k s == t))
def BV (c : Nat) (σ : St) : Prop := (∀ t, t < 3 → s_i σ (c + 4) t = nI 0) ∧ ∃ n, n ≤ 3 ∧ s_i σ c 4 = nI n ∧ (1 ≤ n → LT c n σ)
def BO (c n code : Nat) (σ : St) : Prop := (∀ t, t < 3 → s_i σ (c + 4) t = nI 0) ∧ s_i σ c 4 = nI n ∧ LT c n σ ∧ ∀ j, j < n * n → s_i σ (c + 1) j = nI (dig n code j)
theorem BO.V {c n code : Nat} {σ : St} (h : BO c n code σ) (hn : nok n) : BV c σ := ⟨h.1, n, hn.2, h.2.1, fun _ => h.2.2.1⟩
def bq (c : Nat) : Nat → Nat → Prop := fun q k => (c + 1 ≤ q ∧ q ≤ c + 4) ∨ (q = c ∧ k = 4)
theorem ltv_lt {n k : Nat} (hn : nok n) (hk : k < n * n * n) : ∀ s, ltv n k s < n := by
  obtain ⟨e1, e2, e3⟩ := lett_lt hn hk
  intro s
  unfold ltv
  split <;> assumption
theorem B_fillLetters_ok {c n : Nat} {σ : St} {Q : St → Prop} (hL : BL c σ) (hn : nok n) (h4 : s_i σ c 4 = nI n) (k : ∀ σ', chg (fun q _ => q = c + 2) no σ σ' → LT c n σ' → Q σ') : P_B_fillLetters c σ Q := by
  have h1 := hn.1
  have h2 := hn.2
  have h9 := nn9 hn
  have h27 := n27 hn
  refine ⟨hL.s, fun K2 K41 hk2 hk41 => ?_⟩
  refine loopU (P := fun i s' => chg (fun q _ => q = c + 2) no σ s' ∧ ∀ j, j < i → s_i s' (c + 2) j = nI 0) (G := fun i s' => K2 (nI i) s') 9 ?_ ?_ 0 σ (Nat.zero_le _) ⟨chg.rf, fun j hj => absurd hj (Nat.not_lt_zero j)⟩
  · rintro s' ⟨hc, hz⟩
    have hL' := hL.g hc
    refine hk2 _ _ (al_mk (c + 2) 0 9 hL'.r2 hL'.a2 (b_tt (nI_le (Nat.le_refl _) (by decide)) ?_))
    rw [show s_i s' c 4 = nI n from (hc.i (by omega)).trans h4, nI_mul, nI_mul]
    refine loopU (P := fun i s2 => chg (fun q _ => q = c + 2) no σ s2 ∧ ∀ s, s < 3 → ∀ t, t < 3 → s_i s2 (c + 2) (3 * s + t) = nI (bset i (fun k => ltv n k s == t))) (G := fun i s2 => K41 (nI (n * n * n)) (nI i) s2) (n * n * n) ?_ ?_ 0 s' (Nat.zero_le _) ⟨hc, fun s hs t ht => hz _ (by omega)⟩
    · rintro s2 ⟨hc2, hv⟩
      exact hk41 _ _ _ (b_tt (nI_le (Nat.le_refl _) (by omega)) (k s2 hc2 hv))
    · rintro i s2 hi ⟨hc2, hv⟩ ih
      have L2 := hL.g hc2
      have e4 : s_i s2 c 4 = nI n := (hc2.i (by omega)).trans h4
      obtain ⟨e1, e2, e3⟩ := lett_lt hn hi
      have hnn : 0 < n * n := Nat.mul_pos h1 h1
      have hin : i / n ≤ i := Nat.div_le_self _ _
      refine hk41 _ _ _ (b_ff (nI_ge hi (by omega)) ?_)
      rw [e4]
      refine b_ff (fun z => ?_) ⟨nI_ne0 h1 (by omega), ?_⟩
      · have := (nI_leI (a := n) (b := 0) (by omega) (by decide)).mp z
        omega
      obtain ⟨x0, ex0⟩ : ∃ x, x = i % n := ⟨_, rfl⟩
      obtain ⟨x1, ex1⟩ : ∃ x, x = i / n % n := ⟨_, rfl⟩
      obtain ⟨x2, ex2⟩ : ∃ x, x = i / (n * n) := ⟨_, rfl⟩
      have l0 : ltv n i 0 = x0 := ex0.symm
      have l1 : ltv n i 1 = x1 := ex1.symm
      have l2 : ltv n i 2 = x2 := ex2.symm
      rw [← ex0] at e1
      rw [← ex1] at e2
      rw [← ex2] at e3
      rw [irem_nI (by omega) h1 (by omega), ← ex0]
      have ep : shl (nI 1) (nI i) = nI (2 ^ i) := shl_1 i (by omega)
      refine ar_mk (c + 2) 9 x0 L2.r2 L2.a2 rfl (by omega) (by decide) (ar_mk (c + 2) 9 x0 L2.r2 L2.a2 rfl (by omega) (by decide) ?_)
      have v1 : s_i s2 (c + 2) x0 = nI (bset i (fun k => ltv n k 0 == x0)) := by
        have := hv 0 (by decide) x0 (by omega)
        rwa [Nat.mul_zero, Nat.zero_add] at this
      rw [ep, v1, nI_or]
      obtain ⟨A, eA⟩ : ∃ A, A = w_i s2 (c + 2) x0 (nI (bset i (fun k => ltv n k 0 == x0) ||| 2 ^ i)) := ⟨_, rfl⟩
      rw [← eA]
      have cA : chg (fun q _ => q = c + 2) no σ A := by rw [eA]; exact hc2.wi rfl
      have LA := hL.g cA
      have fA : s_i A c 4 = nI n := (cA.i (by omega)).trans h4
      have vA : ∀ j, j ≠ x0 → s_i A (c + 2) j = s_i s2 (c + 2) j := fun j hj => by rw [eA, s_i_wi, if_neg (fun z => hj z.2)]
      have uA : s_i A (c + 2) x0 = nI (bset i (fun k => ltv n k 0 == x0) ||| 2 ^ i) := by rw [eA, s_i_wi, if_pos ⟨rfl, rfl⟩]
      rw [fA]
      refine ⟨nI_ne0 h1 (by omega), nI_ne0 h1 (by omega), ?_⟩
      rw [nI_div (by omega) h1 (by omega), irem_nI (by omega) h1 (by omega), ← ex1, nI_add]
      refine ar_mk (c + 2) 9 (3 + x1) LA.r2 LA.a2 rfl (by omega) (by decide) (ar_mk (c + 2) 9 (3 + x1) LA.r2 LA.a2 rfl (by omega) (by decide) ?_)
      have v2 : s_i A (c + 2) (3 + x1) = nI (bset i (fun k => ltv n k 1 == x1)) := by
        rw [vA _ (by omega)]
        exact hv 1 (by decide) x1 (by omega)
      rw [v2, nI_or]
      obtain ⟨B, eB⟩ : ∃ B, B = w_i A (c + 2) (3 + x1) (nI (bset i (fun k => ltv n k 1 == x1) ||| 2 ^ i)) := ⟨_, rfl⟩
      rw [← eB]
      have cB : chg (fun q _ => q = c + 2) no σ B := by rw [eB]; exact cA.wi rfl
      have LB := hL.g cB
      have fB : s_i B c 4 = nI n := (cB.i (by omega)).trans h4
      have vB : ∀ j, j ≠ 3 + x1 → s_i B (c + 2) j = s_i A (c + 2) j := fun j hj => by rw [eB, s_i_wi, if_neg (fun z => hj z.2)]
      have uB : s_i B (c + 2) (3 + x1) = nI (bset i (fun k => ltv n k 1 == x1) ||| 2 ^ i) := by rw [eB, s_i_wi, if_pos ⟨rfl, rfl⟩]
      rw [fB, nI_mul]
      refine ⟨nI_ne0 hnn (by omega), ?_⟩
      rw [nI_div (by omega) hnn (by omega), ← ex2, nI_add]
      refine ar_mk (c + 2) 9 (6 + x2) LB.r2 LB.a2 rfl (by omega) (by decide) (ar_mk (c + 2) 9 (6 + x2) LB.r2 LB.a2 rfl (by omega) (by decide) ?_)
      have v3 : s_i B (c + 2) (6 + x2) = nI (bset i (fun k => ltv n k 2 == x2)) := by
        rw [vB _ (by omega), vA _ (by omega)]
        exact hv 2 (by decide) x2 (by omega)
      rw [v3, nI_or, nI_add]
      refine ih _ ⟨cB.wi rfl, fun s hs t ht => ?_⟩
      have step : ∀ s, s < 3 → ∀ t, bset (i + 1) (fun k => ltv n k s == t) = if t = ltv n i s then bset i (fun k => ltv n k s == t) ||| 2 ^ i else bset i (fun k => ltv n k s == t) := by
        intro s hs t
        rw [← bset_or]
        by_cases e : t = ltv n i s
        · rw [if_pos e, if_pos (by simp [e])]
        · rw [if_neg e, if_neg (by simp; exact fun z => e z.symm), Nat.or_zero]
      rw [step s hs t, s_i_wi]
      have hs3 : s = 0 ∨ s = 1 ∨ s = 2 := by omega
      rcases hs3 with rfl | rfl | rfl
      · rw [if_neg (fun z => by omega), vB _ (by omega), l0]
        rw [Nat.mul_zero, Nat.zero_add]
        by_cases e : t = x0
        · rw [if_pos e, e]; exact uA
        · rw [if_neg e, vA _ e]
          have := hv 0 (by decide) t ht
          rwa [Nat.mul_zero, Nat.zero_add] at this
      · rw [if_neg (fun z => by omega), Nat.mul_one, l1]
        by_cases e : t = x1
        · rw [if_pos e, e]; exact uB
        · rw [if_neg e, vB _ (by omega), vA _ (by omega)]
          exact hv 1 (by decide) t ht
      · rw [l2]
        by_cases e : t = x2
        · rw [if_pos ⟨rfl, by omega⟩, if_pos e, e]
        · rw [if_neg (fun z => by omega), if_neg e, vB _ (by omega), vA _ (by omega)]
          exact hv 2 (by decide) t ht
  · rintro i s' hi ⟨hc, hz⟩ ih
    have hL' := hL.g hc
    refine hk2 _ _ (al_mk (c + 2) 0 9 hL'.r2 hL'.a2 (b_ff (nI_ge hi (by decide)) (ar_mk (c + 2) 9 i hL'.r2 hL'.a2 rfl hi (by decide) ?_)))
    rw [nI_add]
    refine ih _ ⟨hc.wi rfl, fun j hj => ?_⟩
    rw [s_i_wi]
    by_cases e : j = i
    · rw [if_pos ⟨rfl, e⟩]
    · rw [if_neg (fun z => e z.2)]; exact hz j (by omega)
theorem B_open_ok {c n code : Nat} {σ : St} {Q : St → Prop} (hL : BL c σ) (hV : BV c σ) (hw : wok n code) (k : ∀ σ', chg (bq c) no σ σ' → BO c n code σ' → Q σ') : P_B_open c (nI n) (nI code) σ Q := by
  have hn := hw.1
  have h1 := hn.1
  have h2 := hn.2
  have h3 := hw.2
  have h9 := nn9 hn
  have hl := wc_le hn
  refine ⟨hL.s, fun K34 h34 => C_isSize_ok (b_b _ rfl (fun h => by rw [wthn_nok hn] at h; cases h) (fun _ => ?_))⟩
  have fill : ∀ s', chg (bq c) no σ s' → (∀ t, t < 3 → s_i s' (c + 4) t = nI 0) → s_i s' c 4 = nI n → LT c n s' → K34 (nI n) (nI code) (nI 0) s' := by
    intro s' hc hz h4 hT
    have key := loopU (P := fun i s2 => chg (fun q _ => q = c + 1) no s' s2 ∧ ∀ j, j < i → s_i s2 (c + 1) j = nI (dig n code j)) (G := fun i s2 => K34 (nI n) (nI (code / n ^ i)) (nI i) s2) (n * n) ?_ ?_ 0 s' (Nat.zero_le _) ⟨chg.rf, fun j hj => absurd hj (Nat.not_lt_zero j)⟩
    · simpa using key
    · rintro s2 ⟨hc2, hv⟩
      refine h34 _ _ _ _ (b_tt (by rw [nI_mul]; exact nI_le (Nat.le_refl _) (by omega)) (k s2 (hc.tr (hc2.up (fun q k z => by unfold bq; omega))) ⟨fun t ht => (hc2.i (by omega)).trans (hz t ht), (hc2.i (by omega)).trans h4, fun s hs t ht => (hc2.i (by omega)).trans (hT s hs t ht), hv⟩))
    · rintro i s2 hi ⟨hc2, hv⟩ ih
      have L2 := (hL.g hc).g hc2
      refine h34 _ _ _ _ (b_ff (by rw [nI_mul]; exact nI_ge hi (by omega)) ⟨nI_ne0 h1 (by omega), ar_mk (c + 1) 9 i L2.r1 L2.a1 rfl (by omega) (by decide) ⟨nI_ne0 h1 (by omega), ?_⟩⟩)
      have hd : code / n ^ i ≤ code := Nat.div_le_self _ _
      rw [nI_div (by omega) h1 (by omega), irem_nI (by omega) h1 (by omega), nI_add, Nat.div_div_eq_div_mul, ← Nat.pow_succ]
      refine ih _ ⟨hc2.wi rfl, fun j hj => ?_⟩
      rw [s_i_wi]
      by_cases e : j = i
      · rw [if_pos ⟨rfl, e⟩, e]; rfl
      · rw [if_neg (fun z => e z.2)]; exact hv j (by omega)
  obtain ⟨hz, m, hm, h4, hT⟩ := hV
  refine b_le 0 code nI_0.symm rfl (by decide) (by omega) (fun _ => ?_) (fun z => absurd z (Nat.not_lt_zero _))
  refine b_eq m n h4 rfl (by omega) (by omega) (fun e => ?_) (fun e => ?_)
  · subst e
    exact fill σ chg.rf hz h4 (hT h1)
  · have c1 : chg (bq c) no σ (w_i σ c 4 (nI n)) := chg.rf.wi (Or.inr ⟨rfl, rfl⟩)
    refine B_fillLetters_ok (hL.g c1) hn (by rw [s_i_wi, if_pos ⟨rfl, rfl⟩]) (fun s' hc hT' => ?_)
    refine fill s' (c1.tr (hc.up (fun q k z => by unfold bq; omega))) (fun t ht => ?_) ?_ hT'
    · rw [hc.i (by omega), s_i_wi, if_neg (fun z => by omega)]; exact hz t ht
    · rw [hc.i (by omega), s_i_wi, if_pos ⟨rfl, rfl⟩]
