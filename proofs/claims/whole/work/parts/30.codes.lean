/-! The class: what can be said of a world from its size and code. -/
theorem b_lt' {x y : Int32} {A B : Prop} (f : x.toInt < y.toInt → A) (g : y.toInt ≤ x.toInt → B) : (x < y → A) ∧ (¬ x < y → B) :=
  ⟨fun h => f (Int32.lt_iff_toInt_lt.mp h), fun h => g (Int.not_lt.mp (fun z => h (Int32.lt_iff_toInt_lt.mpr z)))⟩
theorem C_isSize_ok {x : Int32} {σ : St} {Q : Int32 → St → Prop} (k : Q (bI (wthn x 1 3)) σ) : P_C_isSize x σ Q := by
  refine b_lt' (fun h => ?_) (fun h => b_lt' (fun g => ?_) (fun g => ?_))
  · rw [nI_toInt (by decide)] at h
    have : wthn x 1 3 = false := by simp [wthn]; omega
    rw [this] at k; exact k
  · rw [nI_toInt (by decide)] at g
    have : wthn x 1 3 = false := by simp [wthn]; omega
    rw [this] at k; exact k
  · rw [nI_toInt (by decide)] at g h
    have : wthn x 1 3 = true := by simp [wthn]; omega
    rw [this] at k; exact k
theorem wthn_nok {n : Nat} (h : nok n) : wthn (nI n) 1 3 = true := by
  have := h.1
  have := h.2
  rw [show (wthn (nI n) 1 3) = wthn (nI n) (1 : Nat) (3 : Nat) from rfl, wthn_nI (by omega)]
  simp
  omega
theorem C_worldCount_ok {n : Nat} {σ : St} {Q : Int32 → St → Prop} (hn : nok n) (k : Q (nI (n ^ (n * n))) σ) : P_C_worldCount (nI n) σ Q := by
  rcases nok3 hn with rfl | rfl | rfl
  · exact b_ff (by decide) (b_ff (by decide) k)
  · exact b_ff (by decide) (b_tt rfl k)
  · exact b_tt rfl k
theorem C_renamingCount_ok {n : Nat} {σ : St} {Q : Int32 → St → Prop} (hn : nok n) (k : Q (nI (ways n)) σ) : P_C_renamingCount (nI n) σ Q := by
  rcases nok3 hn with rfl | rfl | rfl
  · exact b_ff (by decide) (b_ff (by decide) k)
  · exact b_ff (by decide) (b_tt rfl k)
  · exact b_tt rfl k
theorem C_isCode_ok {x y : Int32} {σ : St} {Q : Int32 → St → Prop} (k : Q (bI (isW x y)) σ) : P_C_isCode x y σ Q := by
  refine C_isSize_ok (b_b _ rfl (fun h => ?_) (fun h => ?_))
  · have e : isW x y = false := by simp [isW, h]
    rw [e] at k; exact k
  · obtain ⟨n, rfl, h1, h2⟩ := wthn_ex (lo := 1) (hi := 3) h (by decide)
    have hn : nok n := ⟨h1, h2⟩
    have hp : 1 ≤ n ^ (n * n) := Nat.pow_pos hn.1
    have hl := wc_le hn
    have e : isW (nI n) y = wthn y 0 (((n ^ (n * n) : Nat) : Int) - 1) := by
      simp only [isW, h, Bool.true_and, nI_toInt (show n < 2 ^ 31 by omega), Int.toNat_natCast]
    rw [e] at k
    refine b_lt' (fun g => ?_) (fun g => C_worldCount_ok hn ?_)
    · have : wthn y 0 (((n ^ (n * n) : Nat) : Int) - 1) = false := by
        simp at g
        simp [wthn]; omega
      rw [this] at k; exact k
    · have hy : ¬ y < 0 := fun z => by
        have := Int32.lt_iff_toInt_lt.mp z
        omega
      obtain ⟨c, hc, rfl⟩ := nI_of hy
      rw [isN_wthn, isN_nI hc] at k
      refine b_le _ c rfl rfl (by omega) hc (fun q => ?_) (fun q => ?_)
      · rw [decide_eq_false (by omega)] at k; exact k
      · rw [decide_eq_true q] at k; exact k
theorem C_power_ok {n e : Nat} {σ : St} {Q : Int32 → St → Prop} (hn : nok n) (he : e < 9) (k : Q (nI (n ^ e)) σ) : P_C_power (nI n) (nI e) σ Q := by
  refine b_lt e 0 rfl nI_0.symm (by omega) (by decide) (fun h => absurd h (Nat.not_lt_zero e)) (fun _ => b_tt (nI_lt he (by decide)) ?_)
  rcases nok3 hn with rfl | rfl | rfl
  · rw [Nat.one_pow] at k
    exact b_ff (by decide) (b_ff (by decide) k)
  · refine b_ff (by decide) (b_tt rfl ?_)
    rw [shl_1 e (by omega)]; exact k
  · exact b_tt rfl (st_mk e rfl he (by decide) k)
theorem C_product_ok {n c a b : Nat} {σ : St} {Q : Int32 → St → Prop} (hw : wok n c) (ha : a < n) (hb : b < n) (k : Q (nI (dig n c (n * a + b))) σ) : P_C_product (nI n) (nI c) (nI a) (nI b) σ Q := by
  have hl := wc_le hw.1
  have h9 := nn9 hw.1
  have h1 := hw.1.1
  have h2 := hw.1.2
  have h3 := hw.2
  have hk := nab ha hb
  refine C_isSize_ok (b_b _ rfl (fun h => by rw [wthn_nok hw.1] at h; cases h) (fun _ => ?_))
  rw [nI_mul, nI_add]
  have hp : n ^ (n * a + b) ≤ n ^ (n * n) := Nat.pow_le_pow_right h1 (Nat.le_of_lt hk)
  have hp0 : 0 < n ^ (n * a + b) := Nat.pow_pos h1
  refine C_power_ok hw.1 (by omega) (b_ff (nI_ne0 hp0 (by omega)) ⟨nI_ne0 hp0 (by omega), nI_ne0 h1 (by omega), ?_⟩)
  have hd : c / n ^ (n * a + b) ≤ c := Nat.div_le_self _ _
  rw [nI_div (by omega) hp0 (by omega), irem_nI (by omega) h1 (by omega)]
  exact k
theorem C_newName_ok {w t : Nat} {σ : St} {Q : Int32 → St → Prop} (hw : w < 6) (ht : t < 3) (k : Q (nI (rho w t)) σ) : P_C_newName (nI w) (nI t) σ Q := by
  unfold P_C_newName
  rw [nI_mul, nI_add]
  refine b_lt (3 * w + t) 0 rfl nI_0.symm (by omega) (by decide) (fun h => absurd h (Nat.not_lt_zero _)) (fun _ => b_ff (nI_ge (by omega) (by decide)) (st_mk (3 * w + t) rfl (by omega) (by decide) k))
theorem C_renamed_ok {n c w : Nat} {σ : St} {Q : Int32 → St → Prop} (h : wok n c) (hw : w < ways n) (k : Q (nI (rcode n c w)) σ) : P_C_renamed (nI n) (nI c) (nI w) σ Q := by
  have hn := h.1
  have h9 := nn9 hn
  have h1 := hn.1
  have h2 := hn.2
  have h3 := h.2
  have hl := wc_le hn
  have w6 := ways_le (n := n)
  intro K17 K36 h17 h36
  refine C_isSize_ok (b_b _ rfl (fun h => by rw [wthn_nok hn] at h; cases h) (fun _ => ?_))
  have key := loopU (P := fun _ σ' => σ' = σ) (G := fun a σ' => K17 (nI n) (nI w) (nI (sm (fun k => rho w (dig n c k) * n ^ pos n w k) (n * a))) (nI (c / n ^ (n * a))) (nI a) σ') n ?_ ?_ 0 σ (Nat.zero_le _) rfl
  · simpa [sm] using key
  · rintro σ' rfl
    exact h17 _ _ _ _ _ _ (b_tt (nI_le (Nat.le_refl _) (by omega)) k)
  · rintro a σ' ha rfl ih
    refine h17 _ _ _ _ _ _ (b_ff (nI_ge ha (by omega)) (C_newName_ok (by omega) (by omega) ?_))
    rw [nI_mul]
    refine loopU (P := fun _ s' => s' = σ') (G := fun b s' => K36 (nI n) (nI w) (nI (sm (fun k => rho w (dig n c k) * n ^ pos n w k) (n * a + b))) (nI (c / n ^ (n * a + b))) (nI a) (nI (n * rho w a)) (nI b) s') n ?_ ?_ 0 σ' (Nat.zero_le _) rfl
    · rintro s' rfl
      refine h36 _ _ _ _ _ _ _ _ (b_tt (nI_le (Nat.le_refl _) (by omega)) ?_)
      rw [nI_add, show n * a + n = n * (a + 1) from (Nat.mul_succ n a).symm]
      exact ih s' rfl
    · rintro b s' hb rfl ih2
      refine h36 _ _ _ _ _ _ _ _ (b_ff (nI_ge hb (by omega)) ⟨nI_ne0 h1 (by omega), ?_⟩)
      have hk := nab ha hb
      obtain ⟨e1, e2⟩ := nab_d (a := a) hb
      have hd := dig_lt (c := c) (k := n * a + b) h1
      have hdv : c / n ^ (n * a + b) ≤ c := Nat.div_le_self _ _
      rw [irem_nI (by omega) h1 (by omega)]
      have hdd : c / n ^ (n * a + b) % n = dig n c (n * a + b) := rfl
      rw [hdd]
      refine C_newName_ok (by omega) (by omega) ⟨nI_ne0 h1 (by omega), C_newName_ok (by omega) (by omega) ?_⟩
      have hp := pos_lt hn hw hk
      have ep : n * rho w a + rho w b = pos n w (n * a + b) := by unfold pos; rw [e1, e2]
      rw [nI_add, ep]
      refine C_power_ok hn (by omega) ?_
      rw [nI_mul, nI_add, nI_add, nI_div (by omega) h1 (by omega), Nat.div_div_eq_div_mul, ← Nat.pow_succ]
      exact ih2 s' rfl
theorem C_mirrored_ok {n c : Nat} {σ : St} {Q : Int32 → St → Prop} (h : wok n c) (k : Q (nI (mir n c)) σ) : P_C_mirrored (nI n) (nI c) σ Q := by
  have hn := h.1
  have h9 := nn9 hn
  have h1 := hn.1
  have h2 := hn.2
  intro K4 K12 h4 h12
  refine loopU (P := fun _ σ' => σ' = σ) (G := fun a σ' => K4 (nI n) (nI c) (nI (sm (fun k => dig n c k * n ^ (n * (k % n) + k / n)) (n * a))) (nI a) σ') n ?_ ?_ 0 σ (Nat.zero_le _) rfl
  · rintro σ' rfl
    exact h4 _ _ _ _ _ (b_tt (nI_le (Nat.le_refl _) (by omega)) k)
  · rintro a σ' ha rfl ih
    refine h4 _ _ _ _ _ (b_ff (nI_ge ha (by omega)) ?_)
    refine loopU (P := fun _ s' => s' = σ') (G := fun b s' => K12 (nI n) (nI c) (nI (sm (fun k => dig n c k * n ^ (n * (k % n) + k / n)) (n * a + b))) (nI a) (nI b) s') n ?_ ?_ 0 σ' (Nat.zero_le _) rfl
    · rintro s' rfl
      refine h12 _ _ _ _ _ _ (b_tt (nI_le (Nat.le_refl _) (by omega)) ?_)
      rw [nI_add, show n * a + n = n * (a + 1) from (Nat.mul_succ n a).symm]
      exact ih s' rfl
    · rintro b s' hb rfl ih2
      refine h12 _ _ _ _ _ _ (b_ff (nI_ge hb (by omega)) (C_product_ok h ha hb ?_))
      have hk := nab hb ha
      obtain ⟨e1, e2⟩ := nab_d (a := a) hb
      rw [nI_mul, nI_add]
      refine C_power_ok hn (by omega) ?_
      rw [nI_mul, nI_add, nI_add]
      have es : sm (fun k => dig n c k * n ^ (n * (k % n) + k / n)) (n * a + b + 1) = sm (fun k => dig n c k * n ^ (n * (k % n) + k / n)) (n * a + b) + dig n c (n * a + b) * n ^ (n * b + a) := by
        rw [sm, e1, e2]
      rw [← es]
      exact ih2 s' rfl
theorem mn_nI {a b : Nat} (ha : a < 2 ^ 31) (hb : b < 2 ^ 31) : mn (nI a) (nI b) = nI (Nat.min a b) := by
  unfold mn
  have e : Nat.min a b = min a b := rfl
  rcases Nat.lt_or_ge b a with q | q
  · rw [if_pos (nI_lt q ha), e, Nat.min_eq_right (Nat.le_of_lt q)]
  · rw [if_neg (nI_nlt q hb), e, Nat.min_eq_left q]
theorem C_plainCode_ok {n c : Nat} {σ : St} {Q : Int32 → St → Prop} (h : wok n c) (k : Q (nI (plain n c)) σ) : P_C_plainCode (nI n) (nI c) σ Q := by
  have hn := h.1
  have h2 := hn.2
  have h3 := h.2
  have hl := wc_le hn
  have w6 := ways_le (n := n)
  have w0 := ways_pos n
  intro K4 h4
  refine loopU (P := fun _ σ' => σ' = σ) (G := fun j σ' => K4 (nI n) (nI c) (nI (pln n c j)) (nI (j + 1)) σ') (ways n - 1) ?_ ?_ 0 σ (Nat.zero_le _) rfl
  · rintro σ' rfl
    exact h4 _ _ _ _ _ (C_renamingCount_ok hn (b_tt (nI_le (by omega) (by omega)) k))
  · rintro j σ' hj rfl ih
    refine h4 _ _ _ _ _ (C_renamingCount_ok hn (b_ff (nI_ge (by omega) (by omega)) (C_renamed_ok h (by omega) ?_)))
    have q1 := pln_le h j 0 (Nat.zero_le _)
    rw [rcode_0 h] at q1
    have q2 := rcode_lt (c := c) hn (show j + 1 < ways n by omega)
    rw [mn_nI (by omega) (by omega), nI_add]
    exact ih σ' rfl
theorem C_alikeCount_ok {n c : Nat} {σ : St} {Q : Int32 → St → Prop} (h : wok n c) (k : Q (nI (ways n / stb n c)) σ) : P_C_alikeCount (nI n) (nI c) σ Q := by
  have hn := h.1
  have h2 := hn.2
  have h3 := h.2
  have hl := wc_le hn
  have w6 := ways_le (n := n)
  have w0 := ways_pos n
  have hs := (oc_ways h).2
  have hs2 : stb n c ≤ ways n := ct_le _ _
  intro K4 h4
  have e0 : ct (fun w => rcode n c w == c) (0 + 1) = 1 := by simp [ct, rcode_0 h]
  have key := loopU (P := fun _ σ' => σ' = σ) (G := fun j σ' => K4 (nI n) (nI c) (nI (ct (fun w => rcode n c w == c) (j + 1))) (nI (j + 1)) σ') (ways n - 1) ?_ ?_ 0 σ (Nat.zero_le _) rfl
  · rw [e0] at key
    exact key
  · rintro σ' rfl
    have e : ct (fun w => rcode n c w == c) (ways n - 1 + 1) = stb n c := by rw [show ways n - 1 + 1 = ways n by omega]; rfl
    rw [e]
    refine h4 _ _ _ _ _ (C_renamingCount_ok hn (b_tt (nI_le (by omega) (by omega)) (b_ff (nI_ne0 hs (by omega)) (C_renamingCount_ok hn ⟨nI_ne0 hs (by omega), ?_⟩))))
    rw [nI_div (by omega) hs (by omega)]
    exact k
  · rintro j σ' hj rfl ih
    refine h4 _ _ _ _ _ (C_renamingCount_ok hn (b_ff (nI_ge (by omega) (by omega)) (C_renamed_ok h (by omega) ?_)))
    have q2 := rcode_lt (c := c) hn (show j + 1 < ways n by omega)
    have es : ct (fun w => rcode n c w == c) (j + 1 + 1) = ct (fun w => rcode n c w == c) (j + 1) + (if rcode n c (j + 1) == c then 1 else 0) := rfl
    have := ih σ' rfl
    refine b_eq _ c rfl rfl (by omega) (by omega) (fun e => ?_) (fun e => ?_)
    · rw [es, if_pos (by simp [e])] at this
      rw [nI_add, nI_add]; exact this
    · rw [es, if_neg (by simp [e])] at this
      rw [nI_add]; exact this
theorem all_const {n : Nat} (h : 0 < n) (v : Bool) : (List.range n).all (fun _ => v) = v := by
  obtain ⟨m, rfl⟩ : ∃ m, n = m + 1 := ⟨n - 1, by omega⟩
  cases v with
  | true => simp
  | false =>
    rw [List.range_succ]
    simp
theorem C_stayingThings_ok {n c : Nat} {σ : St} {Q : Int32 → St → Prop} (h : wok n c) (k : Q (nI (things n c 4)) σ) : P_C_stayingThings (nI n) (nI c) σ Q := by
  have hn := h.1
  have h1 := hn.1
  have h2 := hn.2
  intro K4 h4
  have e4 : things n c 4 = bset n (fun x => dig n c (n * x + x) == x) := by
    unfold things bset
    refine sm_cong (fun x hx => ?_)
    simp only [if_pos, all_const h1]
  rw [e4] at k
  refine loopU (P := fun _ σ' => σ' = σ) (G := fun a σ' => K4 (nI n) (nI c) (nI (bset a (fun x => dig n c (n * x + x) == x))) (nI a) σ') n ?_ ?_ 0 σ (Nat.zero_le _) rfl
  · rintro σ' rfl
    exact h4 _ _ _ _ _ (b_tt (nI_le (Nat.le_refl _) (by omega)) k)
  · rintro a σ' ha rfl ih
    refine h4 _ _ _ _ _ (b_ff (nI_ge ha (by omega)) (C_product_ok h ha ha ?_))
    have hd := dig_lt (c := c) (k := n * a + a) h1
    have := ih σ' rfl
    rw [← bset_or] at this
    refine b_eq _ a rfl rfl (by omega) (by omega) (fun e => ?_) (fun e => ?_)
    · rw [if_pos (by simp [e])] at this
      rw [shl_1 a (by omega), nI_or, nI_add]; exact this
    · rw [if_neg (by simp [e]), Nat.or_zero] at this
      rw [nI_add]; exact this
theorem ct_all (p : Nat → Bool) : ∀ n, (ct p n = n ↔ (List.range n).all p = true)
  | 0 => by simp [ct]
  | n + 1 => by
    rw [all_range_succ, ct]
    have h1 := ct_le p n
    have h2 := ct_all p n
    cases hp : p n with
    | true =>
      rw [Bool.and_true, ← h2, if_pos rfl]
      omega
    | false =>
      rw [Bool.and_false, if_neg (by decide)]
      exact ⟨fun z => by omega, fun z => by cases z⟩
theorem C_leftLeavers_ok {n c : Nat} {σ : St} {Q : Int32 → St → Prop} (h : wok n c) (k : Q (nI (things n c 5)) σ) : P_C_leftLeavers (nI n) (nI c) σ Q := by
  have hn := h.1
  have h1 := hn.1
  have h2 := hn.2
  intro K4 K15 h4 h15
  have e5 : things n c 5 = bset n (fun x => (List.range n).all (fun y => dig n c (n * x + y) == y)) := by
    unfold things bset
    refine sm_cong (fun x hx => ?_)
    simp only [if_neg (show ¬ (5 : Nat) = 4 by decide), if_pos]
  rw [e5] at k
  refine loopU (P := fun _ σ' => σ' = σ) (G := fun a σ' => K4 (nI n) (nI c) (nI (bset a (fun x => (List.range n).all (fun y => dig n c (n * x + y) == y)))) (nI a) σ') n ?_ ?_ 0 σ (Nat.zero_le _) rfl
  · rintro σ' rfl
    exact h4 _ _ _ _ _ (b_tt (nI_le (Nat.le_refl _) (by omega)) k)
  · rintro a σ' ha rfl ih
    refine h4 _ _ _ _ _ (b_ff (nI_ge ha (by omega)) ?_)
    refine loopU (P := fun _ s' => s' = σ') (G := fun b s' => K15 (nI n) (nI c) (nI (bset a (fun x => (List.range n).all (fun y => dig n c (n * x + y) == y)))) (nI a) (nI (ct (fun y => dig n c (n * a + y) == y) b)) (nI b) s') n ?_ ?_ 0 σ' (Nat.zero_le _) rfl
    · rintro s' rfl
      refine h15 _ _ _ _ _ _ _ (b_tt (nI_le (Nat.le_refl _) (by omega)) ?_)
      have hc := ct_le (fun y => dig n c (n * a + y) == y) n
      have ha2 := ct_all (fun y => dig n c (n * a + y) == y) n
      have := ih s' rfl
      rw [← bset_or] at this
      refine b_eq _ n rfl rfl (by omega) (by omega) (fun e => ?_) (fun e => ?_)
      · rw [if_pos (ha2.mp e)] at this
        rw [shl_1 a (by omega), nI_or, nI_add]; exact this
      · rw [if_neg (fun z => e (ha2.mpr z)), Nat.or_zero] at this
        rw [nI_add]; exact this
    · rintro b s' hb rfl ih2
      refine h15 _ _ _ _ _ _ _ (b_ff (nI_ge hb (by omega)) (C_product_ok h ha hb ?_))
      have hd := dig_lt (c := c) (k := n * a + b) h1
      have := ih2 s' rfl
      rw [ct] at this
      refine b_eq _ b rfl rfl (by omega) (by omega) (fun e => ?_) (fun e => ?_)
      · rw [if_pos (by simp [e])] at this
        rw [nI_add, nI_add]; exact this
      · rw [if_neg (by simp [e])] at this
        rw [nI_add]; exact this
theorem mir_dig {n c x y : Nat} (hn : nok n) (hx : x < n) (hy : y < n) : dig n (mir n c) (n * x + y) = dig n c (n * y + x) := by
  have e : mir n c = cd n (fun k => dig n c (n * (k % n) + k / n)) (n * n) := by
    rcases nok3 hn with rfl | rfl | rfl
    · rfl
    · simp only [mir, cd, sm, show (2 * 2 : Nat) = 4 from rfl, Nat.reduceMod, Nat.reduceDiv, Nat.reduceMul, Nat.reduceAdd]; omega
    · simp only [mir, cd, sm, show (3 * 3 : Nat) = 9 from rfl, Nat.reduceMod, Nat.reduceDiv, Nat.reduceMul, Nat.reduceAdd]; omega
  obtain ⟨e1, e2⟩ := nab_d (a := x) hy
  rw [e, cd_dig hn.1 (fun k _ => dig_lt hn.1) _ (nab hx hy), e1, e2]
theorem things_mir {n c : Nat} (hn : nok n) : things n (mir n c) 5 = things n c 6 := by
  unfold things bset
  refine sm_cong (fun x hx => ?_)
  congr 1
  apply propext
  rw [List.all_eq_true, List.all_eq_true]
  constructor
  · intro h y hy
    have hy' := List.mem_range.mp hy
    have := h y hy
    simp only [if_neg (show ¬ (5 : Nat) = 4 by decide), if_pos] at this
    rw [mir_dig hn hx hy'] at this
    simpa using this
  · intro h y hy
    have hy' := List.mem_range.mp hy
    have := h y hy
    simp only [if_neg (show ¬ (5 : Nat) = 4 by decide), if_pos]
    rw [mir_dig hn hx hy']
    simpa using this
theorem C_isIn_ok {S j : Nat} {σ : St} {Q : Int32 → St → Prop} (hS : S < 2 ^ 31) (hj : j < 32) (k : Q (bI (S.testBit j)) σ) : P_C_isIn (nI S) (nI j) σ Q :=
  b_bit hS hj (fun e => by rw [e] at k; exact k) (fun e => by rw [e] at k; exact k)
theorem C_withProducts_ok {n c S : Nat} {σ : St} {Q : Int32 → St → Prop} (h : wok n c) (hS : S < 2 ^ n) (k : Q (nI (addp n c S (n * n))) σ) : P_C_withProducts (nI n) (nI c) (nI S) σ Q := by
  have hn := h.1
  have h1 := hn.1
  have h2 := hn.2
  have h8 : 2 ^ n ≤ 2 ^ 3 := Nat.pow_le_pow_right (by decide) h2
  intro K5 K14 h5 h14
  have key := loopU (P := fun _ σ' => σ' = σ) (G := fun a σ' => K5 (nI n) (nI c) (nI S) (nI (addp n c S (n * a))) (nI a) σ') n ?_ ?_ 0 σ (Nat.zero_le _) rfl
  · exact key
  · rintro σ' rfl
    exact h5 _ _ _ _ _ _ (b_tt (nI_le (Nat.le_refl _) (by omega)) k)
  · rintro a σ' ha rfl ih
    refine h5 _ _ _ _ _ _ (b_ff (nI_ge ha (by omega)) ?_)
    refine loopU (P := fun _ s' => s' = σ') (G := fun b s' => K14 (nI n) (nI c) (nI S) (nI (addp n c S (n * a + b))) (nI a) (nI b) s') n ?_ ?_ 0 σ' (Nat.zero_le _) rfl
    · rintro s' rfl
      refine h14 _ _ _ _ _ _ _ (b_tt (nI_le (Nat.le_refl _) (by omega)) ?_)
      rw [nI_add, show n * a + n = n * (a + 1) from (Nat.mul_succ n a).symm]
      exact ih s' rfl
    · rintro b s' hb rfl ih2
      obtain ⟨e1, e2⟩ := nab_d (a := a) hb
      have hd := dig_lt (c := c) (k := n * a + b) h1
      have := ih2 s' rfl
      rw [show n * a + (b + 1) = n * a + b + 1 by omega, addp_succ, pr, e1, e2] at this
      refine h14 _ _ _ _ _ _ _ (b_ff (nI_ge hb (by omega)) (C_isIn_ok (by omega) (by omega) (b_b _ rfl (fun e => ?_) (fun e => C_isIn_ok (by omega) (by omega) (b_b _ rfl (fun f => ?_) (fun f => C_product_ok h ha hb ?_))))))
      · rw [e, Bool.false_and, if_neg (by decide), Nat.or_zero] at this
        rw [nI_add]; exact this
      · rw [e, f, if_neg (by decide), Nat.or_zero] at this
        rw [nI_add]; exact this
      · rw [e, f, if_pos (by decide)] at this
        rw [shl_1 _ (by omega), nI_or, nI_add]; exact this
theorem mx_0 {a : Nat} (ha : a < 2 ^ 31) : mx (nI a) (nI 0) = nI a := if_neg (nI_nlt (Nat.zero_le _) ha)
theorem L_isLetter_ok {v : Nat} {σ : St} {Q : Int32 → St → Prop} (hv : v < 2 ^ 31) (k : Q (bI (decide (v < 3))) σ) : P_L_isLetter (nI v) σ Q := by
  refine b_lt v 0 rfl nI_0.symm hv (by decide) (fun z => absurd z (Nat.not_lt_zero _)) (fun _ => b_le 3 v rfl rfl (by decide) hv (fun g => ?_) (fun g => ?_))
  · have e : decide (v < 3) = false := decide_eq_false (by omega)
    rw [e] at k; exact k
  · have e : decide (v < 3) = true := decide_eq_true g
    rw [e] at k; exact k
