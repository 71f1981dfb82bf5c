/-! things that come of others -/
def sub (S T : Nat) : Prop := ∀ i, S.testBit i = true → T.testBit i = true
theorem sub.rf {S : Nat} : sub S S := fun _ h => h
theorem sub.tr {S T U : Nat} (h : sub S T) (k : sub T U) : sub S U := fun i g => k i (h i g)
theorem sub.anti {S T : Nat} (h : sub S T) (k : sub T S) : S = T := by
  apply Nat.eq_of_testBit_eq
  intro i
  have h1 := h i
  have h2 := k i
  cases hs : S.testBit i <;> cases ht : T.testBit i <;> simp_all
def closedS (n c T : Nat) : Prop := ∀ a b, a < n → b < n → T.testBit a = true → T.testBit b = true → T.testBit (dig n c (n * a + b)) = true
def pr (n c k S : Nat) : Nat := if S.testBit (k / n) && S.testBit (k % n) then 2 ^ dig n c k else 0
theorem addp_succ (n c S k : Nat) : addp n c S (k + 1) = addp n c S k ||| pr n c k S := rfl
def inp (n c S : Nat) : Nat → Nat
  | 0 => S
  | k + 1 => inp n c S k ||| pr n c k (inp n c S k)
theorem sub_or {S T U : Nat} (h : sub S U) (k : sub T U) : sub (S ||| T) U := by
  intro i hi
  rw [Nat.testBit_or, Bool.or_eq_true] at hi
  rcases hi with g | g
  · exact h i g
  · exact k i g
theorem sub_orl {S T : Nat} : sub S (S ||| T) := fun i h => by rw [Nat.testBit_or, h]; rfl
theorem pr_sub {n c k S T : Nat} (hn : 0 < n) (hk : k < n * n) (hS : sub S T) (hT : closedS n c T) : sub (pr n c k S) T := by
  unfold pr
  by_cases e : (S.testBit (k / n) && S.testBit (k % n)) = true
  · rw [if_pos e]
    rw [Bool.and_eq_true] at e
    intro i hi
    rw [Nat.testBit_two_pow] at hi
    have hi := of_decide_eq_true hi
    subst hi
    have := hT (k / n) (k % n) (Nat.div_lt_of_lt_mul hk) (Nat.mod_lt _ hn) (hS _ e.1) (hS _ e.2)
    rwa [Nat.div_add_mod] at this
  · rw [if_neg e]
    intro i hi
    rw [Nat.zero_testBit] at hi
    cases hi
theorem inp_mono (n c S : Nat) : ∀ k, sub S (inp n c S k)
  | 0 => sub.rf
  | k + 1 => (inp_mono n c S k).tr sub_orl
theorem inp_mono2 (n c S : Nat) {j : Nat} : ∀ {k : Nat}, j ≤ k → sub (inp n c S j) (inp n c S k)
  | 0, h => by
    have : j = 0 := by omega
    subst this; exact sub.rf
  | k + 1, h => by
    rcases Nat.lt_or_ge j (k + 1) with q | q
    · exact (inp_mono2 n c S (by omega)).tr sub_orl
    · have : j = k + 1 := by omega
      subst this; exact sub.rf
theorem inp_sub {n c S T : Nat} (hn : 0 < n) (hS : sub S T) (hT : closedS n c T) : ∀ {k : Nat}, k ≤ n * n → sub (inp n c S k) T
  | 0, _ => hS
  | k + 1, h => sub_or (inp_sub hn hS hT (by omega)) (pr_sub hn (by omega) (inp_sub hn hS hT (by omega)) hT)
theorem addp_mono (n c S : Nat) : ∀ k, sub S (addp n c S k)
  | 0 => sub.rf
  | k + 1 => (addp_mono n c S k).tr sub_orl
theorem addp_mono2 (n c S : Nat) {j : Nat} : ∀ {k : Nat}, j ≤ k → sub (addp n c S j) (addp n c S k)
  | 0, h => by
    have : j = 0 := by omega
    subst this; exact sub.rf
  | k + 1, h => by
    rcases Nat.lt_or_ge j (k + 1) with q | q
    · exact (addp_mono2 n c S (by omega)).tr sub_orl
    · have : j = k + 1 := by omega
      subst this; exact sub.rf
theorem addp_sub {n c S T : Nat} (hn : 0 < n) (hS : sub S T) (hT : closedS n c T) : ∀ {k : Nat}, k ≤ n * n → sub (addp n c S k) T
  | 0, _ => hS
  | k + 1, h => sub_or (addp_sub hn hS hT (by omega)) (pr_sub hn (by omega) hS hT)
theorem pr_bit {n c k S : Nat} (h1 : S.testBit (k / n) = true) (h2 : S.testBit (k % n) = true) : (pr n c k S).testBit (dig n c k) = true := by
  unfold pr
  rw [h1, h2]
  simp [Nat.testBit_two_pow]
/-- nothing more comes: it is closed -/
theorem inp_fix {n c S : Nat} (h : inp n c S (n * n) = S) : closedS n c S := by
  intro a b ha hb h1 h2
  have hk := nab ha hb
  obtain ⟨e1, e2⟩ := nab_d (a := a) hb
  have hs : inp n c S (n * a + b) = S := by
    apply sub.anti
    · have := inp_mono2 n c S (Nat.le_of_lt hk)
      rwa [h] at this
    · exact inp_mono n c S _
  have hb2 : sub (inp n c S (n * a + b + 1)) S := by
    have := inp_mono2 n c S (show n * a + b + 1 ≤ n * n from hk)
    rwa [h] at this
  refine hb2 _ ?_
  show (inp n c S (n * a + b) ||| pr n c (n * a + b) (inp n c S (n * a + b))).testBit _ = true
  rw [hs, Nat.testBit_or, pr_bit (by rw [e1]; exact h1) (by rw [e2]; exact h2), Bool.or_true]
theorem addp_fix {n c S : Nat} (h : addp n c S (n * n) = S) : closedS n c S := by
  intro a b ha hb h1 h2
  have hk := nab ha hb
  obtain ⟨e1, e2⟩ := nab_d (a := a) hb
  have hb2 : sub (addp n c S (n * a + b + 1)) S := by
    have := addp_mono2 n c S (show n * a + b + 1 ≤ n * n from hk)
    rwa [h] at this
  refine hb2 _ ?_
  rw [addp_succ, Nat.testBit_or, pr_bit (by rw [e1]; exact h1) (by rw [e2]; exact h2), Bool.or_true]
theorem clo_mono (n c S : Nat) : ∀ r, sub S (clo n c S r)
  | 0 => sub.rf
  | r + 1 => (clo_mono n c S r).tr (addp_mono _ _ _ _)
theorem clo_sub {n c S T : Nat} (hn : 0 < n) (hS : sub S T) (hT : closedS n c T) : ∀ r, sub (clo n c S r) T
  | 0 => hS
  | r + 1 => addp_sub hn (clo_sub hn hS hT r) hT (Nat.le_refl _)
/-- how many things a set has -/
def card (n S : Nat) : Nat := ct (fun i => S.testBit i) n
theorem card_le {n S T : Nat} (h : sub S T) : card n S ≤ card n T := by
  unfold card
  induction n with
  | zero => exact Nat.le_refl _
  | succ n ih =>
    rw [ct, ct]
    have := h n
    cases hs : S.testBit n <;> cases ht : T.testBit n <;> simp_all <;> omega
theorem card_lt {n S T : Nat} (h : sub S T) (hT : T < 2 ^ n) (hne : S ≠ T) : card n S < card n T := by
  have hex : ∃ i, S.testBit i ≠ T.testBit i := by
    apply Classical.byContradiction
    intro hno
    apply hne
    apply Nat.eq_of_testBit_eq
    intro i
    apply Classical.byContradiction
    intro hi
    exact hno ⟨i, hi⟩
  obtain ⟨i, hi⟩ := hex
  have h1 : S.testBit i = false ∧ T.testBit i = true := by
    have := h i
    cases hs : S.testBit i <;> cases ht : T.testBit i <;> simp_all
  have hin : i < n := by
    apply Classical.byContradiction
    intro hge
    have : T.testBit i = false := Nat.testBit_lt_two_pow (Nat.lt_of_lt_of_le hT (Nat.pow_le_pow_right (by decide) (by omega)))
    rw [this] at h1
    cases h1.2
  unfold card
  have key : ∀ n, i < n → ct (fun i => S.testBit i) n < ct (fun i => T.testBit i) n := by
    intro n
    induction n with
    | zero => intro h; exact absurd h (Nat.not_lt_zero i)
    | succ n ih =>
      intro hin
      rw [ct, ct]
      rcases Nat.lt_or_ge i n with q | q
      · have := ih q
        have hh := h n
        cases hs : S.testBit n <;> cases ht : T.testBit n <;> simp_all <;> omega
      · have : i = n := by omega
        subst this
        have h2 : ct (fun i => S.testBit i) i ≤ ct (fun i => T.testBit i) i := card_le h
        simp only [h1.1, h1.2]
        simp
        omega
  exact key n hin
theorem card_full {n T : Nat} (h : n ≤ card n T) : ∀ i, i < n → T.testBit i = true := by
  unfold card at h
  have key : ∀ n, n ≤ ct (fun i => T.testBit i) n → ∀ i, i < n → T.testBit i = true := by
    intro n
    induction n with
    | zero => intro _ i hi; exact absurd hi (Nat.not_lt_zero i)
    | succ n ih =>
      intro h i hi
      rw [ct] at h
      have hl := ct_le (fun i => T.testBit i) n
      cases ht : T.testBit n with
      | false => simp only [ht] at h; simp at h; omega
      | true =>
        simp only [ht] at h
        simp at h
        rcases Nat.lt_or_ge i n with q | q
        · exact ih h i q
        · have : i = n := by omega
          subst this; exact ht
  exact key n h
theorem pow_or_lt {S T n : Nat} (h1 : S < 2 ^ n) (h2 : T < 2 ^ n) : S ||| T < 2 ^ n := Nat.or_lt_two_pow h1 h2
theorem pr_lt {n c k S : Nat} (hn : 0 < n) : pr n c k S < 2 ^ n := by
  unfold pr
  split
  · exact Nat.pow_lt_pow_right (by decide) (dig_lt hn)
  · exact Nat.pow_pos (by decide)
theorem addp_lt {n c S : Nat} (hn : 0 < n) (h : S < 2 ^ n) : ∀ k, addp n c S k < 2 ^ n
  | 0 => h
  | k + 1 => pow_or_lt (addp_lt hn h k) (pr_lt hn)
theorem inp_lt {n c S : Nat} (hn : 0 < n) (h : S < 2 ^ n) : ∀ k, inp n c S k < 2 ^ n
  | 0 => h
  | k + 1 => pow_or_lt (inp_lt hn h k) (pr_lt hn)
theorem clo_lt {n c S : Nat} (hn : 0 < n) (h : S < 2 ^ n) : ∀ r, clo n c S r < 2 ^ n
  | 0 => h
  | r + 1 => addp_lt hn (clo_lt hn h r) _
/-- after n rounds it is closed -/
theorem clo_closed {n c S : Nat} (hn : 0 < n) (h : S < 2 ^ n) : closedS n c (clo n c S n) := by
  have step : ∀ r, (clo n c S (r + 1) = clo n c S r → ∀ j, clo n c S (r + j) = clo n c S r) := by
    intro r e j
    induction j with
    | zero => rfl
    | succ j ih =>
      show addp n c (clo n c S (r + j)) (n * n) = _
      rw [ih]; exact e
  by_cases hex : ∃ r, r < n ∧ clo n c S (r + 1) = clo n c S r
  · obtain ⟨r, hr, e⟩ := hex
    have h1 := step r e (n - r)
    rw [show r + (n - r) = n by omega] at h1
    rw [h1]
    exact addp_fix e
  · have hcard : ∀ r, r ≤ n → r ≤ card n (clo n c S r) := by
      intro r
      induction r with
      | zero => intro _; exact Nat.zero_le _
      | succ r ih =>
        intro hr
        have h1 := ih (by omega)
        have h2 : clo n c S r ≠ clo n c S (r + 1) := fun e => hex ⟨r, by omega, e.symm⟩
        have h3 := card_lt (n := n) (addp_mono n c (clo n c S r) (n * n)) (clo_lt hn h (r + 1)) h2
        have h4 : card n (clo n c S (r + 1)) = card n (addp n c (clo n c S r) (n * n)) := rfl
        omega
    have hf := card_full (hcard n (Nat.le_refl _))
    intro a b ha hb _ _
    exact hf _ (dig_lt hn)
theorem clo_eq {n c S T : Nat} (hn : 0 < n) (h : S < 2 ^ n) (h1 : sub S T) (h2 : closedS n c T) (h3 : sub T (clo n c S n)) : T = clo n c S n := h3.anti (clo_sub hn h1 h2 n)
theorem bit_shr {S j : Nat} (hS : S < 2 ^ 31) (hj : j < 32) : shr (nI S) (nI j) &&& nI 1 = nI (if S.testBit j then 1 else 0) := by
  rw [shr_nI hS hj, nI_and, Nat.and_one_is_mod, Nat.testBit_eq_decide_div_mod_eq]
  have : S / 2 ^ j % 2 < 2 := Nat.mod_lt _ (by decide)
  by_cases e : S / 2 ^ j % 2 = 1
  · simp [e]
  · have e0 : S / 2 ^ j % 2 = 0 := by omega
    simp [e0]
theorem b_bit {S j : Nat} {A B : Prop} (hS : S < 2 ^ 31) (hj : j < 32) (f : S.testBit j = true → A) (g : S.testBit j = false → B) : (shr (nI S) (nI j) &&& nI 1 = nI 1 → A) ∧ (¬ shr (nI S) (nI j) &&& nI 1 = nI 1 → B) := by
  rw [bit_shr hS hj]
  cases e : S.testBit j with
  | true => exact b_tt rfl (f e)
  | false => exact b_ff (by decide) (g e)
theorem M_closed_ok {m : Nat} {a : As} {x : Int32} {σ : St} {Q : Int32 → St → Prop} (h : MI m σ a) (ha : asok a) (kk : ∀ σ', chg (tab m) no σ σ' → Q (qClosed a x) σ') : P_M_closed m x σ Q := by
  have hwa := ha.1.1
  have q1 := hwa.1.1
  have q3 := hwa.1.2
  have h9 := nn9 hwa.1
  refine ⟨h.1.s, fun K41 K52 h41 h52 => ar_mk (m + 1) 176 0 h.1.r1 h.1.a1 rfl (by decide) (by decide) ?_⟩
  have hp8 : 2 ^ a.1.1 ≤ 8 := Nat.le_trans (Nat.pow_le_pow_right (by decide) q3) (by decide)
  have hp1 : 1 ≤ 2 ^ a.1.1 := Nat.pow_pos (by decide)
  rw [h.n, shl_1 _ (by omega), nI_sub hp1]
  refine M_in_ok (lo := 0) (hi := ((2 ^ a.1.1 : Nat) : Int) - 1) rfl (by rw [i64T, nI_toInt (by omega)]; omega) ?_
  rw [isN_wthn]
  refine b_b _ rfl (fun e => ?_) (fun e => ?_)
  · have eo : qClosed a x = (-2) := by simp [qClosed, e]
    rw [eo] at kk; exact kk σ chg.rf
  obtain ⟨S, hS, rfl⟩ := isN_ex e (by omega)
  have eo : qClosed a (nI S) = nI (clo a.1.1 a.1.2.1 S a.1.1) := by simp [qClosed, e, tn_nI (show S < 2 ^ 31 by omega)]
  rw [eo] at kk
  refine ar_mk (m + 1) 176 1 h.1.r1 h.1.a1 rfl (by decide) (by decide) ?_
  rw [h.c]
  obtain ⟨n, en⟩ : ∃ n, n = a.1.1 := ⟨_, rfl⟩
  obtain ⟨c, ec⟩ : ∃ c, c = a.1.2.1 := ⟨_, rfl⟩
  refine M_unfolds_ok h.1 hwa (fun σ1 hc hT => ?_)
  have hL1 := h.1.g hc
  rw [← en, ← ec] at hT kk
  rw [← en] at q1 q3 h9 hp8 hp1 hS
  rw [← en]
  have hcl := clo_closed (c := c) q1 hS
  -- the rounds
  have key : ∀ (d T : Nat), T < 2 ^ n → sub S T → sub T (clo n c S n) → 8 - T ≤ d → K41 (nI n) (nI T) (nI 1) σ1 := by
    intro d
    induction d with
    | zero => intro T hT8 _ _ hd; omega
    | succ d ih =>
      intro T hT8 hST hTC hd
      refine h41 _ _ _ _ (b_ff (by decide) ?_)
      refine loopU (P := fun _ s' => s' = σ1) (G := fun k s' => K52 (nI n) (nI (inp n c T k)) (nI T) (nI k) s') (n * n) ?_ ?_ 0 σ1 (Nat.zero_le _) rfl
      · rintro s' rfl
        have hil := inp_lt (c := c) q1 hT8 (n * n)
        refine h52 _ _ _ _ _ (b_tt (by rw [nI_mul]; exact nI_le (Nat.le_refl _) (by omega)) ?_)
        refine b_eq _ _ rfl rfl (by omega) (by omega) (fun e1 => ?_) (fun e1 => ?_)
        · refine h41 _ _ _ _ (b_tt rfl ?_)
          have hfin : T = clo n c S n := clo_eq q1 hS hST (inp_fix e1) hTC
          rw [e1, hfin]
          exact kk s' hc
        · have hm := inp_mono n c T (n * n)
          have hle : T < inp n c T (n * n) := by
            have h1 : T ≤ inp n c T (n * n) := by
              have e3 : T ||| inp n c T (n * n) = inp n c T (n * n) := sub.anti (sub_or hm sub.rf) (fun i hi => by rw [Nat.testBit_or, hi, Bool.or_true])
              rw [← e3]; exact Nat.left_le_or
            omega
          exact ih (inp n c T (n * n)) hil (hST.tr hm) (inp_sub q1 hTC hcl (Nat.le_refl _)) (by omega)
      · rintro k s' hk rfl ih2
        have hil := inp_lt (c := c) q1 hT8 k
        have hdiv : k / n < n := Nat.div_lt_of_lt_mul hk
        have hmod : k % n < n := Nat.mod_lt _ q1
        have hdg := dig_lt (c := c) (k := k) q1
        refine h52 _ _ _ _ _ (b_ff (by rw [nI_mul]; exact nI_ge hk (by omega)) ⟨nI_ne0 q1 (by omega), ?_⟩)
        rw [nI_div (by omega) q1 (by omega)]
        have go0 : (inp n c T k).testBit (k / n) = false ∨ (inp n c T k).testBit (k % n) = false → K52 (nI n) (nI (inp n c T k) ||| nI 0) (nI T) (nI k + nI 1) s' := by
          intro hor
          have e0 : inp n c T (k + 1) = inp n c T k ||| 0 := by
            show _ ||| pr n c k _ = _
            unfold pr
            rw [if_neg (by rcases hor with g | g <;> simp [g])]
          rw [nI_or, ← e0, nI_add]
          exact ih2 s' rfl
        refine b_bit (by omega) (by omega) (fun e1 => ⟨nI_ne0 q1 (by omega), ?_⟩) (fun e1 => go0 (Or.inl e1))
        rw [irem_nI (by omega) q1 (by omega)]
        refine b_bit (by omega) (by omega) (fun e2 => ?_) (fun e2 => go0 (Or.inr e2))
        refine ar_mk (m + 7) 9 k hL1.r7 hL1.a7 rfl (by omega) (by decide) ?_
        rw [hT k hk, shl_1 _ (by omega), nI_or, nI_add]
        have e0 : inp n c T (k + 1) = inp n c T k ||| 2 ^ dig n c k := by
          show _ ||| pr n c k _ = _
          unfold pr
          rw [if_pos (by simp [e1, e2])]
        rw [← e0]
        exact ih2 s' rfl
  exact key 8 S hS sub.rf (clo_mono n c S n) (by omega)
