/-! The class: a law worked out in all cases. -/
def PA (c N : Nat) (g : Nat → List Nat) (h : Nat) (σ : St) : Prop := ∀ p, p < h → ∀ t, t < 3 → s_i σ (c + 3) (3 * p + t) = nI (bset N (fun k => (g k).getD (h - 1 - p) 0 == t))
def GV (n N : Nat) (g : Nat → List Nat) (h : Nat) : Prop := ∀ k, k < N → (g k).length = h ∧ ∀ v ∈ g k, v < n
def bj (c : Nat) : Nat → Nat → Prop := fun q _ => q = c + 3 ∨ q = c + 4
theorem bset_ext {N : Nat} {p q : Nat → Bool} (h : ∀ k, k < N → p k = q k) : bset N p = bset N q := sm_cong (fun k hk => by rw [h k hk])
theorem bset_orand {N : Nat} {p q r s : Nat → Bool} (h : ∀ k, k < N → (p k || (q k && r k)) = s k) : bset N p ||| (bset N q &&& bset N r) = bset N s := by
  apply Nat.eq_of_testBit_eq
  intro i
  rw [Nat.testBit_or, Nat.testBit_and, bset_bit, bset_bit, bset_bit, bset_bit]
  by_cases e : i < N
  · rw [← h i e]; simp [e]
  · simp [e]
theorem bset_none {N : Nat} {p : Nat → Bool} (h : bset N p = 0) : ∀ k, k < N → p k = false := fun k hk => by
  have := bset_bit p N k
  rw [h, Nat.zero_testBit] at this
  simp [hk] at this
  exact this
theorem nab_lt {n a b a' b' : Nat} (hb : b < n) (hb' : b' < n) : n * a + b < n * a' + b' + 1 ↔ n * a + b < n * a' + b' ∨ (a = a' ∧ b = b') := by
  constructor
  · intro h
    rcases Nat.lt_or_ge (n * a + b) (n * a' + b') with q | q
    · exact Or.inl q
    · have e : n * a + b = n * a' + b' := by omega
      obtain ⟨e1, e2⟩ := nab_d (a := a) hb
      obtain ⟨e3, e4⟩ := nab_d (a := a') hb'
      rw [e] at e1 e2
      exact Or.inr ⟨e1.symm.trans e3, e2.symm.trans e4⟩
  · rintro (h | ⟨rfl, rfl⟩) <;> omega
def putS (n code : Nat) (l : List Nat) : List Nat := match l with
  | b :: a :: r => dig n code (n * a + b) :: r
  | r => r
theorem putS_ok {n code : Nat} : ∀ {l : List Nat}, 2 ≤ l.length → (putS n code l).length = l.length - 1 ∧ (putS n code l).getD 0 0 = dig n code (n * l.getD 1 0 + l.getD 0 0) ∧ ∀ i, (putS n code l).getD (i + 1) 0 = l.getD (i + 2) 0
  | [], h => by simp at h
  | [_], h => by simp at h
  | b :: a :: r, _ => by simp [putS]
theorem B_join_ok {c n code N h : Nat} {g : Nat → List Nat} {σ : St} {Q : St → Prop} (hL : BL c σ) (hO : BO c n code σ) (hn : nok n) (hN : N ≤ 27) (h2 : 2 ≤ h) (h6 : h ≤ 6) (hP : PA c N g h σ) (hg : GV n N g h)
    (k : ∀ σ', chg (bj c) no σ σ' → BO c n code σ' → PA c N (fun k => putS n code (g k)) (h - 1) σ' → Q σ') : P_B_join c (nI (3 * (h - 2))) (nI (3 * (h - 1))) σ Q := by
  have n1 := hn.1
  have n3 := hn.2
  have h9 := nn9 hn
  obtain ⟨A, eA⟩ : ∃ A : Nat → Nat, A = fun k => (g k).getD 1 0 := ⟨_, rfl⟩
  obtain ⟨B, eB⟩ : ∃ B : Nat → Nat, B = fun k => (g k).getD 0 0 := ⟨_, rfl⟩
  have hA : ∀ k, k < N → A k < n := fun k hk => by rw [eA]; exact (hg k hk).2 _ (getD_memN (by rw [(hg k hk).1]; omega))
  have hB : ∀ k, k < N → B k < n := fun k hk => by rw [eB]; exact (hg k hk).2 _ (getD_memN (by rw [(hg k hk).1]; omega))
  have pL : ∀ t, t < 3 → s_i σ (c + 3) (3 * (h - 2) + t) = nI (bset N (fun k => A k == t)) := fun t ht => by
    have := hP (h - 2) (by omega) t ht
    rw [show h - 1 - (h - 2) = 1 by omega] at this
    rw [eA]; exact this
  have pR : ∀ t, t < 3 → s_i σ (c + 3) (3 * (h - 1) + t) = nI (bset N (fun k => B k == t)) := fun t ht => by
    have := hP (h - 1) (by omega) t ht
    rw [show h - 1 - (h - 1) = 0 by omega] at this
    rw [eB]; exact this
  obtain ⟨hz, h4, hT, htb⟩ := hO
  refine ⟨hL.s, fun K2 K23 K85 hk2 hk23 hk85 => ?_⟩
  refine loopU (P := fun a s' => chg (fun q _ => q = c + 4) no σ s' ∧ ∀ t, t < 3 → s_i s' (c + 4) t = nI (bset N (fun k => decide (n * A k + B k < n * a) && dig n code (n * A k + B k) == t))) (G := fun a s' => K2 (nI (3 * (h - 2))) (nI (3 * (h - 1))) (nI a) s') n ?_ ?_ 0 σ (Nat.zero_le _) ⟨chg.rf, fun t ht => ?_⟩
  · rintro s' ⟨hc, hv⟩
    have f4 : s_i s' c 4 = nI n := (hc.i (by omega)).trans h4
    refine hk2 _ _ _ _ (b_tt (by rw [f4]; exact nI_le (Nat.le_refl _) (by omega)) ?_)
    have hv' : ∀ t, t < 3 → s_i s' (c + 4) t = nI (bset N (fun k => dig n code (n * A k + B k) == t)) := fun t ht => by
      rw [hv t ht]
      congr 1
      refine bset_ext (fun k hk => ?_)
      rw [decide_eq_true (nab (hA k hk) (hB k hk)), Bool.true_and]
    refine loopU (P := fun i s2 => chg (fun q k => (q = c + 3 ∧ 3 * (h - 2) ≤ k ∧ k < 3 * (h - 2) + 3) ∨ q = c + 4) no s' s2 ∧ (∀ j, j < i → s_i s2 (c + 3) (3 * (h - 2) + j) = nI (bset N (fun k => dig n code (n * A k + B k) == j)) ∧ s_i s2 (c + 4) j = nI 0) ∧ ∀ j, i ≤ j → j < 3 → s_i s2 (c + 4) j = nI (bset N (fun k => dig n code (n * A k + B k) == j))) (G := fun i s2 => K85 (nI (3 * (h - 2))) (nI i) s2) 3 ?_ ?_ 0 s' (Nat.zero_le _) ⟨chg.rf, fun j hj => absurd hj (Nat.not_lt_zero j), fun j _ hj => hv' j hj⟩
    · rintro s2 ⟨hc2, hd, _⟩
      refine hk85 _ _ _ (b_tt (nI_le (Nat.le_refl _) (by decide)) ?_)
      have hcc : chg (fun q k => (q = c + 3 ∧ 3 * (h - 2) ≤ k ∧ k < 3 * (h - 2) + 3) ∨ q = c + 4) no σ s2 := (hc.up (fun q k z => Or.inr z)).tr hc2
      refine k s2 (hcc.up (fun q k z => by unfold bj; omega)) ⟨fun t ht => (hd t ht).2, (hcc.i (by omega)).trans h4, fun s hs t ht => (hcc.i (by omega)).trans (hT s hs t ht), fun j hj => (hcc.i (by omega)).trans (htb j hj)⟩ (fun p hp t ht => ?_)
      by_cases e : p = h - 2
      · subst e
        rw [(hd t ht).1]
        congr 1
        refine bset_ext (fun k hk => ?_)
        have hl := (hg k hk).1
        show _ = ((putS n code (g k)).getD (h - 1 - 1 - (h - 2)) 0 == t)
        rw [show h - 1 - 1 - (h - 2) = 0 by omega, (putS_ok (by omega)).2.1, eA, eB]
      · rw [hcc.i (by omega), hP p (by omega) t ht]
        congr 1
        refine bset_ext (fun k hk => ?_)
        have hl := (hg k hk).1
        obtain ⟨d, hd'⟩ : ∃ d, h - 1 - p = d + 2 := ⟨h - 1 - p - 2, by omega⟩
        show _ = ((putS n code (g k)).getD (h - 1 - 1 - p) 0 == t)
        rw [show h - 1 - 1 - p = d + 1 by omega, (putS_ok (by omega)).2.2, hd']
    · rintro i s2 hi ⟨hc2, hd, hr⟩ ih
      have L2 := (hL.g hc).g hc2
      refine hk85 _ _ _ (b_ff (nI_ge hi (by decide)) (ar_mk (c + 4) 3 i L2.r4 L2.a4 rfl hi (by decide) (ar_mk (c + 3) 18 (3 * (h - 2) + i) L2.r3 L2.a3 (by rw [nI_add]) (by omega) (by decide) ?_)))
      rw [hr i (Nat.le_refl _) hi]
      have c3 := hc2.wi (q := c + 3) (k := 3 * (h - 2) + i) (v := nI (bset N (fun k => dig n code (n * A k + B k) == i))) (Or.inl ⟨rfl, by omega, by omega⟩)
      have L3 := (hL.g hc).g c3
      refine ar_mk (c + 4) 3 i L3.r4 L3.a4 rfl hi (by decide) ?_
      rw [nI_add]
      refine ih _ ⟨c3.wi (Or.inr rfl), fun j hj => ?_, fun j hj1 hj2 => ?_⟩
      · by_cases e : j = i
        · subst e
          refine ⟨?_, by rw [s_i_wi, if_pos ⟨rfl, rfl⟩]⟩
          rw [s_i_wi, if_neg (fun z => by omega), s_i_wi, if_pos ⟨rfl, rfl⟩]
        · obtain ⟨d1, d2⟩ := hd j (by omega)
          refine ⟨?_, ?_⟩
          · rw [s_i_wi, if_neg (fun z => by omega), s_i_wi, if_neg (fun z => by omega)]; exact d1
          · rw [s_i_wi, if_neg (fun z => by omega), s_i_wi, if_neg (fun z => by omega)]; exact d2
      · rw [s_i_wi, if_neg (fun z => by omega), s_i_wi, if_neg (fun z => by omega)]
        exact hr j (by omega) hj2
  · rintro a s' ha ⟨hc, hv⟩ ih
    have f4 : s_i s' c 4 = nI n := (hc.i (by omega)).trans h4
    have L' := hL.g hc
    refine hk2 _ _ _ _ (b_ff (by rw [f4]; exact nI_ge ha (by omega)) (ar_mk (c + 3) 18 (3 * (h - 2) + a) L'.r3 L'.a3 (by rw [nI_add]) (by omega) (by decide) ?_))
    rw [(hc.i (by omega)).trans (pL a (by omega))]
    have hlt := bset_lt (fun k => A k == a) N
    have h27 : 2 ^ N ≤ 2 ^ 27 := Nat.pow_le_pow_right (by decide) hN
    refine loopU (P := fun b s2 => chg (fun q _ => q = c + 4) no σ s2 ∧ ∀ t, t < 3 → s_i s2 (c + 4) t = nI (bset N (fun k => decide (n * A k + B k < n * a + b) && dig n code (n * A k + B k) == t))) (G := fun b s2 => K23 (nI (3 * (h - 2))) (nI (3 * (h - 1))) (nI a) (nI (bset N (fun k => A k == a))) (nI b) s2) n ?_ ?_ 0 s' (Nat.zero_le _) ⟨hc, hv⟩
    · rintro s2 ⟨hc2, hv2⟩
      have g4 : s_i s2 c 4 = nI n := (hc2.i (by omega)).trans h4
      refine hk23 _ _ _ _ _ _ (b_tt (by rw [g4]; exact nI_le (Nat.le_refl _) (by omega)) ?_)
      rw [nI_add]
      rw [← Nat.mul_succ] at hv2
      exact ih s2 ⟨hc2, hv2⟩
    · rintro b s2 hb ⟨hc2, hv2⟩ ih2
      have g4 : s_i s2 c 4 = nI n := (hc2.i (by omega)).trans h4
      have L2 := hL.g hc2
      refine hk23 _ _ _ _ _ _ (b_ff (by rw [g4]; exact nI_ge hb (by omega)) (b_z _ rfl (by omega) (fun e0 => ?_) (fun e0 => ?_)))
      · -- no case has this thing on the left
        have hno := bset_none e0
        rw [nI_add]
        refine ih s2 ⟨hc2, fun t ht => ?_⟩
        rw [hv2 t ht]
        congr 1
        refine bset_ext (fun k hk => ?_)
        have q1 : A k ≠ a := by
          have := hno k hk
          simpa using this
        have q2 := hB k hk
        have q3 : n * A k + B k < n * a + b ↔ n * A k + B k < n * (a + 1) := by
          rcases Nat.lt_or_ge (A k) a with z | z
          · have := Nat.mul_le_mul_left n (show A k + 1 ≤ a from z)
            rw [Nat.mul_succ] at this
            rw [Nat.mul_succ]
            omega
          · have := Nat.mul_le_mul_left n (show a + 1 ≤ A k by omega)
            rw [Nat.mul_succ] at this
            rw [Nat.mul_succ]
            omega
        rw [decide_eq_decide.mpr q3]
      · have hab := nab ha hb
        have hd := dig_lt (c := code) (k := n * a + b) n1
        obtain ⟨T, eT⟩ : ∃ T, T = dig n code (n * a + b) := ⟨_, rfl⟩
        have tv : s_i s2 (c + 1) (n * a + b) = nI T := by rw [hc2.i (by omega), htb _ hab, eT]
        rw [← eT] at hd
        refine ar_mk (c + 1) 9 (n * a + b) L2.r1 L2.a1 (by rw [g4, nI_mul, nI_add]) (by omega) (by decide) ?_
        rw [tv]
        refine ar_mk (c + 4) 3 T L2.r4 L2.a4 rfl (by omega) (by decide) (ar_mk (c + 3) 18 (3 * (h - 1) + b) L2.r3 L2.a3 (by rw [nI_add]) (by omega) (by decide) (ar_mk (c + 4) 3 T L2.r4 L2.a4 rfl (by omega) (by decide) ?_))
        rw [(hc2.i (by omega)).trans (pR b (by omega)), hv2 T (by omega), nI_and, nI_or, nI_add]
        refine ih2 _ ⟨hc2.wi rfl, fun t ht => ?_⟩
        rw [s_i_wi]
        by_cases e : t = T
        · rw [if_pos ⟨rfl, e⟩]
          congr 1
          refine bset_orand (fun k hk => ?_)
          have q := nab_lt (n := n) (a := A k) (b := B k) (a' := a) (b' := b) (hB k hk) hb
          rw [Bool.eq_iff_iff]
          simp only [Bool.or_eq_true, Bool.and_eq_true, decide_eq_true_eq, beq_iff_eq]
          rw [show n * a + (b + 1) = n * a + b + 1 by omega, q, e]
          constructor
          · rintro (⟨z1, z2⟩ | ⟨z1, z2⟩)
            · exact ⟨Or.inl z1, z2⟩
            · exact ⟨Or.inr ⟨z1, z2⟩, by rw [z1, z2, eT]⟩
          · rintro ⟨z1 | ⟨z1, z3⟩, z2⟩
            · exact Or.inl ⟨z1, z2⟩
            · exact Or.inr ⟨z1, z3⟩
        · rw [if_neg (fun z => e z.2), hv2 t ht]
          congr 1
          refine bset_ext (fun k hk => ?_)
          have q := nab_lt (n := n) (a := A k) (b := B k) (a' := a) (b' := b) (hB k hk) hb
          rw [Bool.eq_iff_iff]
          simp only [Bool.and_eq_true, decide_eq_true_eq, beq_iff_eq]
          rw [show n * a + (b + 1) = n * a + b + 1 by omega, q]
          constructor
          · rintro ⟨z1, z2⟩; exact ⟨Or.inl z1, z2⟩
          · rintro ⟨z1 | ⟨z1, z3⟩, z2⟩
            · exact ⟨z1, z2⟩
            · refine absurd ?_ e
              rw [← z2, z1, z3, eT]
  · rw [hz t ht]
    congr 1
    refine (bset_ext (q := fun _ => false) (fun k hk => ?_)).trans ?_ |>.symm
    · simp
    · unfold bset
      have : ∀ m, sm (fun k => if (false : Bool) = true then 2 ^ k else 0) m = 0 := by
        intro m
        induction m with
        | zero => rfl
        | succ m ih => rw [sm, ih]; rfl
      exact this N
/-! a law's steps -/
def hx : Nat → List Nat → Option Nat
  | h, [] => some h
  | h, s :: l => if s < 3 then (if h < 6 then hx (h + 1) l else none) else if s = 3 ∧ 2 ≤ h then hx (h - 1) l else none
theorem hx_l {h s t : Nat} {l : List Nat} (e : hx h (s :: l) = some t) : (s < 3 ∧ h < 6 ∧ hx (h + 1) l = some t) ∨ (s = 3 ∧ 2 ≤ h ∧ hx (h - 1) l = some t) := by
  rw [hx] at e
  by_cases a : s < 3
  · rw [if_pos a] at e
    by_cases b : h < 6
    · rw [if_pos b] at e; exact Or.inl ⟨a, b, e⟩
    · rw [if_neg b] at e; cases e
  · rw [if_neg a] at e
    by_cases b : s = 3 ∧ 2 ≤ h
    · rw [if_pos b] at e; exact Or.inr ⟨b.1, b.2, e⟩
    · rw [if_neg b] at e; cases e
def LawC (lw : Nat) (S : List Nat) (σ : St) : Prop := s_s σ lw = some (.inl 4) ∧ s_r σ lw 0 = some (lw + 1) ∧ s_s σ (lw + 1) = some (.inr (0, 30)) ∧ s_i σ lw 1 = nI S.length ∧ ∀ k, k < S.length → s_i σ (lw + 1) k = nI (S.getD k 0)
theorem LawC.g {lw : Nat} {S : List Nat} {SI : Nat → Nat → Prop} {σ σ' : St} (h : LawC lw S σ) (c : chg SI no σ σ') (h1 : ¬ SI lw 1) (h2 : ∀ k, k < S.length → ¬ SI (lw + 1) k) : LawC lw S σ' := by
  obtain ⟨a1, a2, a3, a4, a5⟩ := h
  exact ⟨by rw [c.s]; exact a1, (c.r (fun z => z)).trans a2, by rw [c.s]; exact a3, (c.i h1).trans a4, fun k hk => (c.i (h2 k hk)).trans (a5 k hk)⟩
theorem stp_len {n code k s : Nat} {st : List Nat} (hn : nok n) (hk : k < n * n * n) (hv : ∀ v ∈ st, v < n) (h : s < 3 ∨ s = 3 ∧ 2 ≤ st.length) : (stp n code k st s).length = (if s < 3 then st.length + 1 else st.length - 1) ∧ ∀ v ∈ stp n code k st s, v < n := by
  obtain ⟨e1, e2, e3⟩ := lett_lt hn hk
  rcases h with h | ⟨h, h2⟩
  · rw [if_pos h]
    have h3 : s = 0 ∨ s = 1 ∨ s = 2 := by omega
    rcases h3 with rfl | rfl | rfl
    · refine ⟨rfl, fun v hv' => ?_⟩
      rcases List.mem_cons.mp hv' with rfl | q
      · exact e1
      · exact hv v q
    · refine ⟨rfl, fun v hv' => ?_⟩
      rcases List.mem_cons.mp hv' with rfl | q
      · exact e2
      · exact hv v q
    · refine ⟨rfl, fun v hv' => ?_⟩
      rcases List.mem_cons.mp hv' with rfl | q
      · exact e3
      · exact hv v q
  · subst h
    rw [if_neg (by decide)]
    match st, h2 with
    | b :: a :: r, _ =>
      refine ⟨by simp [stp], fun v hv' => ?_⟩
      rcases List.mem_cons.mp hv' with rfl | q
      · exact dig_lt hn.1
      · exact hv v (by simp [q])
theorem stp_3 {n code k : Nat} {st : List Nat} : stp n code k st 3 = putS n code st := by
  unfold stp putS
  rcases st with _ | ⟨b, _ | ⟨a, r⟩⟩ <;> rfl
theorem stp_l {n code k s : Nat} {st : List Nat} (h : s < 3) : stp n code k st s = ltv n k s :: st := by
  have h3 : s = 0 ∨ s = 1 ∨ s = 2 := by omega
  rcases h3 with rfl | rfl | rfl <;> rfl
theorem B_run_ok {c n code lw hf : Nat} {S : List Nat} {σ : St} {Q : St → Prop} (hL : BL c σ) (hO : BO c n code σ) (hn : nok n) (hW : LawC lw S σ) (hl30 : S.length ≤ 30) (hS : hx 0 S = some hf) (hd : lw < c ∨ c + 4 < lw) (hd2 : lw + 1 < c ∨ c + 4 < lw + 1)
    (k : ∀ σ', chg (bj c) no σ σ' → BO c n code σ' → PA c (n * n * n) (fun k => run n code k [] S) hf σ' → GV n (n * n * n) (fun k => run n code k [] S) hf → Q σ') : P_B_run c (some lw) σ Q := by
  have n1 := hn.1
  have n3 := hn.2
  have h27 := n27 hn
  refine ⟨hL.s, fun K4 K66 h4 h66 => ?_⟩
  have key : ∀ (rest : List Nat) (j h : Nat) (g : Nat → List Nat) (σ' : St), chg (bj c) no σ σ' → BO c n code σ' → j + rest.length = S.length → (∀ i, i < rest.length → S.getD (j + i) 0 = rest.getD i 0) → hx h rest = some hf → h ≤ 6 → PA c (n * n * n) g h σ' → GV n (n * n * n) g h → (∀ k, run n code k (g k) rest = run n code k [] S) → K4 (some lw) (nI h) (nI j) σ' := by
    intro rest
    induction rest with
    | nil =>
      intro j h g σ' hc hO' hj _ hh h6 hP hG hr
      simp at hj
      have hW' := hW.g hc (by unfold bj; omega) (fun k hk => by unfold bj; omega)
      obtain ⟨a1, a2, a3, a4, a5⟩ := hW'
      refine h4 _ _ _ _ (ob_mk lw rfl a1 ?_)
      rw [a4]
      refine b_tt (nI_le (by omega) (by omega)) ?_
      have : h = hf := by simpa [hx] using hh
      subst this
      have eg : g = fun k => run n code k [] S := by funext k; exact hr k
      rw [eg] at hP hG
      exact k σ' hc hO' hP hG
    | cons s rest ih =>
      intro j h g σ' hc hO' hj hget hh h6 hP hG hr
      simp at hj
      have hW' := hW.g hc (by unfold bj; omega) (fun k hk => by unfold bj; omega)
      obtain ⟨a1, a2, a3, a4, a5⟩ := hW'
      have hL' := hL.g hc
      have eg : S.getD j 0 = s := by simpa using hget 0 (by simp)
      have hrest : ∀ i, i < rest.length → S.getD (j + 1 + i) 0 = rest.getD i 0 := fun i hi => by
        have := hget (i + 1) (by simp; omega)
        rw [show j + (i + 1) = j + 1 + i by omega] at this
        simpa using this
      have hr' : ∀ k, run n code k (stp n code k (g k) s) rest = run n code k [] S := fun k => by rw [← hr k]; rfl
      refine h4 _ _ _ _ (ob_mk lw rfl a1 ?_)
      rw [a4]
      refine b_ff (nI_ge (by omega) (by omega)) (ob_mk lw rfl a1 (ar_mk (lw + 1) 30 j a2 a3 rfl (by omega) (by decide) ?_))
      rw [a5 j (by omega), eg]
      rcases hx_l hh with ⟨q1, q2, q3⟩ | ⟨q1, q2, q3⟩
      · -- a letter
        have hne : ¬ nI s = nI 3 := fun z => by have := (nI_eq (by omega) (by decide)).mp z; omega
        refine b_ff hne (L_isLetter_ok (by omega) (b_b _ rfl (fun z => absurd q1 (of_decide_eq_false z)) (fun _ => b_ff (nI_ge q2 (by decide)) ?_)))
        refine loopU (P := fun t s2 => chg (fun q k => q = c + 3 ∧ 3 * h ≤ k ∧ k < 3 * h + 3) no σ' s2 ∧ ∀ t', t' < t → s_i s2 (c + 3) (3 * h + t') = nI (bset (n * n * n) (fun k => ltv n k s == t'))) (G := fun t s2 => K66 (some lw) (nI h) (nI j) (nI s) (nI t) s2) 3 ?_ ?_ 0 σ' (Nat.zero_le _) ⟨chg.rf, fun t ht => absurd ht (Nat.not_lt_zero t)⟩
        · rintro s2 ⟨hc2, hv⟩
          refine h66 _ _ _ _ _ _ (b_tt (nI_le (Nat.le_refl _) (by decide)) ?_)
          rw [nI_add, nI_add]
          obtain ⟨o1, o2, o3, o4⟩ := hO'
          refine ih (j + 1) (h + 1) (fun k => stp n code k (g k) s) s2 (hc.tr (hc2.up (fun q k z => by unfold bj; omega))) ⟨fun t ht => (hc2.i (by omega)).trans (o1 t ht), (hc2.i (by omega)).trans o2, fun s hs t ht => (hc2.i (by omega)).trans (o3 s hs t ht), fun j hj => (hc2.i (by omega)).trans (o4 j hj)⟩ (by omega) hrest q3 (by omega) ?_ ?_ hr'
          · intro p hp t ht
            by_cases e : p = h
            · subst e
              rw [hv t ht]
              congr 1
              refine bset_ext (fun k hk => ?_)
              show (ltv n k s == t) = ((stp n code k (g k) s).getD (p + 1 - 1 - p) 0 == t)
              rw [show p + 1 - 1 - p = 0 by omega, stp_l q1]
              rfl
            · rw [hc2.i (by omega), hP p (by omega) t ht]
              congr 1
              refine bset_ext (fun k hk => ?_)
              show ((g k).getD (h - 1 - p) 0 == t) = ((stp n code k (g k) s).getD (h + 1 - 1 - p) 0 == t)
              rw [stp_l q1]
              obtain ⟨d, hd'⟩ : ∃ d, h + 1 - 1 - p = d + 1 := ⟨h - 1 - p, by omega⟩
              rw [hd', show h - 1 - p = d by omega]
              simp
          · intro k hk
            have hgk := hG k hk
            obtain ⟨l1, l2⟩ := stp_len (code := code) hn hk hgk.2 (Or.inl q1)
            rw [if_pos q1, hgk.1] at l1
            exact ⟨l1, l2⟩
        · rintro t s2 ht ⟨hc2, hv⟩ ih2
          have L2 := hL'.g hc2
          refine h66 _ _ _ _ _ _ (b_ff (nI_ge ht (by decide)) (ar_mk (c + 2) 9 (3 * s + t) L2.r2 L2.a2 (by rw [nI_mul, nI_add]) (by omega) (by decide) (ar_mk (c + 3) 18 (3 * h + t) L2.r3 L2.a3 (by rw [nI_mul, nI_add]) (by omega) (by decide) ?_)))
          rw [nI_add, show s_i s2 (c + 2) (3 * s + t) = nI (bset (n * n * n) (fun k => ltv n k s == t)) from (hc2.i (by omega)).trans (hO'.2.2.1 s q1 t ht)]
          refine ih2 _ ⟨hc2.wi ⟨rfl, by omega, by omega⟩, fun t' ht' => ?_⟩
          rw [s_i_wi]
          by_cases e : t' = t
          · rw [if_pos ⟨rfl, by omega⟩, e]
          · rw [if_neg (fun z => by omega)]; exact hv t' (by omega)
      · -- two are put together
        subst q1
        refine b_tt rfl (b_ff (nI_nlt (by omega) (by omega)) ?_)
        rw [nI_m1 (by omega), nI_sub (show 1 ≤ h - 1 by omega), nI_mul, nI_mul, show h - 1 - 1 = h - 2 by omega]
        refine B_join_ok hL' hO' hn h27 q2 h6 hP hG (fun s2 hc2 hO2 hP2 => ?_)
        rw [nI_add]
        refine ih (j + 1) (h - 1) (fun k => putS n code (g k)) s2 (hc.tr hc2) hO2 (by omega) hrest q3 (by omega) hP2 ?_ (fun k => by rw [← hr' k, stp_3])
        intro k hk
        have hgk := hG k hk
        obtain ⟨l1, l2⟩ := stp_len (code := code) hn hk hgk.2 (Or.inr ⟨rfl, by rw [hgk.1]; exact q2⟩)
        rw [stp_3, if_neg (by decide), hgk.1] at l1
        rw [stp_3] at l2
        exact ⟨l1, l2⟩
  exact key S 0 0 (fun _ => []) σ chg.rf hO (by simp) (fun i hi => by simp) hS (by decide) (fun p hp => absurd hp (Nat.not_lt_zero p)) (fun k hk => ⟨rfl, fun v hv => by simp at hv⟩) (fun k => rfl)

/-! what the bench tells -/
theorem hg_hx : ∀ {l : List Nat} {h t : Nat}, hg h l = some t → hx h l = some t ∧ hx (h + 1) l = some (t + 1)
  | [], h, t, e => by
    simp [hg] at e
    subst e
    exact ⟨rfl, rfl⟩
  | s :: l, h, t, e => by
    rw [hg] at e
    by_cases a : s < 3
    · rw [if_pos a] at e
      by_cases b : h < 5
      · rw [if_pos b] at e
        obtain ⟨q1, q2⟩ := hg_hx e
        refine ⟨?_, ?_⟩
        · rw [hx, if_pos a, if_pos (by omega)]; exact q1
        · rw [hx, if_pos a, if_pos (by omega)]; exact q2
      · rw [if_neg b] at e; cases e
    · rw [if_neg a] at e
      by_cases b : s = 3 ∧ 2 ≤ h
      · rw [if_pos b] at e
        obtain ⟨q1, q2⟩ := hg_hx e
        refine ⟨?_, ?_⟩
        · rw [hx, if_neg a, if_pos b]; exact q1
        · rw [hx, if_neg a, if_pos ⟨b.1, by omega⟩]
          rw [show h - 1 + 1 = h + 1 - 1 by omega] at q2
          exact q2
      · rw [if_neg b] at e; cases e
theorem hx_app : ∀ (l : List Nat) (h : Nat) (r : List Nat), hx h (l ++ r) = (hx h l).bind (fun t => hx t r)
  | [], h, r => rfl
  | s :: l, h, r => by
    simp only [List.cons_append, hx]
    split
    · split
      · exact hx_app l _ r
      · rfl
    · split
      · exact hx_app l _ r
      · rfl
theorem okL_hx {w : Lw} (h : okL w) : hx 0 (w.1 ++ w.2) = some 2 := by
  rw [hx_app, (hg_hx h.1.1).1]
  exact (hg_hx h.2.1).2
theorem run_app (n c k : Nat) : ∀ (l st r : List Nat), run n c k st (l ++ r) = run n c k (run n c k st l) r
  | [], _, _ => rfl
  | s :: l, st, r => run_app n c k l _ r
theorem run_base (n c k : Nat) : ∀ (l u base : List Nat) (t : Nat), hg u.length l = some t → run n c k (u ++ base) l = run n c k u l ++ base ∧ (run n c k u l).length = t
  | [], u, base, t, e => by
    simp [hg] at e
    exact ⟨rfl, e⟩
  | s :: l, u, base, t, e => by
    rw [hg] at e
    by_cases a : s < 3
    · rw [if_pos a] at e
      by_cases b : u.length < 5
      · rw [if_pos b] at e
        have hh : hg (ltv n k s :: u).length l = some t := e
        obtain ⟨q1, q2⟩ := run_base n c k l (ltv n k s :: u) base t hh
        rw [run, run, stp_l a, stp_l a]
        exact ⟨q1, q2⟩
      · rw [if_neg b] at e; cases e
    · rw [if_neg a] at e
      by_cases b : s = 3 ∧ 2 ≤ u.length
      · rw [if_pos b] at e
        match u, b.2, e with
        | y :: x :: r, _, e =>
          rw [b.1, run, run, stp_3, stp_3]
          have hh : hg (dig n c (n * x + y) :: r).length l = some t := e
          exact run_base n c k l (dig n c (n * x + y) :: r) base t hh
      · rw [if_neg b] at e; cases e
theorem run_one {n c k : Nat} {l : List Nat} (h : hg 0 l = some 1) (st : List Nat) : run n c k st l = evl n c k l :: st := by
  obtain ⟨q1, q2⟩ := run_base n c k l [] st 1 h
  rw [List.nil_append] at q1
  rw [q1]
  unfold evl
  match run n c k [] l, q2 with
  | [v], _ => rfl
theorem run_law {n c k : Nat} {w : Lw} (h : okL w) : run n c k [] (w.1 ++ w.2) = [evl n c k w.2, evl n c k w.1] := by
  rw [run_app, run_one h.1.1, run_one h.2.1]
theorem B_brokenCases_ok {c n N : Nat} {g : Nat → List Nat} {σ : St} {Q : Int32 → St → Prop} (hL : BL c σ) (h4 : s_i σ c 4 = nI n) (hN : N = n * n * n) (hn : nok n) (hP : PA c N g 2 σ) (hG : GV n N g 2) (k : Q (nI (bset N (fun k => (g k).getD 1 0 != (g k).getD 0 0))) σ) : P_B_brokenCases c σ Q := by
  have n3 := hn.2
  have h27 := n27 hn
  have l27 : 2 ^ N ≤ 2 ^ 27 := Nat.pow_le_pow_right (by decide) (by omega)
  refine ⟨hL.s, fun K4 hk4 => ?_⟩
  have key := loopU (P := fun _ s' => s' = σ) (G := fun i s' => K4 (nI (bset N (fun k => decide ((g k).getD 1 0 < i) && (g k).getD 1 0 == (g k).getD 0 0))) (nI i) s') 3 ?_ ?_ 0 σ (Nat.zero_le _) rfl
  · have e : bset N (fun k => decide ((g k).getD 1 0 < 0) && (g k).getD 1 0 == (g k).getD 0 0) = 0 := by
      apply Nat.eq_of_testBit_eq
      intro i
      rw [bset_bit, Nat.zero_testBit]
      simp only [Nat.not_lt_zero, decide_false, Bool.false_and, Bool.and_false]
    rw [e] at key
    exact key
  · rintro s' rfl
    refine hk4 _ _ _ (b_tt (nI_le (Nat.le_refl _) (by decide)) ?_)
    rw [h4, nI_mul, nI_mul, ← hN, shl_1 N (by omega), nI_sub (Nat.pow_pos (by decide)), show (-1 : Int32) = nI (2 ^ 32 - 1) by decide, nI_xor, nI_and]
    have e : (2 ^ N - 1) &&& (bset N (fun k => decide ((g k).getD 1 0 < 3) && (g k).getD 1 0 == (g k).getD 0 0) ^^^ (2 ^ 32 - 1)) = bset N (fun k => (g k).getD 1 0 != (g k).getD 0 0) := by
      apply Nat.eq_of_testBit_eq
      intro i
      rw [Nat.testBit_and, Nat.testBit_xor, Nat.testBit_two_pow_sub_one, Nat.testBit_two_pow_sub_one, bset_bit, bset_bit]
      by_cases q : i < N
      · obtain ⟨l1, l2⟩ := hG i q
        have v1 := l2 _ (getD_memN (show 1 < (g i).length by omega))
        rw [decide_eq_true q, decide_eq_true (show i < 32 by omega), decide_eq_true (show (g i).getD 1 0 < 3 by omega)]
        simp only [Bool.true_and, bne, Bool.xor_true]
      · simp [q]
    rw [e]
    exact k
  · rintro i s' hi rfl ih
    refine hk4 _ _ _ (b_ff (nI_ge hi (by decide)) (ar_mk (c + 3) 18 i hL.r3 hL.a3 rfl (by omega) (by decide) (ar_mk (c + 3) 18 (3 + i) hL.r3 hL.a3 (by rw [nI_add]) (by omega) (by decide) ?_)))
    have p0 := hP 0 (by decide) i hi
    have p1 := hP 1 (by decide) i hi
    rw [Nat.mul_zero, Nat.zero_add] at p0
    rw [Nat.mul_one] at p1
    rw [p0, p1, nI_and, nI_or, nI_add]
    have e : bset N (fun k => decide ((g k).getD 1 0 < i) && (g k).getD 1 0 == (g k).getD 0 0) ||| (bset N (fun k => (g k).getD (2 - 1 - 0) 0 == i) &&& bset N (fun k => (g k).getD (2 - 1 - 1) 0 == i)) = bset N (fun k => decide ((g k).getD 1 0 < i + 1) && (g k).getD 1 0 == (g k).getD 0 0) := by
      refine bset_orand (fun k hk => ?_)
      rw [Bool.eq_iff_iff]
      simp only [Bool.or_eq_true, Bool.and_eq_true, decide_eq_true_eq, beq_iff_eq, Nat.reduceSub]
      omega
    rw [e]
    exact ih s' rfl
theorem B_thingOf_ok {c n N j : Nat} {g : Nat → List Nat} {right : Bool} {σ : St} {Q : Int32 → St → Prop} (hL : BL c σ) (hN : N ≤ 27) (hn : nok n) (hj : j < N) (hP : PA c N g 2 σ) (hG : GV n N g 2) (k : Q (nI (if right then (g j).getD 0 0 else (g j).getD 1 0)) σ) : P_B_thingOf c (bI right) (nI j) σ Q := by
  have n3 := hn.2
  have l27 : 2 ^ N ≤ 2 ^ 27 := Nat.pow_le_pow_right (by decide) hN
  refine ⟨hL.s, fun K13 h13 => ?_⟩
  obtain ⟨l1, l2⟩ := hG j hj
  have main : ∀ (p : Nat), p < 2 → (g j).getD (1 - p) 0 < 3 → Q (nI ((g j).getD (1 - p) 0)) σ → K13 (nI j) (nI (3 * p)) (nI 1) σ := by
    intro p hp hv hk
    obtain ⟨v, ev⟩ : ∃ v, v = (g j).getD (1 - p) 0 := ⟨_, rfl⟩
    rw [← ev] at hv hk
    have bit : ∀ t, t < 3 → s_i σ (c + 3) (3 * p + t) = nI (bset N (fun k => (g k).getD (1 - p) 0 == t)) := fun t ht => hP p hp t ht
    have step : ∀ t, t < 3 → (v = t → Q (nI t) σ) → (v ≠ t → K13 (nI j) (nI (3 * p)) (nI (t + 1)) σ) → K13 (nI j) (nI (3 * p)) (nI t) σ := by
      intro t ht f1 f2
      refine h13 _ _ _ _ (b_ff (nI_ge ht (by decide)) (ar_mk (c + 3) 18 (3 * p + t) hL.r3 hL.a3 (by rw [nI_add]) (by omega) (by decide) ?_))
      rw [bit t ht]
      have hlt := bset_lt (fun k => (g k).getD (1 - p) 0 == t) N
      refine C_isIn_ok (by omega) (by omega) ?_
      rw [bset_bit, decide_eq_true hj, Bool.true_and, ← ev, nI_add]
      refine b_b _ rfl (fun e => f2 ?_) (fun e => f1 ?_)
      · simpa using e
      · simpa using e
    have z : v = 0 → Q (nI 0) σ := fun e => by rw [e] at hk; exact hk
    refine step 1 (by decide) (fun e => by rw [← e]; exact hk) (fun n1 => step 2 (by decide) (fun e => by rw [← e]; exact hk) (fun n2 => h13 _ _ _ _ (b_tt (nI_le (Nat.le_refl _) (by decide)) (z (by omega)))))
  have v0 := l2 _ (getD_memN (show 0 < (g j).length by omega))
  have v1 := l2 _ (getD_memN (show 1 < (g j).length by omega))
  refine b_b right rfl (fun e => ?_) (fun e => ?_)
  · rw [e] at k
    exact main 0 (by decide) (by show (g j).getD 1 0 < 3; omega) k
  · rw [e] at k
    exact main 1 (by decide) (by show (g j).getD 0 0 < 3; omega) k
