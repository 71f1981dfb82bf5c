/-! The class: how often laws are broken is counted. -/
theorem P_sizeAt_ok {b w : Nat} {σ : St} {Q : Int32 → St → Prop} (hX : XL b σ) (hR : PwR b σ) (hw : w < 3341) (k : Q (nI (pws w)) σ) : P_P_sizeAt (b + 94) (nI w) σ Q := by
  refine ⟨hX.1.p, ar_mk (b + 97) 5 3 hX.1.p2 hX.1.pc rfl (by decide) (by decide) ?_⟩
  rw [hR.2 3 (by decide) (by decide)]
  refine b_lt w (fo 3) rfl rfl (by omega) (by decide) (fun h => ar_mk (b + 97) 5 2 hX.1.p2 hX.1.pc rfl (by decide) (by decide) ?_) (fun h => ?_)
  · have h : w < 11 := h
    rw [hR.2 2 (by decide) (by decide)]
    refine b_lt w (fo 2) rfl rfl (by omega) (by decide) (fun h2 => ?_) (fun h2 => ?_)
    · have h2 : w < 1 := h2
      have e : pws w = 1 := by unfold pws; rw [if_pos h2]
      rw [e] at k; exact k
    · have h2 : 1 ≤ w := h2
      have e : pws w = 2 := by unfold pws; rw [if_neg (by omega), if_pos h]
      rw [e] at k; exact k
  · have h : 11 ≤ w := h
    have e : pws w = 3 := by unfold pws; rw [if_neg (by omega), if_neg (by omega)]
    rw [e] at k; exact k
theorem P_codeAt_ok {b w : Nat} {σ : St} {Q : Int32 → St → Prop} (hX : XL b σ) (hR : PwR b σ) (hw : w < 3341) (k : Q (nI (pwc w)) σ) : P_P_codeAt (b + 94) (nI w) σ Q := by
  refine ⟨hX.1.p, b_lt w 0 rfl nI_0.symm (by omega) (by decide) (fun h => absurd h (Nat.not_lt_zero w)) (fun _ => b_ff (nI_ge hw (by decide)) (ar_mk (b + 95) 3341 w hX.1.p0 hX.1.pa rfl hw (by decide) ?_))⟩
  rw [(hR.1 w hw).1]; exact k
theorem P_alikesAt_ok {b w : Nat} {σ : St} {Q : Int32 → St → Prop} (hX : XL b σ) (hR : PwR b σ) (hw : w < 3341) (k : Q (nI (oc (pws w) (pwc w))) σ) : P_P_alikesAt (b + 94) (nI w) σ Q := by
  refine ⟨hX.1.p, b_lt w 0 rfl nI_0.symm (by omega) (by decide) (fun h => absurd h (Nat.not_lt_zero w)) (fun _ => b_ff (nI_ge hw (by decide)) (ar_mk (b + 96) 3341 w hX.1.p1 hX.1.pb rfl hw (by decide) ?_))⟩
  rw [(hR.1 w hw).2]; exact k
theorem P_start_ok {b n : Nat} {σ : St} {Q : Int32 → St → Prop} (hX : XL b σ) (hR : PwR b σ) (hn : nok n) (k : Q (nI (fo n)) σ) : P_P_start (b + 94) (nI n) σ Q := by
  have h2 := hn.2
  refine ⟨hX.1.p, C_isSize_ok (b_b _ rfl (fun h => by rw [wthn_nok hn] at h; cases h) (fun _ => ar_mk (b + 97) 5 n hX.1.p2 hX.1.pc rfl (by omega) (by decide) ?_))⟩
  rw [hR.2 n hn.1 (by omega)]; exact k
theorem P_end_ok {b n : Nat} {σ : St} {Q : Int32 → St → Prop} (hX : XL b σ) (hR : PwR b σ) (hn : nok n) (k : Q (nI (fo (n + 1))) σ) : P_P_end (b + 94) (nI n) σ Q := by
  have h2 := hn.2
  refine ⟨hX.1.p, C_isSize_ok (b_b _ rfl (fun h => by rw [wthn_nok hn] at h; cases h) (fun _ => ar_mk (b + 97) 5 (n + 1) hX.1.p2 hX.1.pc (by rw [nI_add]) (by omega) (by decide) ?_))⟩
  rw [hR.2 (n + 1) (by omega) (by omega)]; exact k
theorem L_brokenAt_ok {lw q w v : Nat} {σ : St} {Q : Int32 → St → Prop} (h1 : s_s σ lw = some (.inl 4)) (h4 : s_r σ lw 4 = some q) (hq : s_s σ q = some (.inr (2, 3341))) (hv : s_i σ q w = nI v) (hw : w < 3341) (k : Q (nI v) σ) : P_L_brokenAt lw (nI w) σ Q := by
  refine ⟨h1, b_ff (by rw [h4]; exact fun z => by cases z) (b_lt w 0 rfl nI_0.symm (by omega) (by decide) (fun h => absurd h (Nat.not_lt_zero w)) (fun _ => al_mk q 2 3341 h4 hq (b_tt (nI_lt hw (by decide)) (ar_mk q 3341 w h4 hq rfl hw (by decide) ?_))))⟩
  rw [hv]; exact k
theorem XI.R {b : Nat} {σ : St} {a : As} (h : XI b σ a) (hL : s_i σ (b + 94) 3 = nI 3341) : PwR b σ := by
  obtain ⟨-, -, sp, -, -, -, -, -, -, -, hP⟩ := h
  rcases hP with h0 | ⟨-, h1⟩
  · rw [hL] at h0
    exact absurd h0 (by decide)
  · exact h1
def cnI (b : Nat) : Nat → Nat → Prop := fun q k => bq (b + 89) q k ∨ (k = 5 ∧ b + 23 ≤ q ∧ q ≤ b + 82 ∧ (q - b) % 2 = 1) ∨ b + 121 ≤ q
def cnR (b : Nat) : Nat → Nat → Prop := fun q k => k = 4 ∧ b + 23 ≤ q ∧ q ≤ b + 82 ∧ (q - b) % 2 = 1
theorem cnR_X {b q k : Nat} (h : cnR b q k) : XR b q k := by
  have h2 : b + 23 ≤ q ∧ q ≤ b + 82 ∧ (q - b) % 2 = 1 := h.2
  exact Or.inr (Or.inr (Or.inr (Or.inr ⟨h.1, (q - b - 23) / 2, by omega, by omega⟩)))
theorem XC.cn {b : Nat} {sp : Nat → List Nat} {σ σ' : St} {a : As} (hX : XL b σ) (hN : b + 106 ≤ s_n σ) (h : XC b sp σ a) (c : cx (cnI b) (cnR b) σ σ') (hSh : ShC b sp σ') (hV : BV (b + 89) σ') : XI b σ' a := by
  obtain ⟨-, ⟨hW0, hW⟩, hS, hH, hSn, hT, ⟨hB1, hB2⟩, hP⟩ := h
  have hn := c.n
  exact ⟨hX.g c hN (fun q k z => cnR_X z), by omega, sp, hSh, ⟨hW0.g c (by omega) (fun k => by unfold cnR; omega), fun t ht => (hW t ht).g c (by omega) (fun k => by unfold cnR; omega)⟩, hS.g c (by omega) (fun k _ _ => by unfold cnI bq; omega) (fun k => by unfold cnI bq; omega) (fun k => by unfold cnR; omega), hH.g c hN (fun q k z => by unfold cnI bq; omega) (fun q k z => by unfold cnR; omega), hSn.g c hN (fun q k z => by unfold cnI bq; omega) (fun k => by unfold cnR; omega), hT.g c hN (by unfold cnI bq; omega) (fun k => by unfold cnI bq; omega), ⟨hB1.g c (by omega) (by unfold cnI bq; omega) (fun k => by unfold cnI bq; omega) (fun k => by unfold cnI bq; omega), hV⟩, hP.g c hN (by unfold cnI bq; omega) (fun q k z => by unfold cnI bq; omega)⟩
/-- a law's counts are there -/
def Cn (b i : Nat) (σ : St) (ls : List (Bool × Lw)) : Prop := i < ls.length ∧ ∃ j q, j < 30 ∧ s_r σ (b + 2) i = some (b + 23 + 2 * j) ∧ s_r σ (b + 23 + 2 * j) 4 = some q ∧ b + 121 ≤ q ∧ q < s_n σ ∧ s_s σ q = some (.inr (2, 3341)) ∧ s_s σ (b + 23 + 2 * j) = some (.inl 4) ∧ ∀ w, w < 3341 → s_i σ q w = nI (keyw ls i w)
/-- a place's counts have no room yet -/
def emp (b : Nat) (σ : St) (j : Nat) : Bool := (s_r σ (b + 23 + 2 * j) 4).isNone
def need (σ : St) (o : Option Nat) : Nat := match o with
  | none => 0
  | some y => if (s_r σ y 4).isNone = true then 1 else 0
theorem E_countBroken_ok {b i : Nat} {o : Option Nat} {mc ms : Nat} {a : As} {σ : St} {Q : St → Prop} (h : XI b σ a) (ha : asok a) (hL : s_i σ (b + 94) 3 = nI 3341) (hN : b + 121 ≤ s_n σ) (hi : i < a.1.2.2.length) (ho : o = s_r σ (b + 2) i) (hmc : need σ o ≤ mc) (hms : 3341 * need σ o ≤ ms)
    (k : ∀ σ', cx (cnI b) (cnR b) σ σ' → XI b σ' a → s_i σ' (b + 94) 3 = nI 3341 → Cn b i σ' a.1.2.2 → (∀ i', Cn b i' σ a.1.2.2 → Cn b i' σ' a.1.2.2) → (∀ j, j < 30 → emp b σ' j = true → emp b σ j = true ∧ o ≠ some (b + 23 + 2 * j)) → Q σ') : P_E_countBroken (b + 88) o σ mc ms Q := by
  have hR := h.R hL
  obtain ⟨hX, hN6, sp, hC⟩ := h
  have hC : XC b sp σ a := hC
  have hCc := hC
  obtain ⟨hSh, -, hS, -, -, -, ⟨-, hV⟩, -⟩ := hCc
  obtain ⟨g1, j, g2, g3, g4⟩ := hS.2.2.2 i hi
  have g3' : s_r σ (b + 2) i = some (b + 23 + 2 * j) := g3
  rw [g3'] at ho
  subst ho
  have hok := ha.1.2.2 _ (lwg_mem hi)
  obtain ⟨hpl, hct⟩ := hSh j g2
  have hx2 : hx 0 (sp j) = some 2 := by rw [g4]; exact okL_hx hok
  have hl30 := hpl.1.1
  have fin : ∀ (τ σ' : St) (q : Nat), cx (cnI b) (cnR b) σ τ → (∀ q' k, q' < s_n σ → s_i τ q' k = s_i σ q' k) → (∀ j', j' < 30 → j' ≠ j → s_r τ (b + 23 + 2 * j') 4 = s_r σ (b + 23 + 2 * j') 4) → s_r τ (b + 23 + 2 * j) 4 = some q → b + 121 ≤ q → q < s_n τ → s_s τ q = some (.inr (2, 3341)) → (∀ j', j' < 30 → j' ≠ j → s_r σ (b + 23 + 2 * j') 4 ≠ some q) → chg (fun q' k => bq (b + 89) q' k ∨ q' = q ∨ (q' = b + 23 + 2 * j ∧ k = 5)) no τ σ' → BV (b + 89) σ' → s_i σ' (b + 23 + 2 * j) 5 = nI 1 → (∀ w, w < 3341 → s_i σ' q w = nI (bcS (pws w) (pwc w) (sp j))) → Q σ' := by
    intro τ σ' q cτ hτi hτr h4 hq hq2 hqs hd c2 hV' hfl hcon
    have ct : cx (cnI b) (cnR b) σ σ' := cτ.tr (c2.x.up (fun q' k z => by unfold bq at z; unfold cnI bq; omega) (fun _ _ z => z.elim))
    have hn2 : s_n σ' = s_n τ := c2.n
    have hnn := cτ.n
    have r' : ∀ y, s_r σ' y 4 = s_r τ y 4 := fun y => c2.r (fun z => z)
    have rj : s_r σ' (b + 23 + 2 * j) 4 = some q := (r' _).trans h4
    have rn : ∀ j', j' < 30 → j' ≠ j → s_r σ' (b + 23 + 2 * j') 4 = s_r σ (b + 23 + 2 * j') 4 := fun j' h1 h2 => (r' _).trans (hτr j' h1 h2)
    have s' : s_s σ' q = some (.inr (2, 3341)) := by rw [c2.s]; exact hqs
    have old : ∀ q' w, b + 121 ≤ q' → q' < s_n σ → q' ≠ q → s_i σ' q' w = s_i σ q' w := fun q' w h1 h2 h3 => (c2.i (by unfold bq; omega)).trans (hτi q' w h2)
    have hSh' : ShC b sp σ' := by
      intro y hy
      refine ⟨(hSh y hy).1.g ct (by omega) (fun k h1 h3 => by unfold cnI bq; omega) (fun k => by unfold cnI bq; omega), ?_⟩
      by_cases e : y = j
      · subst e
        refine ⟨fun q' hq' => ?_, true, by rw [hfl]; rfl, fun _ => ⟨q, rj, hcon⟩⟩
        rw [rj] at hq'
        cases hq'
        exact ⟨hq, by omega, s', fun j' h1 h2 => by rw [rn j' h1 h2]; exact hd j' h1 h2⟩
      · obtain ⟨p1, cnt, p2, p3⟩ := (hSh y hy).2
        refine ⟨fun q' hq' => ?_, cnt, ((c2.i (by unfold bq; omega)).trans (hτi _ _ (by omega))).trans p2, fun z => ?_⟩
        · rw [rn y hy e] at hq'
          obtain ⟨t1, t2, t3, t4⟩ := p1 q' hq'
          refine ⟨t1, by omega, (ct.s t2).trans t3, fun j' h1 h2 => ?_⟩
          by_cases e2 : j' = j
          · subst e2
            rw [rj]
            intro z
            cases z
            exact hd y hy e hq'
          · rw [rn j' h1 e2]; exact t4 j' h1 h2
        · obtain ⟨q', t1, t2⟩ := p3 z
          obtain ⟨u1, u2, -, -⟩ := p1 q' t1
          have hne : q' ≠ q := fun z => hd y hy e (by rw [t1, z])
          exact ⟨q', (rn y hy e).trans t1, fun w hw => (old q' w u1 u2 hne).trans (t2 w hw)⟩
    have e2 : ∀ x, s_r σ' (b + 2) x = s_r σ (b + 2) x := fun x => ct.r (by omega) (by unfold cnR; omega)
    refine k σ' ct (XC.cn hX hN6 hC ct hSh' hV') ((ct.i (by omega) (by unfold cnI bq; omega)).trans hL) ?_ ?_ ?_
    · refine ⟨hi, j, q, g2, (e2 i).trans g3', rj, hq, by omega, s', (ct.s (by omega)).trans (hX.2.2.2.1 j g2).1, fun w hw => ?_⟩
      rw [hcon w hw, g4, bcS_law hok]
      rfl
    · rintro i' ⟨hi', j', q', f1, f2, f3, f4, f5, f6, f7, f8⟩
      by_cases e : j' = j
      · subst e
        refine ⟨hi', j', q, g2, (e2 i').trans f2, rj, hq, by omega, s', (ct.s (by omega)).trans f7, fun w hw => ?_⟩
        obtain ⟨-, jj, m1, m2, m3⟩ := hS.2.2.2 i' hi'
        have m2' : s_r σ (b + 2) i' = some (b + 23 + 2 * jj) := m2
        rw [f2] at m2'
        have ej : jj = j' := by simp at m2'; omega
        subst ej
        rw [hcon w hw, m3, bcS_law (ha.1.2.2 _ (lwg_mem hi'))]
        rfl
      · have hne : q' ≠ q := fun z => hd j' f1 e (by rw [f3, z])
        exact ⟨hi', j', q', f1, (e2 i').trans f2, (rn j' f1 e).trans f3, f4, by omega, (ct.s f5).trans f6, (ct.s (by omega)).trans f7, fun w hw => (old q' w f4 f5 hne).trans (f8 w hw)⟩
    · intro j' hj' he
      by_cases e : j' = j
      · subst e
        unfold emp at he
        rw [rj] at he
        cases he
      · unfold emp at he ⊢
        rw [rn j' hj' e] at he
        refine ⟨he, fun z => ?_⟩
        simp at z
        omega
  refine ⟨hX.1.e, fun K26 h26 => ?_⟩
  have core : ∀ (τ : St) (q ca cb : Nat), cx (cnI b) (cnR b) σ τ → (∀ q' k, q' < s_n σ → s_i τ q' k = s_i σ q' k) → (∀ j', j' < 30 → j' ≠ j → s_r τ (b + 23 + 2 * j') 4 = s_r σ (b + 23 + 2 * j') 4) → s_r τ (b + 23 + 2 * j) 4 = some q → b + 121 ≤ q → q < s_n τ → s_s τ q = some (.inr (2, 3341)) → (∀ j', j' < 30 → j' ≠ j → s_r σ (b + 23 + 2 * j') 4 ≠ some q) → K26 (some (b + 23 + 2 * j)) (nI 0) τ ca cb := by
    intro τ q ca cb cτ hτi hτr h4 hq hq2 hqs hd
    have hnn := cτ.n
    have hXt := hX.g cτ hN6 (fun q k z => cnR_X z)
    have eqi : ∀ q' k, q' < s_n σ → s_i τ q' k = s_i σ q' k := hτi
    have hRt : PwR b τ := ⟨fun w hw => ⟨(eqi _ _ (by omega)).trans (hR.1 w hw).1, (eqi _ _ (by omega)).trans (hR.1 w hw).2⟩, fun n h1 h2 => (eqi _ _ (by omega)).trans (hR.2 n h1 h2)⟩
    have hplt : PlC b j (sp j) τ := hpl.g cτ (by omega) (fun k h1 h3 => by unfold cnI bq; omega) (fun k => by unfold cnI bq; omega)
    have hLt : LawC (b + 23 + 2 * j) (sp j) τ := (hXt.2.2.2.1 j g2).lawC hplt
    have hVt : BV (b + 89) τ := by
      obtain ⟨v1, n, v2, v3, v4⟩ := hV
      exact ⟨fun t ht => (eqi _ _ (by omega)).trans (v1 t ht), n, v2, (eqi _ _ (by omega)).trans v3, fun hn s hs t ht => (eqi _ _ (by omega)).trans (v4 hn s hs t ht)⟩
    refine loopU (P := fun x s' => chg (fun q' k => bq (b + 89) q' k ∨ q' = q) no τ s' ∧ BV (b + 89) s' ∧ ∀ w, w < x → s_i s' q w = nI (bcS (pws w) (pwc w) (sp j))) (G := fun x s' => K26 (some (b + 23 + 2 * j)) (nI x) s' ca cb) 3341 ?_ ?_ 0 τ (Nat.zero_le _) ⟨chg.rf, hVt, fun w hw => absurd hw (Nat.not_lt_zero w)⟩
    · rintro s' ⟨hc, hv, hw⟩
      have hs4 : s_s s' (b + 23 + 2 * j) = some (.inl 4) := by rw [hc.s]; exact (hXt.2.2.2.1 j g2).1
      refine h26 _ _ _ _ _ (b_tt (nI_le (Nat.le_refl _) (by decide)) (ob_mk (b + 23 + 2 * j) rfl hs4 ?_))
      have c5 : chg (fun q' k => q' = b + 23 + 2 * j ∧ k = 5) no s' (w_i s' (b + 23 + 2 * j) 5 (nI 1)) := chg.rf.wi ⟨rfl, rfl⟩
      refine fin τ _ q cτ hτi hτr h4 hq hq2 hqs hd ((hc.up (fun q' k z => z.elim Or.inl (fun y => Or.inr (Or.inl y)))).tr (c5.up (fun q' k z => Or.inr (Or.inr z)))) (hv.g c5.x (by rw [hc.n]; omega) (by omega) (fun k => by omega) (fun k => by omega)) (by rw [s_i_wi, if_pos ⟨rfl, rfl⟩]) (fun w hw' => (c5.i (by omega)).trans (hw w hw'))
    · rintro x s' hx ⟨hc, hv, hw⟩ ih
      have hX' := hXt.g hc.x (by omega) (fun q k z => z.elim)
      have hR' := hRt.g hc.x (by omega) (fun q' k z => by unfold bq; omega)
      have hB := hX'.2.2.2.2.2
      have hL' := hLt.g hc (by unfold bq; omega) (fun k hk => by unfold bq; omega)
      obtain ⟨-, hwok, -⟩ := pw_ok hx
      refine h26 _ _ _ _ _ (b_ff (nI_ge hx (by decide)) (nn_mk (b + 94) hX'.1.e1 (P_sizeAt_ok hX' hR' hx (nn_mk (b + 94) hX'.1.e1 (P_codeAt_ok hX' hR' hx (nn_mk (b + 89) hX'.1.e0 (B_open_ok hB hv hwok (fun σ1 c1 hO => ?_))))))))
      refine nn_mk (b + 89) ((c1.r (fun z => z)).trans hX'.1.e0) ?_
      refine B_run_ok (hB.g c1) hO hwok.1 (hL'.g c1 (by unfold bq; omega) (fun k hk => by unfold bq; omega)) hl30 hx2 (by omega) (by omega) (fun σ2 c2 hO2 hPA hG => ?_)
      have c12 : chg (bq (b + 89)) no s' σ2 := c1.tr (c2.up (fun q k z => bj_bq z))
      have hs4 : s_s σ2 (b + 23 + 2 * j) = some (.inl 4) := by rw [c12.s]; exact (hX'.2.2.2.1 j g2).1
      refine ob_mk (b + 23 + 2 * j) rfl hs4 (nn_mk (b + 89) ((c12.r (fun z => z)).trans hX'.1.e0) ?_)
      refine B_brokenCases_ok (hB.g c12) hO2.2.1 rfl hwok.1 hPA hG (I_bitCount_ok (bset27 hwok.1 _) ?_)
      have h27 := n27 hwok.1
      rw [pop_bset (by omega)]
      have r4 : s_r σ2 (b + 23 + 2 * j) 4 = some q := ((c12.r (fun z => z)).trans (hc.r (fun z => z))).trans h4
      have sq : s_s σ2 q = some (.inr (2, 3341)) := by rw [c12.s, hc.s]; exact hqs
      refine ar_mk q 3341 x r4 sq rfl hx (by decide) ?_
      have eb : ct (fun k => (run (pws x) (pwc x) k [] (sp j)).getD 1 0 != (run (pws x) (pwc x) k [] (sp j)).getD 0 0) (pws x * pws x * pws x) = bcS (pws x) (pwc x) (sp j) := rfl
      have hle : bcS (pws x) (pwc x) (sp j) ≤ 27 := Nat.le_trans (ct_le _ _) h27
      rw [eb, nar_y _ (by omega), nI_add]
      have c3 : chg (fun q' _ => q' = q) no σ2 (w_i σ2 q x (nI (bcS (pws x) (pwc x) (sp j)))) := chg.rf.wi rfl
      have n2 : s_n σ2 = s_n τ := c12.n.trans hc.n
      refine ih _ ⟨(hc.tr (c12.up (fun q' k z => Or.inl z))).tr (c3.up (fun q' k z => Or.inr z)), (hO2.V hwok.1).g c3.x (by omega) (by omega) (fun k => by omega) (fun k => by omega), fun w hw' => ?_⟩
      rw [s_i_wi]
      by_cases e : w = x
      · rw [if_pos ⟨rfl, e⟩, e]
      · rw [if_neg (fun z => e z.2), c12.i (by unfold bq; omega)]
        exact hw w (by omega)
  have hs4 := (hX.2.2.2.1 j g2).1
  refine ob_mk (b + 23 + 2 * j) rfl hs4 ⟨fun _ => ob_mk (b + 23 + 2 * j) rfl hs4 ⟨fun hnone => ?_, fun hsome => ?_⟩, fun hne => ?_⟩
  · have hne1 : need σ (some (b + 23 + 2 * j)) = 1 := by
      unfold need
      simp [hnone]
    rw [hne1] at hmc hms
    refine ⟨by omega, by omega, nw_mk ?_⟩
    obtain ⟨q, eq⟩ : ∃ q, q = s_n σ := ⟨_, rfl⟩
    rw [← eq]
    have sh1 : s_s (w_new σ (.inr (2, 3341))) (b + 23 + 2 * j) = some (.inl 4) := by rw [s_s_wn, if_neg (by omega)]; exact hs4
    refine ob_mk (b + 23 + 2 * j) rfl sh1 ?_
    refine core _ q _ _ ((cx.rf.wn).wr (Or.inl ⟨rfl, by omega, by omega, by omega⟩)) (fun q' k h1 => ?_) (fun j' h1 h2 => ?_) ?_ (by omega) ?_ ?_ (fun j' h1 h2 z => ?_)
    · rw [s_i_wr, s_i_wn, if_neg (by omega)]
    · rw [s_r_wr, if_neg (fun z => by omega), s_r_wn, if_neg (by omega)]
    · rw [s_r_wr, if_pos ⟨rfl, rfl⟩]
    · rw [s_n_wr, s_n_wn]; omega
    · rw [s_s_wr, s_s_wn, if_pos eq]
    · have := ((hSh j' h1).2.1 q z).2.1
      omega
  · cases e4 : s_r σ (b + 23 + 2 * j) 4 with
    | none => exact absurd e4 hsome
    | some q =>
      obtain ⟨p1, p2, p3, p4⟩ := hct.1 q e4
      exact core σ q 0 0 cx.rf (fun _ _ _ => rfl) (fun _ _ _ => rfl) e4 p1 p2 p3 p4
  · obtain ⟨p1, cnt, p2, p3⟩ := hct
    have ec : cnt = true := by
      cases cnt with
      | true => rfl
      | false => exact absurd p2 hne
    obtain ⟨q, t1, t2⟩ := p3 ec
    obtain ⟨u1, u2, u3, u4⟩ := p1 q t1
    exact fin σ σ q cx.rf (fun _ _ _ => rfl) (fun _ _ _ => rfl) t1 u1 u2 u3 u4 chg.rf hV (by rw [p2, ec]; rfl) t2
