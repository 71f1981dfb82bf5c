/-! The class: models; what asks for witnesses. -/
def Tz (b : Nat) (σ : St) : Nat := Lz b σ + nz b σ (fun _ => true)
def Ts (b : Nat) (σ : St) : Nat := 308 * Lz b σ + 3341 * nz b σ (fun _ => true)
theorem Lz0 {b : Nat} {σ : St} (h : s_i σ (b + 94) 3 = nI 3341) : Lz b σ = 0 := by
  unfold Lz
  rw [h]
  rfl
theorem Tz_le {b : Nat} {σ σ' : St} {M : Nat → Bool} (hE : ∀ j, j < 30 → emp b σ' j = true → emp b σ j = true ∧ M j = false) (h : s_i σ' (b + 94) 3 = nI 3341) : Lz b σ + nz b σ M + Tz b σ' ≤ Tz b σ ∧ 308 * Lz b σ + 3341 * nz b σ M + Ts b σ' ≤ Ts b σ := by
  have e := Lz0 h
  have h2 : nz b σ M + nz b σ' (fun _ => true) ≤ nz b σ (fun _ => true) := ct_two (fun i hi => ⟨fun z => by
    rw [Bool.and_eq_true] at z ⊢
    exact ⟨z.1, rfl⟩, fun z => by
    rw [Bool.and_true] at z
    obtain ⟨z1, z2⟩ := hE i hi z
    exact ⟨by rw [z1]; rfl, by rw [z2, Bool.and_false]⟩⟩)
  unfold Tz Ts
  rw [e]
  omega
theorem Tz_c {b : Nat} {σ : St} (M : Nat → Bool) : Lz b σ + nz b σ M ≤ Tz b σ := Nat.add_le_add_left (nz_mono (fun _ _ z => z) (fun _ _ _ => rfl)) _
theorem Ts_c {b : Nat} {σ : St} (M : Nat → Bool) : 308 * Lz b σ + 3341 * nz b σ M ≤ Ts b σ := Nat.add_le_add_left (Nat.mul_le_mul_left _ (nz_mono (fun _ _ z => z) (fun _ _ _ => rfl))) _
def yk (b : Nat) (σ σ' : St) : Prop := cx (xs b) (xs b) σ σ'
theorem sf_y {b : Nat} {σ σ' : St} (c : cx (sfI b) (dcR b) σ σ') : yk b σ σ' := c.up (fun q k z => by unfold sfI dcI cnI bq tdI pwI at z; unfold xs; omega) (fun q k z => by unfold dcR cnR at z; unfold xs; omega)
theorem xk_T {b : Nat} {σ σ' : St} (c : xk b σ σ') : Tz b σ' = Tz b σ ∧ Ts b σ' = Ts b σ := by
  have e1 : Lz b σ' = Lz b σ := by
    unfold Lz
    rw [c.2.2]
  have e2 : nz b σ' (fun _ => true) = nz b σ (fun _ => true) := ct_cong (fun j hj => by
    unfold emp
    rw [c.2.1 j hj])
  unfold Tz Ts
  rw [e1, e2]
  exact ⟨rfl, rfl⟩
theorem E_modelCode_ok {b n r mc ms : Nat} {a : As} {σ : St} {Q : Int32 → St → Prop} (h : XI b σ a) (ha : asok a) (hN : b + 121 ≤ s_n σ) (hn : nok n) (hr : r < 2 ^ 31) (hmc : Lz b σ + nz b σ (pls b (s_r σ (b + 2)) (dmx a.1.2.2 5)) ≤ mc) (hms : 308 * Lz b σ + 3341 * nz b σ (pls b (s_r σ (b + 2)) (dmx a.1.2.2 5)) ≤ ms)
    (k : ∀ σ', cx (sfI b) (dcR b) σ σ' → XI b σ' a → s_i σ' (b + 94) 3 = nI 3341 → (∀ j, j < 30 → emp b σ' j = true → emp b σ j = true ∧ pls b (s_r σ (b + 2)) (dmx a.1.2.2 5) j = false) → Q (if r < (mods a.1.2.2 n (fo (n + 1) - fo n)).length then nI (pwc (fo n + (mods a.1.2.2 n (fo (n + 1) - fo n)).getD r 0)) else (-5)) σ') : P_E_modelCode (b + 88) (some (b + 1)) (nI n) (nI r) σ mc ms Q := by
  obtain ⟨f1, f2⟩ := fo_mono hn
  obtain ⟨N, eN⟩ : ∃ N, N = fo (n + 1) - fo n := ⟨_, rfl⟩
  rw [← eN] at k
  have ha5 := ha.1.2.1
  refine ⟨h.1.1.e, fun K26 h26 => models_begin (Q := fun x s1 ca cb => K26 (nI n) (nI r) (nI 0) x s1 ca cb) h ha hN hn hmc hms (fun s1 ca cb c1 h1 hl1 hD1 hE1 => ?_)⟩
  have kq := k s1 c1 h1 hl1 hE1
  have hR1 := h1.R hl1
  obtain ⟨ls, els⟩ : ∃ ls, ls = a.1.2.2 := ⟨_, rfl⟩
  rw [← els] at kq hD1 ha5
  refine loopU (P := fun t s' => s' = s1 ∧ (mods ls n t).length ≤ r) (G := fun t s' => K26 (nI n) (nI r) (nI (mods ls n t).length) (nI (fo n + t)) s' ca cb) N ?_ ?_ 0 s1 (Nat.zero_le _) ⟨rfl, by simp [mods]⟩
  · rintro s' ⟨rfl, hle⟩
    refine h26 _ _ _ _ _ _ _ (nn_mk (b + 94) h1.1.1.e1 (P_end_ok h1.1 hR1 hn (b_tt (nI_le (by omega) (by omega)) ?_)))
    rw [if_neg (by omega)] at kq
    exact kq
  · rintro t s' ht ⟨rfl, hle⟩ ih
    have hw : fo n + t < 3341 := by omega
    have es := mods_succ ls n t
    refine h26 _ _ _ _ _ _ _ (nn_mk (b + 94) h1.1.1.e1 (P_end_ok h1.1 hR1 hn (b_ff (nI_ge (by omega) (by omega)) (E_isModel_ok (but := 5) h1.1 hD1 ha5 hw (b_b _ rfl (fun eh => ?_) (fun eh => ?_))))))
    · rw [eh] at es
      simp at es
      have := ih s' ⟨rfl, by rw [es]; exact hle⟩
      rw [es] at this
      rw [nI_add]; exact this
    · rw [eh] at es
      simp at es
      refine b_eq (mods ls n t).length r rfl rfl (by omega) hr (fun e0 => nn_mk (b + 94) h1.1.1.e1 (P_codeAt_ok h1.1 hR1 hw ?_)) (fun e0 => ?_)
      · obtain ⟨u, eu⟩ := mods_pre ls n (show t + 1 ≤ N by omega)
        rw [es] at eu
        have e2 : (mods ls n N).getD r 0 = t := by
          rw [← eu, ← e0]
          simp [List.getD_eq_getElem?_getD]
        have e3 : r < (mods ls n N).length := by rw [← eu, ← e0]; simp
        rw [if_pos e3, e2] at kq
        exact kq
      · have := ih s' ⟨rfl, by rw [es]; simp; omega⟩
        rw [es] at this
        simp only [List.length_append, List.length_singleton] at this
        rw [nI_add, nI_add]; exact this
theorem E_countModels_ok {b n mc ms : Nat} {z : Int32} {all : Bool} {a : As} {σ : St} {Q : Int32 → St → Prop} (h : XI b σ a) (ha : asok a) (hN : b + 121 ≤ s_n σ) (hn : nok n) (hz : z = bI all) (hmc : Lz b σ + nz b σ (pls b (s_r σ (b + 2)) (dmx a.1.2.2 5)) ≤ mc) (hms : 308 * Lz b σ + 3341 * nz b σ (pls b (s_r σ (b + 2)) (dmx a.1.2.2 5)) ≤ ms)
    (k : ∀ σ', cx (sfI b) (dcR b) σ σ' → XI b σ' a → s_i σ' (b + 94) 3 = nI 3341 → (∀ j, j < 30 → emp b σ' j = true → emp b σ j = true ∧ pls b (s_r σ (b + 2)) (dmx a.1.2.2 5) j = false) → Q (nI (modn a.1.2.2 n all (fo (n + 1) - fo n))) σ') : P_E_countModels (b + 88) (some (b + 1)) (nI n) z σ mc ms Q := by
  obtain ⟨f1, f2⟩ := fo_mono hn
  obtain ⟨N, eN⟩ : ∃ N, N = fo (n + 1) - fo n := ⟨_, rfl⟩
  rw [← eN] at k
  have ha5 := ha.1.2.1
  refine ⟨h.1.1.e, fun K26 h26 => models_begin (Q := fun x s1 ca cb => K26 (nI n) z (nI 0) x s1 ca cb) h ha hN hn hmc hms (fun s1 ca cb c1 h1 hl1 hD1 hE1 => ?_)⟩
  have kq := k s1 c1 h1 hl1 hE1
  have hR1 := h1.R hl1
  obtain ⟨ls, els⟩ : ∃ ls, ls = a.1.2.2 := ⟨_, rfl⟩
  rw [← els] at kq hD1 ha5
  refine loopU (P := fun t s' => s' = s1) (G := fun t s' => K26 (nI n) z (nI (modn ls n all t)) (nI (fo n + t)) s' ca cb) N ?_ ?_ 0 s1 (Nat.zero_le _) rfl
  · rintro s' rfl
    exact h26 _ _ _ _ _ _ _ (nn_mk (b + 94) h1.1.1.e1 (P_end_ok h1.1 hR1 hn (b_tt (nI_le (by omega) (by omega)) kq)))
  · rintro t s' ht rfl ih
    have hw : fo n + t < 3341 := by omega
    have hs : pws (fo n + t) = n := pws_fo hn (by omega) (by omega)
    have es : modn ls n all (t + 1) = modn ls n all t + (if holdb ls (pws (fo n + t)) (pwc (fo n + t)) 5 then (if all then oc n (pwc (fo n + t)) else 1) else 0) := rfl
    have := ih s' rfl
    refine h26 _ _ _ _ _ _ _ (nn_mk (b + 94) h1.1.1.e1 (P_end_ok h1.1 hR1 hn (b_ff (nI_ge (by omega) (by omega)) (E_isModel_ok (but := 5) h1.1 hD1 ha5 hw (b_b _ rfl (fun eh => ?_) (fun eh => ?_))))))
    · rw [eh] at es
      rw [es] at this
      rw [nI_add]; exact this
    · rw [eh] at es
      refine b_b all hz (fun ea => ?_) (fun ea => ?_)
      · rw [ea] at es
        rw [ea, es] at this
        rw [nI_add, nI_add, ea]
        simpa [Nat.add_assoc] using this
      · rw [ea] at es
        refine nn_mk (b + 94) h1.1.1.e1 (P_alikesAt_ok h1.1 hR1 hw ?_)
        rw [hs, nI_add, nI_add, ea]
        rw [ea, es] at this
        simpa [Nat.add_assoc] using this
theorem X_model_ok {b : Nat} {a : As} {x y : Int32} {σ : St} (h : XI b σ a) (ha : asok a) (hN : b + 121 ≤ s_n σ) : ∃ c d, c ≤ Tz b σ ∧ d ≤ Ts b σ ∧ ∀ Q : Int32 → St → Prop, (∀ σ', yk b σ σ' → XI b σ' a → c + Tz b σ' ≤ Tz b σ → d + Ts b σ' ≤ Ts b σ → Q (qModel a x y) σ') → P_X_model b x y σ c d Q := by
  by_cases e : wthn x 1 3 = true ∧ ¬ y < 0
  · obtain ⟨e1, e2⟩ := e
    obtain ⟨n, rfl, n1, n3⟩ := wthn_ex (lo := 1) (hi := 3) e1 (by decide)
    obtain ⟨r, hr, rfl⟩ := nI_of e2
    have hn : nok n := ⟨n1, n3⟩
    have hy0 : 0 ≤ (nI r).toInt := by rw [nI_toInt hr]; omega
    refine ⟨Lz b σ + nz b σ (pls b (s_r σ (b + 2)) (dmx a.1.2.2 5)), 308 * Lz b σ + 3341 * nz b σ (pls b (s_r σ (b + 2)) (dmx a.1.2.2 5)), Tz_c _, Ts_c _, fun Q k => ?_⟩
    refine ⟨h.1.1.o, C_isSize_ok (b_b _ rfl (fun z => by rw [e1] at z; cases z) (fun _ => b_tt (Int32.not_lt.mp e2) (nn_mk (b + 88) h.1.1.o4 ⟨Lz b σ + nz b σ (pls b (s_r σ (b + 2)) (dmx a.1.2.2 5)), 308 * Lz b σ + 3341 * nz b σ (pls b (s_r σ (b + 2)) (dmx a.1.2.2 5)), by omega, by omega, ?_⟩)))⟩
    rw [h.1.1.o0]
    refine E_modelCode_ok h ha hN hn hr (Nat.le_refl _) (Nat.le_refl _) (fun s1 c1 h1 hl1 hE1 => ?_)
    obtain ⟨t1, t2⟩ := Tz_le hE1 hl1
    have kq := k s1 (sf_y c1) h1 t1 t2
    have eo : qModel a (nI n) (nI r) = (if r < (mods a.1.2.2 n (fo (n + 1) - fo n)).length then nI (pwc (fo n + (mods a.1.2.2 n (fo (n + 1) - fo n)).getD r 0)) else (-5)) := by
      unfold qModel
      rw [if_pos ⟨e1, hy0⟩, tn_nI (show n < 2 ^ 31 by omega), tn_nI hr]
    rw [eo] at kq
    exact kq
  · refine ⟨0, 0, Nat.zero_le _, Nat.zero_le _, fun Q k => ?_⟩
    have eo : qModel a x y = (-2) := by
      unfold qModel
      rw [if_neg]
      rintro ⟨z1, z2⟩
      refine e ⟨z1, fun z => ?_⟩
      have := Int32.lt_iff_toInt_lt.mp z
      simp at this
      omega
    have kq := k σ cx.rf h (by omega) (by omega)
    rw [eo] at kq
    refine ⟨h.1.1.o, C_isSize_ok (b_b _ rfl (fun _ => kq) (fun z => b_ff (fun z2 => e ⟨z, Int32.not_lt.mpr z2⟩) kq))⟩
theorem X_models_ok {b : Nat} {a : As} {x z : Int32} {all : Bool} {σ : St} (h : XI b σ a) (ha : asok a) (hN : b + 121 ≤ s_n σ) (hz : z = bI all) : ∃ c d, c ≤ Tz b σ ∧ d ≤ Ts b σ ∧ ∀ Q : Int32 → St → Prop, (∀ σ', yk b σ σ' → XI b σ' a → c + Tz b σ' ≤ Tz b σ → d + Ts b σ' ≤ Ts b σ → Q (qModels a x all) σ') → P_X_models b x z σ c d Q := by
  by_cases e1 : wthn x 1 3 = true
  · obtain ⟨n, rfl, n1, n3⟩ := wthn_ex (lo := 1) (hi := 3) e1 (by decide)
    have hn : nok n := ⟨n1, n3⟩
    refine ⟨Lz b σ + nz b σ (pls b (s_r σ (b + 2)) (dmx a.1.2.2 5)), 308 * Lz b σ + 3341 * nz b σ (pls b (s_r σ (b + 2)) (dmx a.1.2.2 5)), Tz_c _, Ts_c _, fun Q k => ?_⟩
    refine ⟨h.1.1.o, C_isSize_ok (b_b _ rfl (fun z => by rw [e1] at z; cases z) (fun _ => nn_mk (b + 88) h.1.1.o4 ⟨Lz b σ + nz b σ (pls b (s_r σ (b + 2)) (dmx a.1.2.2 5)), 308 * Lz b σ + 3341 * nz b σ (pls b (s_r σ (b + 2)) (dmx a.1.2.2 5)), by omega, by omega, ?_⟩))⟩
    rw [h.1.1.o0]
    refine E_countModels_ok h ha hN hn hz (Nat.le_refl _) (Nat.le_refl _) (fun s1 c1 h1 hl1 hE1 => ?_)
    obtain ⟨t1, t2⟩ := Tz_le hE1 hl1
    have kq := k s1 (sf_y c1) h1 t1 t2
    have eo : qModels a (nI n) all = nI (modn a.1.2.2 n all (fo (n + 1) - fo n)) := by
      unfold qModels
      rw [if_pos e1, tn_nI (show n < 2 ^ 31 by omega)]
    rw [eo] at kq
    exact kq
  · refine ⟨0, 0, Nat.zero_le _, Nat.zero_le _, fun Q k => ?_⟩
    have eo : qModels a x all = (-2) := by
      unfold qModels
      rw [if_neg e1]
    have kq := k σ cx.rf h (by omega) (by omega)
    rw [eo] at kq
    exact ⟨h.1.1.o, C_isSize_ok (b_b _ rfl (fun _ => kq) (fun z => absurd z e1))⟩
