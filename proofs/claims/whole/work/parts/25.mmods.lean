/-! The reference: what refutes, witnesses told, worlds that keep all laws. -/
theorem MP.fo {m n : Nat} {σ : St} (h : MP m σ) (h1 : 1 ≤ n) (h4 : n ≤ 4) : s_i σ (m + 6) n = nI (fo n) := by
  obtain ⟨-, a1, a2, a3, a4⟩ := h
  have : n = 1 ∨ n = 2 ∨ n = 3 ∨ n = 4 := by omega
  rcases this with rfl | rfl | rfl | rfl
  · exact a1
  · exact a2
  · exact a3
  · exact a4
theorem but5 : ∀ i, i < 5 → (nI i = -5 ↔ i = 5) := by decide
theorem M_refute_ok {m : Nat} {a : As} {x : Int32} {σ : St} {Q : Int32 → St → Prop} (h : MI m σ a) (ha : asok a) (k : ∀ σ', chg (MM m) no σ σ' → MI m σ' (opRefute a x).2 → Q (opRefute a x).1 σ') : P_M_refute m x σ Q := by
  have h5 := ha.1.2.1
  refine ⟨h.1.s, M_isLaw_ok h.1 h.k h5 (b_b _ rfl (fun e => ?_) (fun e => ?_))⟩
  · have eo : opRefute a x = (-1, a) := by simp [opRefute, e]
    rw [eo] at k; exact k σ chg.rf h
  obtain ⟨i, hi, rfl⟩ := isN_ex e (by omega)
  have t1 := tn_nI (show i < 2 ^ 31 by omega)
  have hl := wit_len a.1.2.2 i
  refine M_findsWitnesses_ok h ha hi (fun σ1 hc h1 hck hf => ?_)
  cases ew : wit a.1.2.2 i with
  | nil =>
    have eo : opRefute a (nI i) = (-5, a) := by simp only [opRefute, e, t1, if_true, ew]
    rw [eo] at k
    rw [ew] at hf
    rw [hf.1]
    exact b_tt rfl (k σ1 (hc.up (fun _ _ => fws_MM)) h1)
  | cons w ws =>
    have eo : opRefute a (nI i) = (nI (pwc w), act a (pws w, pwc w, a.1.2.2)) := by simp only [opRefute, e, t1, if_true, ew]
    rw [eo] at k
    have hw : w < 3341 := wit_lt (ls := a.1.2.2) (i := i) (by rw [ew]; simp)
    rw [ew] at hf hl
    rw [hf.1]
    refine b_ff (fun z => ?_) ?_
    · have := (nI_eq (a := (w :: ws).length) (b := 0) (by omega) (by decide)).mp z
      simp at this
    have f0 : s_i σ1 (m + 11) 0 = nI w := by have := hf.2 0 (by simp); simpa using this
    refine M_remember_ok h1.1 (fun σ2 hc2 hj => ?_)
    have h2 := h1.scr (hc2.up (fun q k z => Or.inl z))
    have f2 : s_i σ2 (m + 11) 0 = nI w := (hc2.i (by omega)).trans f0
    obtain ⟨-, hwok, -⟩ := pw_ok hw
    have hP := h2.2.2.2.2.2.1
    refine ar_mk (m + 11) 12 0 h2.1.r11 h2.1.a11 rfl (by decide) (by decide) ?_
    rw [f2]
    refine M_sizeAt_ok h2.1 hP h2.1.r6 hw ?_
    have g1 : chg (fun q k => q = m + 1 ∧ k = 0) no σ2 (w_i σ2 (m + 1) 0 (nI (pws w))) := chg.rf.wi ⟨rfl, rfl⟩
    have l1 := h2.1.g g1
    have g2 : chg (fun q k => q = m + 1 ∧ k < 2) no σ2 (w_i (w_i σ2 (m + 1) 0 (nI (pws w))) (m + 1) 1 (nI (pwc w))) := (g1.up (fun q k z => by omega)).wi ⟨rfl, by decide⟩
    have l2 := h2.1.g g2
    refine ar_mk (m + 1) 176 0 h2.1.r1 h2.1.a1 rfl (by decide) (by decide) (ar_mk (m + 11) 12 0 l1.r11 l1.a11 rfl (by decide) (by decide) ?_)
    have f3 : s_i (w_i σ2 (m + 1) 0 (nI (pws w))) (m + 11) 0 = nI w := (g1.i (by omega)).trans f2
    rw [f3]
    refine ar_mk (m + 5) 3341 w l1.r5 l1.a5 rfl hw (by decide) (ar_mk (m + 1) 176 1 l1.r1 l1.a1 rfl (by decide) (by decide) ?_)
    have f4 : s_i (w_i σ2 (m + 1) 0 (nI (pws w))) (m + 5) w = nI (pwc w) := (g1.i (by omega)).trans (hP.1 w hw)
    rw [f4]
    refine ar_mk (m + 1) 176 1 l2.r1 l2.a1 rfl (by decide) (by decide) ?_
    have f5 : s_i (w_i (w_i σ2 (m + 1) 0 (nI (pws w))) (m + 1) 1 (nI (pwc w))) (m + 1) 1 = nI (pwc w) := by rw [s_i_wi, if_pos ⟨rfl, rfl⟩]
    rw [f5]
    refine M_acted_ok (a := a) (w := (pws w, pwc w, a.1.2.2)) l2 (h2.2.2.g g2 (fun q k z => by unfold restM at z; omega)) ha ?_ ?_ (fun σ3 hc3 hm => k σ3 ?_ hm)
    · refine h1.2.1.copy ha.1 (fun k hk => ?_)
      rw [g2.i (by omega), Nat.zero_add]
      exact hj k hk
    · refine h2.2.1.cng ?_ ?_ (fun k hk => ?_)
      · rw [s_i_wi, if_neg (fun z => by omega), s_i_wi, if_pos ⟨rfl, rfl⟩]
      · exact f5
      · exact g2.i (by omega)
    · exact (((hc.up (fun _ _ => fws_MM)).tr (hc2.up (fun q k z => by unfold MM; omega))).tr (g2.up (fun q k z => by unfold MM; omega))).tr hc3
theorem M_witness_ok {m : Nat} {a : As} {x y z : Int32} {σ : St} {Q : Int32 → St → Prop} (h : MI m σ a) (ha : asok a) (kk : ∀ σ', chg (MM m) no σ σ' → MI m σ' a → Q (qWitness a x y z) σ') : P_M_witness m x y z σ Q := by
  have h5 := ha.1.2.1
  refine ⟨h.1.s, M_isLaw_ok h.1 h.k h5 (b_b _ rfl (fun e => ?_) (fun e => ?_))⟩
  · have eo : qWitness a x y z = (-1) := by simp [qWitness, e]
    rw [eo] at kk; exact kk σ chg.rf h
  obtain ⟨i, hi, rfl⟩ := isN_ex e (by omega)
  have t1 := tn_nI (show i < 2 ^ 31 by omega)
  refine b_or (fun hy => ?_) (fun hy => ?_)
  · have : ¬ 0 ≤ y.toInt := by
      have := Int32.lt_iff_toInt_lt.mp hy
      simp at this; omega
    have eo : qWitness a (nI i) y z = (-2) := by simp [qWitness, e, this]
    rw [eo] at kk; exact kk σ chg.rf h
  obtain ⟨r, hr, rfl⟩ := nI_of hy
  have hy0 : 0 ≤ (nI r).toInt := by rw [nI_toInt hr]; omega
  refine M_in_ok (lo := 0) (hi := ((3 : Nat) : Int) - 1) rfl rfl ?_
  rw [isN_wthn]
  refine b_b _ rfl (fun e2 => ?_) (fun e2 => ?_)
  · have eo : qWitness a (nI i) (nI r) z = (-2) := by simp [qWitness, e, e2]
    rw [eo] at kk; exact kk σ chg.rf h
  obtain ⟨t, ht, rfl⟩ := isN_ex e2 (by decide)
  have hl := wit_len a.1.2.2 i
  refine M_findsWitnesses_ok h ha hi (fun σ1 hc h1 hck hf => ?_)
  have kq := kk σ1 (hc.up (fun _ _ => fws_MM)) h1
  rw [hf.1]
  refine b_lt r _ rfl rfl hr (by omega) (fun hlt => ?_) (fun hlt => ?_)
  · have eo : qWitness a (nI i) (nI r) (nI t) = (match t with
      | 0 => nI (pws ((wit a.1.2.2 i).getD r 0))
      | 1 => nI (pwc ((wit a.1.2.2 i).getD r 0))
      | _ => nI (keyw a.1.2.2 i ((wit a.1.2.2 i).getD r 0))) := by
      have t2 : tn (nI t) = t := tn_nI (show t < 2 ^ 31 by omega)
      simp only [qWitness, if_pos e, t1, if_pos (⟨hy0, e2⟩ : 0 ≤ (nI r).toInt ∧ isN 3 (nI t) = true), tn_nI hr, if_pos hlt, t2]
      clear hc h1 hck hf hl
      have h7 : t = 0 ∨ t = 1 ∨ t = 2 := by omega
      rcases h7 with e7 | e7 | e7 <;> subst e7 <;> rfl
    rw [eo] at kq
    have fr := hf.2 r hlt
    obtain ⟨w, ew⟩ : ∃ w, w = (wit a.1.2.2 i).getD r 0 := ⟨_, rfl⟩
    have hw : w < 3341 := by rw [ew]; exact wit_lt (ls := a.1.2.2) (i := i) (getD_memN hlt)
    rw [← ew] at fr kq
    refine ar_mk (m + 11) 12 r h1.1.r11 h1.1.a11 rfl (by omega) (by decide) ?_
    rw [fr]
    have hP := h1.2.2.2.2.2.1
    have h7 : t = 0 ∨ t = 1 ∨ t = 2 := by omega
    rcases h7 with rfl | rfl | rfl
    · exact b_tt rfl (M_sizeAt_ok h1.1 hP h1.1.r6 hw kq)
    · refine b_ff (by decide) (b_tt rfl (ar_mk (m + 5) 3341 w h1.1.r5 h1.1.a5 rfl hw (by decide) ?_))
      rw [hP.1 w hw]; exact kq
    · refine b_ff (by decide) (b_ff (by decide) (ar_mk (m + 9) 16705 (3341 * i + w) h1.1.r9 h1.1.a9 (by rw [nI_mul, nI_add]) (by omega) (by decide) ?_))
      rw [hck i hi w hw]; exact kq
  · have eo : qWitness a (nI i) (nI r) (nI t) = (-5) := by
      unfold qWitness
      rw [if_pos e, t1, if_pos ⟨hy0, e2⟩, tn_nI hr, if_neg (by omega)]
    rw [eo] at kq; exact kq
theorem mods_succ (ls : List (Bool × Lw)) (n k : Nat) : mods ls n (k + 1) = mods ls n k ++ (if holdb ls (pws (fo n + k)) (pwc (fo n + k)) 5 then [k] else []) := by
  unfold mods
  rw [List.range_succ, List.filter_append, List.filter_cons, List.filter_nil]
theorem mods_pre (ls : List (Bool × Lw)) (n : Nat) {w N : Nat} (h : w ≤ N) : mods ls n w <+: mods ls n N := by
  induction h with
  | refl => exact List.prefix_rfl
  | step h ih => rw [mods_succ]; exact ih.trans (List.prefix_append _ _)
theorem lrn_MM {m q k : Nat} (h : lrn m q k) : MM m q k := by unfold lrn at h; unfold MM; omega
theorem fo_mono {n : Nat} (h : nok n) : fo n ≤ fo (n + 1) ∧ fo (n + 1) ≤ 3341 := by
  rcases nok3 h with rfl | rfl | rfl <;> decide
theorem M_model_ok {m : Nat} {a : As} {x y : Int32} {σ : St} {Q : Int32 → St → Prop} (h : MI m σ a) (ha : asok a) (kk : ∀ σ', chg (MM m) no σ σ' → MI m σ' a → Q (qModel a x y) σ') : P_M_model m x y σ Q := by
  refine ⟨h.1.s, fun K33 h33 => M_in_ok (lo := (1 : Nat)) (hi := (3 : Nat)) rfl rfl (b_b _ rfl (fun e => ?_) (fun e => ?_))⟩
  · have e' : wthn x 1 3 = false := e
    have eo : qModel a x y = (-2) := by simp [qModel, e']
    rw [eo] at kk; exact kk σ chg.rf h
  have e' : wthn x 1 3 = true := e
  obtain ⟨n, rfl, n1, n3⟩ := wthn_ex (lo := 1) (hi := 3) e (by decide)
  have t1 := tn_nI (show n < 2 ^ 31 by omega)
  refine b_or (fun hy => ?_) (fun hy => ?_)
  · have hy' : ¬ y < 0 := Int32.not_lt.mpr hy
    obtain ⟨r, hr, rfl⟩ := nI_of hy'
    have hy0 : 0 ≤ (nI r).toInt := by rw [nI_toInt hr]; omega
    obtain ⟨f1, f2⟩ := fo_mono ⟨n1, n3⟩
    obtain ⟨ls, els⟩ : ∃ ls, ls = a.1.2.2 := ⟨_, rfl⟩
    obtain ⟨N, eN⟩ : ∃ N, N = fo (n + 1) - fo n := ⟨_, rfl⟩
    have eo : qModel a (nI n) (nI r) = (if r < (mods ls n N).length then nI (pwc (fo n + (mods ls n N).getD r 0)) else (-5)) := by
      unfold qModel
      rw [if_pos ⟨e', hy0⟩, t1, tn_nI hr, ← els, ← eN]
    rw [eo] at kk
    refine M_learns_ok h ha (fun σ1 hc1 h1 hck => ?_)
    have kq := kk σ1 (hc1.up (fun _ _ => lrn_MM)) h1
    have hP := h1.2.2.2.2.2.1
    refine ar_mk (m + 6) 5 n h1.1.r6 h1.1.a6 rfl (by omega) (by decide) ?_
    rw [hP.fo n1 (by omega)]
    refine loopU (P := fun k s' => s' = σ1 ∧ (mods ls n k).length ≤ r) (G := fun k s' => K33 (nI n) (nI (r - (mods ls n k).length)) (nI (fo n + k)) s') N ?_ ?_ 0 σ1 (Nat.zero_le _) ⟨rfl, by simp [mods]⟩
    · rintro s' ⟨rfl, hle⟩
      refine h33 _ _ _ _ (ar_mk (m + 6) 5 (n + 1) h1.1.r6 h1.1.a6 (by rw [nI_add]) (by omega) (by decide) ?_)
      rw [hP.fo (by omega) (by omega)]
      refine b_tt (nI_le (by omega) (by omega)) ?_
      rw [if_neg (by omega)] at kq
      exact kq
    · rintro k s' hk ⟨rfl, hle⟩ ih
      refine h33 _ _ _ _ (ar_mk (m + 6) 5 (n + 1) h1.1.r6 h1.1.a6 (by rw [nI_add]) (by omega) (by decide) ?_)
      rw [hP.fo (by omega) (by omega)]
      refine b_ff (nI_ge (by omega) (by omega)) (M_hold_ok (but := 5) h1 ha hck (by omega) but5 ?_)
      have es := mods_succ ls n k
      rw [← els, nI_add]
      refine b_b _ rfl (fun eh => ?_) (fun eh => ?_)
      · rw [eh] at es
        simp at es
        have := ih s' ⟨rfl, by rw [es]; exact hle⟩
        rw [es] at this
        exact this
      · rw [eh] at es
        simp at es
        refine b_z _ rfl (by omega) (fun e0 => ?_) (fun e0 => ?_)
        · refine ar_mk (m + 5) 3341 (fo n + k) h1.1.r5 h1.1.a5 rfl (by omega) (by decide) ?_
          rw [hP.1 _ (by omega)]
          obtain ⟨t, et⟩ := mods_pre ls n (show k + 1 ≤ N by omega)
          have hr' : r = (mods ls n k).length := by omega
          rw [es] at et
          have e2 : (mods ls n N).getD r 0 = k := by
            rw [← et, hr']
            simp [List.getD_eq_getElem?_getD]
          have e3 : r < (mods ls n N).length := by rw [← et, hr']; simp
          rw [if_pos e3, e2] at kq
          exact kq
        · rw [nI_m1 (by omega)]
          have := ih s' ⟨rfl, by rw [es]; simp; omega⟩
          rw [es] at this
          simp only [List.length_append, List.length_singleton] at this
          rw [show r - ((mods ls n k).length + 1) = r - (mods ls n k).length - 1 by omega] at this
          exact this
  · have hy' : ¬ 0 ≤ y.toInt := fun z => hy (Int32.le_iff_toInt_le.mpr (by simpa using z))
    have eo : qModel a (nI n) y = (-2) := by
      unfold qModel
      rw [if_neg (fun z => hy' z.2)]
    rw [eo] at kk; exact kk σ chg.rf h
theorem M_models_ok {m : Nat} {a : As} {x z : Int32} {all : Bool} {σ : St} {Q : Int32 → St → Prop} (h : MI m σ a) (ha : asok a) (hz : z = bI all) (kk : ∀ σ', chg (MM m) no σ σ' → MI m σ' a → Q (qModels a x all) σ') : P_M_models m x z σ Q := by
  refine ⟨h.1.s, fun K29 h29 => M_in_ok (lo := (1 : Nat)) (hi := (3 : Nat)) rfl rfl (b_b _ rfl (fun e => ?_) (fun e => ?_))⟩
  · have e' : wthn x 1 3 = false := e
    have eo : qModels a x all = (-2) := by simp [qModels, e']
    rw [eo] at kk; exact kk σ chg.rf h
  have e' : wthn x 1 3 = true := e
  obtain ⟨n, rfl, n1, n3⟩ := wthn_ex (lo := 1) (hi := 3) e (by decide)
  have t1 := tn_nI (show n < 2 ^ 31 by omega)
  obtain ⟨f1, f2⟩ := fo_mono ⟨n1, n3⟩
  obtain ⟨ls, els⟩ : ∃ ls, ls = a.1.2.2 := ⟨_, rfl⟩
  obtain ⟨N, eN⟩ : ∃ N, N = fo (n + 1) - fo n := ⟨_, rfl⟩
  have eo : qModels a (nI n) all = nI (modn ls n all N) := by
    unfold qModels
    rw [if_pos e', t1, ← els, ← eN]
  rw [eo] at kk
  refine M_learns_ok h ha (fun σ1 hc1 h1 hck => ?_)
  have hP := h1.2.2.2.2.2.1
  refine ar_mk (m + 6) 5 n h1.1.r6 h1.1.a6 rfl (by omega) (by decide) ?_
  rw [hP.fo n1 (by omega)]
  refine loopU (P := fun k s' => chg (tab m) no σ1 s') (G := fun k s' => K29 (nI n) z (nI (modn ls n all k)) (nI (fo n + k)) s') N ?_ ?_ 0 σ1 (Nat.zero_le _) chg.rf
  · rintro s' hc
    have h' := h1.scr (hc.up (fun _ _ => tab_scr))
    refine h29 _ _ _ _ _ (ar_mk (m + 6) 5 (n + 1) h'.1.r6 h'.1.a6 (by rw [nI_add]) (by omega) (by decide) ?_)
    rw [h'.2.2.2.2.2.1.fo (by omega) (by omega)]
    exact b_tt (nI_le (by omega) (by omega)) (kk s' ((hc1.up (fun _ _ => lrn_MM)).tr (hc.up (fun _ _ => tab_MM))) h')
  · rintro k s' hk hc ih
    have h' := h1.scr (hc.up (fun _ _ => tab_scr))
    have hP' := h'.2.2.2.2.2.1
    refine h29 _ _ _ _ _ (ar_mk (m + 6) 5 (n + 1) h'.1.r6 h'.1.a6 (by rw [nI_add]) (by omega) (by decide) ?_)
    rw [hP'.fo (by omega) (by omega)]
    have hck' : CK m s' a.1.2.2 a.1.2.2.length := fun i hi w hw => by
      rw [hc.i (by unfold tab; omega)]; exact hck i hi w hw
    refine b_ff (nI_ge (by omega) (by omega)) (M_hold_ok (but := 5) h' ha hck' (by omega) but5 ?_)
    rw [← els, nI_add]
    have es : modn ls n all (k + 1) = modn ls n all k + (if holdb ls (pws (fo n + k)) (pwc (fo n + k)) 5 then (if all then oc n (pwc (fo n + k)) else 1) else 0) := rfl
    refine b_b _ rfl (fun eh => ?_) (fun eh => ?_)
    · rw [eh] at es
      have := ih s' hc
      rw [es] at this
      rw [nI_add]; exact this
    · rw [eh] at es
      refine b_b all hz (fun ea => ?_) (fun ea => ?_)
      · rw [ea] at es
        have := ih s' hc
        rw [ea, es] at this
        rw [nI_add, nI_add, ea]
        simpa [Nat.add_assoc] using this
      · rw [ea] at es
        have hw : fo n + k < 3341 := by omega
        have hs : pws (fo n + k) = n := pws_fo ⟨n1, n3⟩ (by omega) (by omega)
        obtain ⟨-, hwok, -⟩ := pw_ok hw
        rw [hs] at hwok
        refine ar_mk (m + 5) 3341 (fo n + k) h'.1.r5 h'.1.a5 rfl hw (by decide) ?_
        rw [hP'.1 _ hw]
        refine M_alikeTo_ok h'.1 hwok (fun s2 hc2 => ?_)
        have := ih s2 (hc.tr hc2)
        rw [ea, es] at this
        rw [nI_add, nI_add, ea, ← (oc_ways hwok).1]
        simpa [Nat.add_assoc] using this
