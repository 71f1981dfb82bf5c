/-! The class: the shelf; laws are added. -/
theorem pig {α : Type} [DecidableEq α] : ∀ (n : Nat) (U : List α) (f : Nat → α), (∀ i j, i < n → j < n → f i = f j → i = j) → (∀ i, i < n → f i ∈ U) → n ≤ U.length
  | 0, _, _, _, _ => Nat.zero_le _
  | n + 1, U, f, hi, hm => by
    have h0 := hm n (by omega)
    have ih := pig n (U.erase (f n)) f (fun i j a b => hi i j (by omega) (by omega)) (fun i a => by
      refine (List.mem_erase_of_ne (fun z => ?_)).mpr (hm i (by omega))
      have := hi i n (by omega) (by omega) z
      omega)
    rw [List.length_erase_of_mem h0] at ih
    have := List.length_pos_of_mem h0
    omega
theorem take_succ_getD {T : List Nat} {i : Nat} (h : i < T.length) : T.take (i + 1) = T.take i ++ [T.getD i 0] := by
  rw [List.take_succ, List.getElem?_eq_getElem h, List.getD_eq_getElem?_getD, List.getElem?_eq_getElem h]
  rfl
theorem getD_ext {S T : List Nat} (hl : S.length = T.length) (h : ∀ k, k < S.length → S.getD k 0 = T.getD k 0) : S = T := by
  apply List.ext_getElem? 
  intro k
  rcases Nat.lt_or_ge k S.length with q | q
  · have := h k q
    rw [List.getD_eq_getElem?_getD, List.getD_eq_getElem?_getD] at this
    rw [List.getElem?_eq_getElem q, List.getElem?_eq_getElem (show k < T.length by omega)] at this ⊢
    simp at this
    rw [this]
  · rw [List.getElem?_eq_none q, List.getElem?_eq_none (by omega)]
def SrcAt (src fr : Nat) (T : List Nat) (σ : St) : Prop := s_s σ src = some (.inr (0, 120)) ∧ fr + T.length ≤ 120 ∧ ∀ k, k < T.length → s_i σ src (fr + k) = nI (T.getD k 0)
theorem L_hasSteps_ok {lw src fr : Nat} {S T : List Nat} {σ : St} {Q : Int32 → St → Prop} (hW : LawC lw S σ) (hS : S.length ≤ 30 ∧ ∀ v ∈ S, v ≤ 3) (hT : ∀ v ∈ T, v ≤ 3) (hA : SrcAt src fr T σ) (k1 : S = T → Q (nI 1) σ) (k0 : S ≠ T → Q (nI 0) σ) : P_L_hasSteps lw (some src) (nI fr) (nI (fr + T.length)) σ Q := by
  obtain ⟨a1, a2, a3, a4, a5⟩ := hW
  obtain ⟨s1, s2, s3⟩ := hA
  refine ⟨a1, fun K25 h25 => b_lt fr 0 rfl nI_0.symm (by omega) (by decide) (fun z => absurd z (Nat.not_lt_zero _)) (fun _ => al_mk src 0 120 rfl s1 (b_ff (nI_nlt s2 (by decide)) ?_))⟩
  rw [nI_sub (Nat.le_add_right _ _), Nat.add_sub_cancel_left]
  refine b_eq S.length T.length a4 rfl (by omega) (by omega) (fun e => ?_) (fun e => k0 (fun z => e (by rw [z])))
  refine loopU (P := fun i s' => s' = σ ∧ ∀ j, j < i → S.getD j 0 = T.getD j 0) (G := fun i s' => K25 (some src) (nI fr) (nI i) s') S.length ?_ ?_ 0 σ (Nat.zero_le _) ⟨rfl, fun j hj => absurd hj (Nat.not_lt_zero j)⟩
  · rintro s' ⟨rfl, hv⟩
    exact h25 _ _ _ _ (b_tt (by rw [a4]; exact nI_le (Nat.le_refl _) (by omega)) (k1 (getD_ext e hv)))
  · rintro i s' hi ⟨rfl, hv⟩ ih
    refine h25 _ _ _ _ (b_ff (by rw [a4]; exact nI_ge hi (by omega)) (ar_mk (lw + 1) 30 i a2 a3 rfl (by omega) (by decide) (ar_mk src 120 (fr + i) rfl s1 (by rw [nI_add]) (by omega) (by decide) ?_)))
    rw [a5 i hi, s3 i (by omega)]
    have q1 := hS.2 _ (getD_memN hi)
    have q2 := hT _ (getD_memN (show i < T.length by omega))
    refine b_eq _ _ rfl rfl (by omega) (by omega) (fun f => ?_) (fun f => k0 (fun z => f (by rw [z])))
    rw [nI_add]
    refine ih s' ⟨rfl, fun j hj => ?_⟩
    by_cases ej : j = i
    · rw [ej]; exact f
    · exact hv j (by omega)
def bcm (lw : Nat) : Nat → Nat → Prop := fun q k => (q = lw ∧ (k = 1 ∨ k = 2 ∨ k = 3 ∨ k = 5)) ∨ q = lw + 1
theorem L_become_ok {lw src fr : Nat} {T : List Nat} {σ : St} {Q : St → Prop} (h1 : s_s σ lw = some (.inl 4)) (h2 : s_r σ lw 0 = some (lw + 1)) (h3 : s_s σ (lw + 1) = some (.inr (0, 30))) (hT : T.length ≤ 30 ∧ ∀ v ∈ T, v ≤ 3) (hA : SrcAt src fr T σ) (hd : src ≠ lw ∧ src ≠ lw + 1)
    (k : ∀ σ', chg (bcm lw) no σ σ' → s_i σ' lw 1 = nI T.length → (∀ j, j < T.length → s_i σ' (lw + 1) j = nI (T.getD j 0)) → s_i σ' lw 2 = nI (T.countP isLet) → s_i σ' lw 3 = nI (lets T) → s_i σ' lw 5 = nI 0 → Q σ') : P_L_become lw (some src) (nI fr) (nI (fr + T.length)) σ Q := by
  obtain ⟨s1, s2, s3⟩ := hA
  refine ⟨h1, fun K35 h35 => ?_⟩
  have c0 : chg (bcm lw) no σ (w_i (w_i (w_i (w_i σ lw 1 (nI 0)) lw 2 (nI 0)) lw 3 (nI 0)) lw 5 (nI 0)) := (((chg.rf.wi (by unfold bcm; omega)).wi (by unfold bcm; omega)).wi (by unfold bcm; omega)).wi (by unfold bcm; omega)
  have key := loopU (P := fun i s' => chg (bcm lw) no σ s' ∧ s_i s' lw 1 = nI i ∧ (∀ j, j < i → s_i s' (lw + 1) j = nI (T.getD j 0)) ∧ s_i s' lw 2 = nI ((T.take i).countP isLet) ∧ s_i s' lw 3 = nI (lets (T.take i)) ∧ s_i s' lw 5 = nI 0) (G := fun i s' => K35 (some src) (nI (fr + T.length)) (nI (fr + i)) s') T.length ?_ ?_ 0 _ (Nat.zero_le _) ⟨c0, ?_, fun j hj => absurd hj (Nat.not_lt_zero j), ?_, ?_, ?_⟩
  · refine al_mk src 0 120 rfl (by rw [c0.s]; exact s1) ?_
    rw [mn_nI (by omega) (by decide), mx_0 (by omega), show Nat.min (fr + T.length) 120 = fr + T.length from Nat.min_eq_left s2]
    exact key
  · rintro s' ⟨hc, f1, fv, f2, f3, f5⟩
    rw [List.take_length] at f2 f3
    exact h35 _ _ _ _ (b_tt (nI_le (by omega) (by omega)) (k s' hc f1 fv f2 f3 f5))
  · rintro i s' hi ⟨hc, f1, fv, f2, f3, f5⟩ ih
    have sv : s_i s' src (fr + i) = nI (T.getD i 0) := by
      rw [hc.i (by unfold bcm; omega)]; exact s3 i hi
    have sa : s_s s' src = some (.inr (0, 120)) := by rw [hc.s]; exact s1
    have la : s_s s' (lw + 1) = some (.inr (0, 30)) := by rw [hc.s]; exact h3
    have lr : s_r s' lw 0 = some (lw + 1) := (hc.r (fun z => z)).trans h2
    have hv3 := hT.2 _ (getD_memN hi)
    obtain ⟨v, ev⟩ : ∃ v, v = T.getD i 0 := ⟨_, rfl⟩
    rw [← ev] at sv hv3
    refine h35 _ _ _ _ (b_ff (nI_ge (by omega) (by omega)) (b_ff (by rw [f1]; exact nI_ge (by omega) (by decide)) (ar_mk src 120 (fr + i) rfl sa rfl (by omega) (by decide) (ar_mk (lw + 1) 30 i lr la f1 (by omega) (by decide) ?_))))
    have e1 : s_i (w_i s' (lw + 1) i (s_i s' src (fr + i))) lw 1 = nI i := by rw [s_i_wi, if_neg (fun z => by omega)]; exact f1
    rw [e1, nI_add, sv]
    obtain ⟨A, eA⟩ : ∃ A, A = w_i (w_i s' (lw + 1) i (nI v)) lw 1 (nI (i + 1)) := ⟨_, rfl⟩
    rw [← eA]
    have cA : chg (bcm lw) no σ A := by rw [eA]; exact (hc.wi (Or.inr rfl)).wi (by unfold bcm; omega)
    have sA : s_s A src = some (.inr (0, 120)) := by rw [cA.s]; exact s1
    have vA : s_i A src (fr + i) = nI v := by rw [cA.i (by unfold bcm; omega), s3 i hi, ev]
    have a1 : s_i A lw 1 = nI (i + 1) := by rw [eA, s_i_wi, if_pos ⟨rfl, rfl⟩]
    have aw : ∀ k, k ≠ 1 → s_i A lw k = s_i s' lw k := fun k hk => by rw [eA, s_i_wi, if_neg (fun z => hk z.2), s_i_wi, if_neg (fun z => by omega)]
    have as : ∀ j, j < i + 1 → s_i A (lw + 1) j = nI (T.getD j 0) := fun j hj => by
      rw [eA, s_i_wi, if_neg (fun z => by omega), s_i_wi]
      by_cases e : j = i
      · rw [if_pos ⟨rfl, e⟩, e, ev]
      · rw [if_neg (fun z => e z.2)]; exact fv j (by omega)
    have et := take_succ_getD hi
    rw [← ev] at et
    refine ar_mk src 120 (fr + i) rfl sA rfl (by omega) (by decide) ?_
    rw [vA]
    refine L_isLetter_ok (by omega) (b_b _ rfl (fun e => ?_) (fun e => ?_))
    · have e : v = 3 := by
        have := of_decide_eq_false e
        omega
      rw [nI_add]
      refine ih A ⟨cA, a1, as, ?_, ?_, by rw [aw 5 (by decide)]; exact f5⟩
      · rw [aw 2 (by decide), f2, et, List.countP_append]
        have : List.countP isLet [v] = 0 := by rw [e]; rfl
        rw [this]; rfl
      · rw [aw 3 (by decide), f3, et, lets_app]
        have : lets [v] = 0 := by rw [e]; rfl
        rw [this, Nat.or_zero]
    · have hv' : v < 3 := of_decide_eq_true e
      have e2 : s_i A lw 2 = nI ((T.take i).countP isLet) := (aw 2 (by decide)).trans f2
      rw [e2, nI_add]
      obtain ⟨B, eB⟩ : ∃ B, B = w_i A lw 2 (nI ((T.take i).countP isLet + 1)) := ⟨_, rfl⟩
      rw [← eB]
      have cB : chg (bcm lw) no σ B := by rw [eB]; exact cA.wi (by unfold bcm; omega)
      have sB : s_s B src = some (.inr (0, 120)) := by rw [cB.s]; exact s1
      have vB : s_i B src (fr + i) = nI v := by rw [cB.i (by unfold bcm; omega), s3 i hi, ev]
      have bw : ∀ q k, ¬ (q = lw ∧ k = 2) → s_i B q k = s_i A q k := fun q k hk => by rw [eB, s_i_wi, if_neg hk]
      refine ar_mk src 120 (fr + i) rfl sB rfl (by omega) (by decide) ?_
      have e3 : s_i B lw 3 = nI (lets (T.take i)) := by rw [bw _ _ (fun z => by omega), aw 3 (by decide)]; exact f3
      rw [vB, e3, shl_1 v (by omega), nI_or, nI_add]
      have cC := cB.wi (q := lw) (k := 3) (v := nI (lets (T.take i) ||| 2 ^ v)) (by unfold bcm; omega)
      refine ih _ ⟨cC, ?_, fun j hj => ?_, ?_, ?_, ?_⟩
      · rw [s_i_wi, if_neg (fun z => by omega), bw _ _ (fun z => by omega)]; exact a1
      · rw [s_i_wi, if_neg (fun z => by omega), bw _ _ (fun z => by omega)]; exact as j hj
      · rw [s_i_wi, if_neg (fun z => by omega), eB, s_i_wi, if_pos ⟨rfl, rfl⟩, et, List.countP_append]
        have : List.countP isLet [v] = 1 := by simp [List.countP_cons, isLet, hv']
        rw [this]
      · rw [s_i_wi, if_pos ⟨rfl, rfl⟩, et, lets_app]
        have : lets [v] = 2 ^ v := by simp [lets, hv']
        rw [this]
      · rw [s_i_wi, if_neg (fun z => by omega), bw _ _ (fun z => by omega), aw 5 (by decide)]; exact f5
  · rw [s_i_wi, if_neg (fun z => by omega), s_i_wi, if_neg (fun z => by omega), s_i_wi, if_neg (fun z => by omega), s_i_wi, if_pos ⟨rfl, rfl⟩]
  · rw [s_i_wi, if_neg (fun z => by omega), s_i_wi, if_neg (fun z => by omega), s_i_wi, if_pos ⟨rfl, rfl⟩]; rfl
  · rw [s_i_wi, if_neg (fun z => by omega), s_i_wi, if_pos ⟨rfl, rfl⟩]; rfl
  · rw [s_i_wi, if_pos ⟨rfl, rfl⟩]
/-! a place for a law -/
def lst (L : List Lw) (i : Nat) : List Nat := (L.getD i lz).1 ++ (L.getD i lz).2
theorem split_L {L : List Lw} {i : Nat} (h : i < L.length) : L = L.take i ++ (L.getD i lz :: L.drop (i + 1)) := by
  have e1 : L.getD i lz = L[i] := by rw [List.getD_eq_getElem?_getD, List.getElem?_eq_getElem h]; rfl
  rw [e1]
  have := List.drop_eq_getElem_cons h
  rw [← this, List.take_append_drop]
theorem flat_take {L : List Lw} {i : Nat} (h : i < L.length) : flat (L.take (i + 1)) = flat (L.take i) ++ lst L i := by
  have e : L.take (i + 1) = L.take i ++ [L.getD i lz] := by
    rw [List.take_succ, List.getElem?_eq_getElem h, List.getD_eq_getElem?_getD, List.getElem?_eq_getElem h]
    rfl
  rw [e, flat_app, flat_one]
  rfl
theorem flat_split {L : List Lw} {i : Nat} (h : i < L.length) : flat L = flat (L.take i) ++ (lst L i ++ flat (L.drop (i + 1))) := by
  have e := split_L h
  have e2 : flat L = flat (L.take i ++ (L.getD i lz :: L.drop (i + 1))) := congrArg flat e
  rw [e2, flat_app]
  rfl
theorem RdC.src {d i : Nat} {L : List Lw} {σ : St} (h : RdC d L σ) (hL : DL d σ) (hf : (flat L).length ≤ 120) (hi : i < L.length) : SrcAt (d + 1) (flat (L.take i)).length (lst L i) σ := by
  have e := flat_split hi
  have el : (flat L).length = (flat (L.take i)).length + ((lst L i).length + (flat (L.drop (i + 1))).length) := by rw [e, List.length_append, List.length_append]
  refine ⟨hL.a1, by omega, fun k hk => ?_⟩
  rw [h.2 _ (by omega), e, List.getD_eq_getElem?_getD, List.getElem?_append_right (by omega), Nat.add_sub_cancel_left, List.getElem?_append_left hk, ← List.getD_eq_getElem?_getD]
theorem okL_steps {w : Lw} (h : okL w) : (w.1 ++ w.2).length ≤ 30 ∧ ∀ v ∈ w.1 ++ w.2, v ≤ 3 := by
  have h1 := h.1.2
  have h2 := h.2.2
  refine ⟨by rw [List.length_append]; omega, fun v hv => ?_⟩
  rcases List.mem_append.mp hv with g | g
  · exact okE_small _ 0 h.1.1 v g
  · exact okE_small _ 0 h.2.1 v g
def updS (sp : Nat → List Nat) (j : Nat) (T : List Nat) : Nat → List Nat := fun x => if x = j then T else sp x
theorem StC.upd {b s j : Nat} {sp : Nat → List Nat} {T : List Nat} {w : Ws} {σ : St} (h : StC b sp s w σ) (hu : some (b + 23 + 2 * j) ∉ refs s w.2.2.length σ) : StC b (updS sp j T) s w σ := by
  obtain ⟨h1, h2, h3, h4⟩ := h
  refine ⟨h1, h2, h3, fun i hi => ?_⟩
  obtain ⟨g1, j', g2, g3, g4⟩ := h4 i hi
  refine ⟨g1, j', g2, g3, ?_⟩
  unfold updS
  rw [if_neg]
  · exact g4
  · intro z
    subst z
    exact hu (mem_refs.mpr ⟨i, hi, g3⟩)
theorem FLt.lawC {b i : Nat} {S : List Nat} {σ : St} (h : FLt b i σ) (p : PlC b i S σ) : LawC (b + 23 + 2 * i) S σ := ⟨h.1, h.2.1, h.2.2.1, p.2.1, p.2.2.1⟩
def brI (b : Nat) : Nat → Nat → Prop := fun q _ => b + 23 ≤ q ∧ q ≤ b + 82
theorem F_bring_ok {b i : Nat} {sp : Nat → List Nat} {L : List Lw} {w : Ws} {h : List Ws} {sn : Option Ws} {σ : St} {Q : Option Nat → St → Prop} (hX : XL b σ) (hN : b + 106 ≤ s_n σ) (hSh : ShC b sp σ) (hS : StC b sp (b + 1) w σ) (hw4 : w.2.2.length ≤ 4) (hH : HiC b sp h σ) (hl : h.length ≤ 4) (h5 : ∀ w ∈ h, w.2.2.length ≤ 5) (hSn : SnC b sp sn σ) (hs5 : ∀ w, sn = some w → w.2.2.length ≤ 5) (hR : RdC (b + 101) L σ) (hf : (flat L).length ≤ 120) (hL60 : L.length ≤ 60) (hok : ∀ w ∈ L, okL w) (hi : i < L.length)
    (k : ∀ j sp' σ', j < 30 → sp' j = lst L i → chg (brI b) no σ σ' → ShC b sp' σ' → StC b sp' (b + 1) w σ' → HiC b sp' h σ' → SnC b sp' sn σ' → Q (some (b + 23 + 2 * j)) σ') : P_F_bring (b + 21) (some (b + 101)) (nI i) (some (b + 1)) (some (b + 4)) σ Q := by
  have hD := hX.D
  have hsrc := hR.src hD hf hi
  have hT := okL_steps (hok _ (lw_mem hi))
  obtain ⟨T, eT⟩ : ∃ T, T = lst L i := ⟨_, rfl⟩
  obtain ⟨fr, efr⟩ : ∃ fr, fr = (flat (L.take i)).length := ⟨_, rfl⟩
  have hT' : T.length ≤ 30 ∧ ∀ v ∈ T, v ≤ 3 := by rw [eT]; exact hT
  have hto : (flat (L.take (i + 1))).length = fr + T.length := by rw [flat_take hi, List.length_append, eT, efr]
  rw [← efr, ← eT] at hsrc
  rw [← eT] at k
  refine ⟨hX.1.f, fun K17 K62 h17 h62 => nn_mk (b + 101) rfl (D_lawStart_ok hD hR.1 hL60 hi (nn_mk (b + 101) rfl (D_lawEnd_ok hD hR.1 hL60 hi ?_)))⟩
  rw [hto, ← efr]
  refine loopU (P := fun _ s' => s' = σ) (G := fun x s' => K17 (some (b + 101)) (some (b + 1)) (some (b + 4)) (nI fr) (nI (fr + T.length)) (nI x) s') 30 ?_ ?_ 0 σ (Nat.zero_le _) rfl
  · rintro s' rfl
    refine h17 _ _ _ _ _ _ _ (b_tt (nI_le (Nat.le_refl _) (by decide)) ?_)
    -- a place that nobody uses
    have hHc := hH
    obtain ⟨-, r0, hr0, hp0, -⟩ := hHc
    have hU : (refs (b + 1) w.2.2.length s' ++ (pastU b r0 h s' h.length ++ snU b sn s')).length ≤ 29 := by
      have q1 := pastU_len (b := b) (r := r0) (σ := s') h5 h.length (Nat.le_refl _)
      have q2 : (snU b sn s').length ≤ 5 := by
        cases sn with
        | none => simp [snU]
        | some w' =>
          have := hs5 w' rfl
          simp [snU, refs]; exact this
      rw [List.length_append, List.length_append]
      simp [refs]
      omega
    refine loopU (P := fun x s2 => s2 = s' ∧ ∀ j, j < x → some (b + 23 + 2 * j) ∈ refs (b + 1) w.2.2.length s' ++ (pastU b r0 h s' h.length ++ snU b sn s')) (G := fun x s2 => K62 (some (b + 101)) (some (b + 1)) (some (b + 4)) (nI fr) (nI (fr + T.length)) (nI x) s2) 30 ?_ ?_ 0 s' (Nat.zero_le _) ⟨rfl, fun j hj => absurd hj (Nat.not_lt_zero j)⟩
    · rintro s2 ⟨rfl, hall⟩
      have := pig 30 _ (fun j => some (b + 23 + 2 * j)) (fun i j _ _ e => by simp at e; omega) hall
      omega
    · rintro x s2 hx ⟨rfl, hall⟩ ih2
      obtain ⟨f1, f2, f3, f4⟩ := hX.2.2.2.1 x hx
      refine h62 _ _ _ _ _ _ _ (b_ff (nI_ge hx (by decide)) (ar_mk (b + 22) 30 x hX.1.f0 hX.1.fa rfl hx (by decide) (nn_mk (b + 1) rfl ?_)))
      rw [f4]
      refine S_uses_ok (len := w.2.2.length) hX.now hS.1 (by omega) (fun u hu => b_b u rfl (fun e => ?_) (fun e => ?_))
      · refine ar_mk (b + 22) 30 x hX.1.f0 hX.1.fa rfl hx (by decide) (nn_mk (b + 4) rfl ?_)
        rw [f4]
        refine H_uses_ok hX hH hl h5 hSn hs5 (fun r hr hp hst v hv => ?_)
        have er : r = r0 := by
          have e1 := (hp 0 (by decide)).symm.trans (hp0 0 (by decide))
          simp at e1
          omega
        subst er
        refine b_b v rfl (fun e2 => ?_) (fun e2 => ?_)
        · -- it becomes this law
          have n1 : some (b + 23 + 2 * x) ∉ refs (b + 1) w.2.2.length s2 := fun z => by
            have := hu.mpr (mem_refs.mp z)
            rw [e] at this; cases this
          have n2 : some (b + 23 + 2 * x) ∉ pastU b r h s2 h.length ++ snU b sn s2 := fun z => by
            have := hv.mpr z
            rw [e2] at this; cases this
          refine ar_mk (b + 22) 30 x hX.1.f0 hX.1.fa rfl hx (by decide) (ob_mk (b + 101) rfl hX.1.d (nn_mk (b + 23 + 2 * x) f4 ?_))
          rw [hX.1.d0]
          refine L_become_ok f1 f2 f3 hT' hsrc ⟨by omega, by omega⟩ (fun s3 c3 g1 gv g2 g3 g5 => ?_)
          have r0' : s_r s3 (b + 21) 0 = some (b + 22) := (c3.r (fun z => z)).trans hX.1.f0
          have r4' : s_r s3 (b + 22) x = some (b + 23 + 2 * x) := (c3.r (fun z => z)).trans f4
          have ra : s_s s3 (b + 22) = some (.inr (5, 30)) := by rw [c3.s]; exact hX.1.fa
          refine ar_mk (b + 22) 30 x r0' ra rfl hx (by decide) ?_
          rw [r4']
          refine k x (updS sp x T) s3 hx (by simp [updS]) (c3.up (fun q k z => by unfold bcm at z; unfold brI; omega)) (fun y hy => ?_) ?_ ?_ ?_
          · by_cases e : y = x
            · subst e
              have eu : updS sp y T y = T := by simp [updS]
              rw [eu]
              refine ⟨⟨hT', g1, gv, g2, g3⟩, ?_, false, g5, fun z => by cases z⟩
              intro q hq
              rw [c3.r (fun z => z)] at hq
              obtain ⟨p1, p2, p3, p4⟩ := (hSh y hy).2.1 q hq
              exact ⟨p1, by rw [c3.n]; exact p2, by rw [c3.s]; exact p3, fun j hj hne => by rw [c3.r (fun z => z)]; exact p4 j hj hne⟩
            · have eu : updS sp x T y = sp y := by simp [updS, e]
              rw [eu]
              exact ⟨(hSh y hy).1.g c3.x (by omega) (fun k _ _ => by unfold bcm; omega) (fun k => by unfold bcm; omega), (hSh y hy).2.g c3.x hN hy (by unfold bcm; omega) (fun j _ z => z) (fun q k z => by unfold bcm; omega)⟩
          · exact (hS.upd n1).g c3.x (by omega) (fun k _ _ => by unfold bcm; omega) (fun k => by unfold bcm; omega) (fun _ z => z)
          · refine ⟨(c3.i (by unfold bcm; omega)).trans hH.1, r, hr, fun j hj => (c3.r (fun z => z)).trans (hp j hj), fun j hj => ?_⟩
            refine ((hst j hj).upd (fun z => n2 (List.mem_append_left _ ?_))).g c3.x (by omega) (fun k _ _ => by unfold bcm; omega) (fun k => by unfold bcm; omega) (fun _ z => z)
            have hm : some (b + 23 + 2 * x) ∈ pastU b r h s2 (j + 1) := List.mem_append_right _ z
            have mono : ∀ t, j + 1 ≤ t → some (b + 23 + 2 * x) ∈ pastU b r h s2 t := by
              intro t ht
              induction ht with
              | refl => exact hm
              | step _ ih => exact List.mem_append_left _ ih
            exact mono _ hj
          · cases sn with
            | none => exact (c3.i (by unfold bcm; omega)).trans hSn
            | some w' =>
              refine ⟨(c3.i (by unfold bcm; omega)).trans hSn.1, (hSn.2.upd (fun z => n2 (List.mem_append_right _ z))).g c3.x (by omega) (fun k _ _ => by unfold bcm; omega) (fun k => by unfold bcm; omega) (fun _ z => z)⟩
        · rw [nI_add]
          refine ih2 s2 ⟨rfl, fun j hj => ?_⟩
          by_cases ej : j = x
          · subst ej
            exact List.mem_append_right _ (hv.mp e2)
          · exact hall j (by omega)
      · rw [nI_add]
        refine ih2 s2 ⟨rfl, fun j hj => ?_⟩
        by_cases ej : j = x
        · subst ej
          exact List.mem_append_left _ (mem_refs.mpr (hu.mp e))
        · exact hall j (by omega)
  · rintro x s' hx rfl ih
    obtain ⟨f1, f2, f3, f4⟩ := hX.2.2.2.1 x hx
    refine h17 _ _ _ _ _ _ _ (b_ff (nI_ge hx (by decide)) (ar_mk (b + 22) 30 x hX.1.f0 hX.1.fa rfl hx (by decide) (ob_mk (b + 101) rfl hX.1.d (nn_mk (b + 23 + 2 * x) f4 ?_))))
    rw [hX.1.d0]
    refine L_hasSteps_ok (S := sp x) (T := T) (src := b + 101 + 1) ((hX.2.2.2.1 x hx).lawC (hSh x hx).1) (hSh x hx).1.1 hT'.2 hsrc (fun e => ?_) (fun e => ?_)
    · refine b_ff (by decide) (ar_mk (b + 22) 30 x hX.1.f0 hX.1.fa rfl hx (by decide) ?_)
      rw [f4]
      exact k x sp s' hx e chg.rf hSh hS hH hSn
    · refine b_tt rfl ?_
      rw [nI_add]
      exact ih s' rfl
