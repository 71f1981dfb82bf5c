/-! The class: witnesses. -/
def grp (P : Nat → Bool) (f : Nat → Nat) (cs N : Nat) : List Nat := (List.range N).filter (fun w => f w == cs && P w)
def wl (P : Nat → Bool) (f : Nat → Nat) (N : Nat) : Nat → List Nat
  | 0 => []
  | c + 1 => wl P f N c ++ grp P f (c + 1) N
theorem wlst_wl (ls : List (Bool × Lw)) (i : Nat) : ∀ c, wlst ls i c = wl (fun w => holdb ls (pws w) (pwc w) i) (keyw ls i) 3341 c
  | 0 => rfl
  | c + 1 => by rw [wlst, wl, wlst_wl ls i c]; rfl
theorem grp_succ (P : Nat → Bool) (f : Nat → Nat) (cs N : Nat) : grp P f cs (N + 1) = grp P f cs N ++ (if f N == cs && P N then [N] else []) := by
  unfold grp
  rw [List.range_succ, List.filter_append, List.filter_cons, List.filter_nil]
theorem grp_key {P : Nat → Bool} {f : Nat → Nat} {cs N v : Nat} (h : v ∈ grp P f cs N) : f v = cs := by
  unfold grp at h
  have := (List.mem_filter.mp h).2
  rw [Bool.and_eq_true, beq_iff_eq] at this
  exact this.1
theorem wl_key {P : Nat → Bool} {f : Nat → Nat} {N v : Nat} : ∀ {c : Nat}, v ∈ wl P f N c → f v ≤ c
  | 0, h => by simp [wl] at h
  | c + 1, h => by
    rw [wl] at h
    rcases List.mem_append.mp h with g | g
    · have := wl_key g
      omega
    · have := grp_key g
      omega
theorem wl_same {P : Nat → Bool} {f : Nat → Nat} {N : Nat} : ∀ {c : Nat}, (P N = true → 1 ≤ f N → c < f N) → wl P f (N + 1) c = wl P f N c
  | 0, _ => rfl
  | c + 1, h => by
    rw [wl, wl, wl_same (c := c) (fun h1 h2 => by have := h h1 h2; omega), grp_succ]
    have : (f N == c + 1 && P N) = false := by
      cases hp : P N with
      | false => simp
      | true =>
        rw [Bool.and_true, beq_eq_false_iff_ne]
        intro e
        have := h hp (by omega)
        omega
    rw [this]
    simp
theorem wl_ins {P : Nat → Bool} {f : Nat → Nat} {N : Nat} (hP : P N = true) (h1 : 1 ≤ f N) : ∀ {c : Nat}, f N ≤ c → ∃ B, wl P f N c = wl P f N (f N) ++ B ∧ wl P f (N + 1) c = wl P f N (f N) ++ N :: B ∧ ∀ v ∈ B, f N < f v
  | 0, h => by omega
  | c + 1, h => by
    by_cases e : f N = c + 1
    · refine ⟨[], by rw [e, List.append_nil], ?_, fun v hv => by simp at hv⟩
      rw [e, wl, wl, wl_same (c := c) (fun _ _ => by omega), grp_succ, e, hP]
      simp
    · obtain ⟨B, b1, b2, b3⟩ := wl_ins hP h1 (c := c) (by omega)
      refine ⟨B ++ grp P f (c + 1) N, ?_, ?_, fun v hv => ?_⟩
      · rw [wl, b1, List.append_assoc]
      · rw [wl, b2, grp_succ]
        have : (f N == c + 1 && P N) = false := by
          have : (f N == c + 1) = false := by rw [beq_eq_false_iff_ne]; exact e
          rw [this]; rfl
        rw [this]
        simp
      · rcases List.mem_append.mp hv with g | g
        · exact b3 v g
        · have := grp_key g
          omega
/-- one world more -/
theorem wl_step {P : Nat → Bool} {f : Nat → Nat} {N c : Nat} (hP : P N = true) (h1 : 1 ≤ f N) (hc : f N ≤ c) :
    (((wl P f N c).take 12).length = 12 ∧ f (((wl P f N c).take 12).getD 11 0) ≤ f N ∧ (wl P f (N + 1) c).take 12 = (wl P f N c).take 12) ∨ ∃ p, p ≤ ((wl P f N c).take 12).length ∧ p ≤ 11 ∧ (∀ u, u < p → f (((wl P f N c).take 12).getD u 0) ≤ f N) ∧ (∀ u, p ≤ u → u < ((wl P f N c).take 12).length → f N < f (((wl P f N c).take 12).getD u 0)) ∧ (wl P f (N + 1) c).take 12 = (((wl P f N c).take 12).take p ++ N :: ((wl P f N c).take 12).drop p).take 12 := by
  obtain ⟨B, b1, b2, b3⟩ := wl_ins hP h1 hc
  have ha : ∀ v ∈ wl P f N (f N), f v ≤ f N := fun v hv => wl_key hv
  obtain ⟨A, eA⟩ : ∃ A, A = wl P f N (f N) := ⟨_, rfl⟩
  rw [← eA] at b1 b2 ha
  rw [b1, b2]
  rcases Nat.lt_or_ge A.length 12 with q | q
  · refine Or.inr ⟨A.length, ?_, by omega, fun u hu => ?_, fun u hu1 hu2 => ?_, ?_⟩
    · rw [List.length_take, List.length_append]; omega
    · have e : ((A ++ B).take 12).getD u 0 = A.getD u 0 := by
        rw [List.getD_eq_getElem?_getD, List.getD_eq_getElem?_getD, List.getElem?_take, if_pos (by omega), List.getElem?_append_left hu]
      rw [e]
      exact ha _ (getD_memN hu)
    · rw [List.length_take, List.length_append] at hu2
      have e : ((A ++ B).take 12).getD u 0 = B.getD (u - A.length) 0 := by
        rw [List.getD_eq_getElem?_getD, List.getD_eq_getElem?_getD, List.getElem?_take, if_pos (by omega), List.getElem?_append_right hu1]
      rw [e]
      exact b3 _ (getD_memN (by omega))
    · have e1 : ((A ++ B).take 12).take A.length = A := by
        rw [List.take_take, Nat.min_eq_left (by omega), List.take_left]
      have e2 : ((A ++ B).take 12).drop A.length = B.take (12 - A.length) := by
        rw [List.drop_take, List.drop_left]
      rw [e1, e2, List.take_append, List.take_append]
      congr 1
      obtain ⟨d, hd⟩ : ∃ d, 12 - A.length = d + 1 := ⟨11 - A.length, by omega⟩
      rw [hd, List.take_succ_cons, List.take_succ_cons, List.take_take, Nat.min_eq_left (by omega)]
  · left
    have e : (A ++ B).take 12 = A.take 12 := List.take_append_of_le_length q
    have e' : (A ++ N :: B).take 12 = A.take 12 := List.take_append_of_le_length q
    rw [e, e']
    refine ⟨by rw [List.length_take]; omega, ?_, rfl⟩
    have e2 : (A.take 12).getD 11 0 = A.getD 11 0 := by
      rw [List.getD_eq_getElem?_getD, List.getD_eq_getElem?_getD, List.getElem?_take, if_pos (by omega)]
    rw [e2]
    exact ha _ (getD_memN (by omega))
/-- those that are told -/
def TD (b : Nat) (T : List Nat) (f : Nat → Nat) (σ : St) : Prop := s_i σ (b + 88) 6 = nI T.length ∧ ∀ p, p < T.length → s_i σ (b + 99) p = nI (T.getD p 0) ∧ s_i σ (b + 100) p = nI (f (T.getD p 0))
def tdI (b : Nat) : Nat → Nat → Prop := fun q k => (q = b + 88 ∧ k = 6) ∨ q = b + 99 ∨ q = b + 100
theorem E_isAmongFirst_ok {b c : Nat} {T : List Nat} {f : Nat → Nat} {σ : St} {Q : Int32 → St → Prop} (hX : XL b σ) (hT : TD b T f σ) (hl : T.length ≤ 12) (hf : ∀ v, f v ≤ 27) (hc : c ≤ 27) (k1 : (T.length < 12 ∨ c < f (T.getD 11 0)) → Q (nI 1) σ) (k0 : T.length = 12 → f (T.getD 11 0) ≤ c → Q (nI 0) σ) : P_E_isAmongFirst (b + 88) (nI c) σ Q := by
  refine ⟨hX.1.e, b_lt T.length 12 hT.1 rfl (by omega) (by decide) (fun g => k1 (Or.inl g)) (fun g => ar_mk (b + 100) 12 11 hX.1.e5 hX.1.ec rfl (by decide) (by decide) ?_)⟩
  rw [(hT.2 11 (by omega)).2]
  have := hf (T.getD 11 0)
  exact b_le _ c rfl rfl (by omega) (by omega) (fun g2 => k0 (by omega) g2) (fun g2 => k1 (Or.inr g2))
theorem ins_get {T : List Nat} {w p y : Nat} (hp : p ≤ T.length) (hy : y < 12) : ((T.take p ++ w :: T.drop p).take 12).getD y 0 = if y < p then T.getD y 0 else if y = p then w else T.getD (y - 1) 0 := by
  have lt : (T.take p).length = p := by rw [List.length_take]; omega
  rw [List.getD_eq_getElem?_getD, List.getElem?_take, if_pos hy]
  by_cases h1 : y < p
  · rw [if_pos h1, List.getElem?_append_left (by omega), List.getElem?_take, if_pos h1, List.getD_eq_getElem?_getD]
  · rw [if_neg h1, List.getElem?_append_right (by omega), lt]
    by_cases h2 : y = p
    · rw [if_pos h2, h2, Nat.sub_self]; rfl
    · rw [if_neg h2]
      obtain ⟨d, hd⟩ : ∃ d, y - p = d + 1 := ⟨y - p - 1, by omega⟩
      rw [hd, List.getElem?_cons_succ, List.getElem?_drop, show p + d = y - 1 by omega, List.getD_eq_getElem?_getD]
theorem ins_len {T : List Nat} {w p : Nat} (hp : p ≤ T.length) : ((T.take p ++ w :: T.drop p).take 12).length = min 12 (T.length + 1) := by
  rw [List.length_take, List.length_append, List.length_take, List.length_cons, List.length_drop]
  omega
theorem E_tell_ok {b w c p : Nat} {T : List Nat} {f : Nat → Nat} {σ : St} {Q : St → Prop} (hX : XL b σ) (hT : TD b T f σ) (hl : T.length ≤ 12) (hf : ∀ v, f v ≤ 27) (hc : f w = c) (hw : w < 3341) (hp : p ≤ T.length) (hp11 : p ≤ 11) (h1 : ∀ u, u < p → f (T.getD u 0) ≤ c) (h2 : ∀ u, p ≤ u → u < T.length → c < f (T.getD u 0))
    (k : ∀ σ', chg (tdI b) no σ σ' → TD b ((T.take p ++ w :: T.drop p).take 12) f σ' → Q σ') : P_E_tell (b + 88) (nI w) (nI c) σ Q := by
  have hc27 : c ≤ 27 := by rw [← hc]; exact hf w
  obtain ⟨hT1, hT2⟩ := hT
  obtain ⟨p0, ep0⟩ : ∃ p0, p0 = min T.length 11 := ⟨_, rfl⟩
  have sh : ∀ s', chg (tdI b) no σ s' → s_s s' (b + 99) = some (.inr (0, 12)) ∧ s_s s' (b + 100) = some (.inr (0, 12)) ∧ s_r s' (b + 88) 4 = some (b + 99) ∧ s_r s' (b + 88) 5 = some (b + 100) := fun s' c => ⟨by rw [c.s]; exact hX.1.eb, by rw [c.s]; exact hX.1.ec, (c.r (fun z => z)).trans hX.1.e4, (c.r (fun z => z)).trans hX.1.e5⟩
  refine ⟨hX.1.e, fun K19 h19 => ?_⟩
  have put : ∀ s', (chg (tdI b) no σ s' ∧ s_i s' (b + 88) 6 = nI T.length ∧ (∀ y, y ≤ p → s_i s' (b + 99) y = s_i σ (b + 99) y ∧ s_i s' (b + 100) y = s_i σ (b + 100) y) ∧ ∀ y, p < y → y ≤ p0 → s_i s' (b + 99) y = nI (T.getD (y - 1) 0) ∧ s_i s' (b + 100) y = nI (f (T.getD (y - 1) 0))) → ar 0 s' (s_r s' (b + 88) 4) (nI p) (fun q1 j2 => ar 0 (w_i s' q1 j2 (nI w)) (s_r (w_i s' q1 j2 (nI w)) (b + 88) 5) (nI p) (fun q3 j4 => Q (w_i (w_i (w_i s' q1 j2 (nI w)) q3 j4 (nI c)) (b + 88) 6 (mn ((s_i (w_i (w_i s' q1 j2 (nI w)) q3 j4 (nI c)) (b + 88) 6) + (nI 1)) (nI 12))))) := by
    rintro s' ⟨hch, h6, hlo, hhi⟩
    obtain ⟨a1, a2, a3, a4⟩ := sh s' hch
    refine ar_mk (b + 99) 12 p a3 a1 rfl (by omega) (by decide) (ar_mk (b + 100) 12 p a4 a2 rfl (by omega) (by decide) ?_)
    have e6 : s_i (w_i (w_i s' (b + 99) p (nI w)) (b + 100) p (nI c)) (b + 88) 6 = nI T.length := by
      rw [s_i_wi, if_neg (fun z => by omega), s_i_wi, if_neg (fun z => by omega)]; exact h6
    rw [e6, nI_add, mn_nI (by omega) (by decide)]
    have em : Nat.min (T.length + 1) 12 = min 12 (T.length + 1) := Nat.min_comm _ _
    refine k _ (((hch.wi (Or.inr (Or.inl rfl))).wi (Or.inr (Or.inr rfl))).wi (Or.inl ⟨rfl, rfl⟩)) ⟨?_, fun y hy => ?_⟩
    · rw [s_i_wi, if_pos ⟨rfl, rfl⟩, ins_len hp, em]
    · rw [ins_len hp] at hy
      have hy12 : y < 12 := by omega
      have v99 : ∀ m', s_i (w_i (w_i (w_i s' (b + 99) p (nI w)) (b + 100) p (nI c)) (b + 88) 6 m') (b + 99) y = if y = p then nI w else s_i s' (b + 99) y := fun m' => by
        rw [s_i_wi, if_neg (fun z => by omega), s_i_wi, if_neg (fun z => by omega), s_i_wi]
        by_cases e : y = p
        · rw [if_pos ⟨rfl, e⟩, if_pos e]
        · rw [if_neg (fun z => e z.2), if_neg e]
      have v100 : ∀ m', s_i (w_i (w_i (w_i s' (b + 99) p (nI w)) (b + 100) p (nI c)) (b + 88) 6 m') (b + 100) y = if y = p then nI c else s_i s' (b + 100) y := fun m' => by
        rw [s_i_wi, if_neg (fun z => by omega), s_i_wi]
        by_cases e : y = p
        · rw [if_pos ⟨rfl, e⟩, if_pos e]
        · rw [if_neg (fun z => e z.2), if_neg e, s_i_wi, if_neg (fun z => by omega)]
      rw [ins_get hp hy12, v99, v100]
      by_cases e1 : y < p
      · rw [if_pos e1, if_neg (show ¬ y = p by omega), if_neg (show ¬ y = p by omega)]
        obtain ⟨b1, b2⟩ := hlo y (by omega)
        obtain ⟨c1, c2⟩ := hT2 y (by omega)
        exact ⟨b1.trans c1, b2.trans c2⟩
      · rw [if_neg e1]
        by_cases e2 : y = p
        · rw [if_pos e2, if_pos e2, if_pos e2, hc]
          exact ⟨rfl, rfl⟩
        · rw [if_neg e2, if_neg e2, if_neg e2]
          exact hhi y (by omega) (by omega)
  have key : ∀ (d : Nat) (s' : St), p + d ≤ p0 → (chg (tdI b) no σ s' ∧ s_i s' (b + 88) 6 = nI T.length ∧ (∀ y, y ≤ p + d → s_i s' (b + 99) y = s_i σ (b + 99) y ∧ s_i s' (b + 100) y = s_i σ (b + 100) y) ∧ ∀ y, p + d < y → y ≤ p0 → s_i s' (b + 99) y = nI (T.getD (y - 1) 0) ∧ s_i s' (b + 100) y = nI (f (T.getD (y - 1) 0))) → K19 (nI w) (nI c) (nI (p + d)) s' := by
    intro d
    induction d with
    | zero =>
      intro s' hle hI
      have hput := put s' hI
      obtain ⟨hch, h6, hlo, hhi⟩ := hI
      obtain ⟨a1, a2, a3, a4⟩ := sh s' hch
      refine h19 _ _ _ _ (b_le p 0 rfl nI_0.symm (by omega) (by decide) (fun _ => hput) (fun g => ar_mk (b + 100) 12 (p - 1) a4 a2 (by rw [Nat.add_zero, nI_sub (by omega)]) (by omega) (by decide) ?_))
      have hp1 : p - 1 < T.length := by omega
      rw [(hlo (p - 1) (by omega)).2, (hT2 (p - 1) hp1).2]
      have hfv := hf (T.getD (p - 1) 0)
      exact b_le _ c rfl rfl (by omega) (by omega) (fun _ => hput) (fun g2 => absurd (h1 (p - 1) (by omega)) (by omega))
    | succ d ih =>
      rintro s' hle ⟨hch, h6, hlo, hhi⟩
      obtain ⟨a1, a2, a3, a4⟩ := sh s' hch
      have hx1 : p + d < T.length := by omega
      refine h19 _ _ _ _ (b_le (p + (d + 1)) 0 rfl nI_0.symm (by omega) (by decide) (fun g => absurd g (by omega)) (fun g => ar_mk (b + 100) 12 (p + d) a4 a2 (by rw [nI_sub (by omega)]; rfl) (by omega) (by decide) ?_))
      have v2 := (hlo (p + d) (by omega)).2.trans (hT2 (p + d) hx1).2
      have v1 := (hlo (p + d) (by omega)).1.trans (hT2 (p + d) hx1).1
      rw [v2]
      have hfv := hf (T.getD (p + d) 0)
      have hgt := h2 (p + d) (by omega) hx1
      refine b_le _ c rfl rfl (by omega) (by omega) (fun g2 => absurd hgt (by omega)) (fun g2 => ?_)
      refine ar_mk (b + 99) 12 (p + d) a3 a1 (by rw [nI_sub (by omega)]; rfl) (by omega) (by decide) (ar_mk (b + 99) 12 (p + (d + 1)) a3 a1 rfl (by omega) (by decide) ?_)
      rw [v1]
      have c1 : chg (tdI b) no σ (w_i s' (b + 99) (p + (d + 1)) (nI (T.getD (p + d) 0))) := hch.wi (Or.inr (Or.inl rfl))
      obtain ⟨d1, d2, d3, d4⟩ := sh _ c1
      refine ar_mk (b + 100) 12 (p + d) d4 d2 (by rw [nI_sub (by omega)]; rfl) (by omega) (by decide) (ar_mk (b + 100) 12 (p + (d + 1)) d4 d2 rfl (by omega) (by decide) ?_)
      have v3 : s_i (w_i s' (b + 99) (p + (d + 1)) (nI (T.getD (p + d) 0))) (b + 100) (p + d) = nI (f (T.getD (p + d) 0)) := by
        rw [s_i_wi, if_neg (fun z => by omega)]; exact v2
      rw [v3, nI_m1 (by omega), show p + (d + 1) - 1 = p + d by omega]
      refine ih _ (by omega) ⟨c1.wi (Or.inr (Or.inr rfl)), ?_, fun y hy => ?_, fun y hy1 hy2 => ?_⟩
      · rw [s_i_wi, if_neg (fun z => by omega), s_i_wi, if_neg (fun z => by omega)]; exact h6
      · rw [s_i_wi, if_neg (fun z => by omega), s_i_wi, if_neg (fun z => by omega), s_i_wi, if_neg (fun z => by omega), s_i_wi, if_neg (fun z => by omega)]
        exact hlo y (by omega)
      · have v99 : ∀ m', s_i (w_i (w_i s' (b + 99) (p + (d + 1)) m') (b + 100) (p + (d + 1)) (nI (f (T.getD (p + d) 0)))) (b + 99) y = if y = p + (d + 1) then m' else s_i s' (b + 99) y := fun m' => by
          rw [s_i_wi, if_neg (fun z => by omega), s_i_wi]
          by_cases e : y = p + (d + 1)
          · rw [if_pos ⟨rfl, e⟩, if_pos e]
          · rw [if_neg (fun z => e z.2), if_neg e]
        have v100 : ∀ m', s_i (w_i (w_i s' (b + 99) (p + (d + 1)) m') (b + 100) (p + (d + 1)) (nI (f (T.getD (p + d) 0)))) (b + 100) y = if y = p + (d + 1) then nI (f (T.getD (p + d) 0)) else s_i s' (b + 100) y := fun m' => by
          rw [s_i_wi]
          by_cases e : y = p + (d + 1)
          · rw [if_pos ⟨rfl, e⟩, if_pos e]
          · rw [if_neg (fun z => e z.2), if_neg e, s_i_wi, if_neg (fun z => by omega)]
        rw [v99, v100]
        by_cases e : y = p + (d + 1)
        · rw [if_pos e, if_pos e, e]
          exact ⟨rfl, rfl⟩
        · rw [if_neg e, if_neg e]
          exact hhi y (by omega) hy2
  have fr : chg (tdI b) no σ σ := chg.rf
  refine b_le 12 T.length rfl hT1 (by decide) (by omega) (fun g => ?_) (fun g => ?_)
  · obtain ⟨d, hd⟩ : ∃ d, 11 = p + d := ⟨11 - p, by omega⟩
    rw [hd]
    exact key d σ (by omega) ⟨fr, hT1, fun y _ => ⟨rfl, rfl⟩, fun y h3 h4 => absurd h4 (by omega)⟩
  · obtain ⟨d, hd⟩ : ∃ d, T.length = p + d := ⟨T.length - p, by omega⟩
    have hT1' : s_i σ (b + 88) 6 = nI (p + d) := by rw [hT1, hd]
    rw [hT1']
    exact key d σ (by omega) ⟨fr, hT1, fun y _ => ⟨rfl, rfl⟩, fun y h3 h4 => absurd h4 (by omega)⟩
