/-! Texts: what stays true while one is read. -/
def nt : List Bool → Nat
  | [] => 0
  | b :: r => (if b then 1 else 0) + nt r
theorem nt_le : ∀ l : List Bool, nt l ≤ l.length
  | [] => Nat.le_refl _
  | b :: r => by
    have := nt_le r
    simp only [nt, List.length_cons]
    split <;> omega
theorem hg_app : ∀ (l : List Nat) (h : Nat) (r : List Nat), hg h (l ++ r) = (hg h l).bind (fun t => hg t r)
  | [], h, r => rfl
  | s :: l, h, r => by
    simp only [List.cons_append, hg]
    split
    · split
      · exact hg_app l _ r
      · rfl
    · split
      · exact hg_app l _ r
      · rfl
theorem hg_letter {l : List Nat} {t v : Nat} (h : hg 0 l = some t) (ht : t < 5) (hv : v < 3) : hg 0 (l ++ [v]) = some (t + 1) := by
  rw [hg_app, h]
  simp [hg, hv, ht]
theorem hg_put {l : List Nat} {t : Nat} (h : hg 0 l = some (t + 1)) (ht : 1 ≤ t) : hg 0 (l ++ [3]) = some t := by
  rw [hg_app, h]
  simp [hg]
  omega
theorem epart_ok {cur : List Nat} {bg : List Bool} (h : hg 0 cur = some (nt bg + 1)) (hb : bg ≠ []) : hg 0 (epart cur bg).1 = some (nt (epart cur bg).2) ∧ (epart cur bg).2.length = bg.length ∧ (epart cur bg).1.length + nt (epart cur bg).2 = cur.length + nt bg + 1 ∧ 1 ≤ nt (epart cur bg).2 := by
  match bg, hb, h with
  | true :: r, _, h =>
    have e : nt (true :: r) = 1 + nt r := by simp [nt]
    simp only [epart]
    refine ⟨hg_put h (by omega), trivial, ?_, by omega⟩
    simp; omega
  | false :: r, _, h =>
    have e : nt (true :: r) = 1 + nt r := by simp [nt]
    have e2 : nt (false :: r) = nt r := by simp [nt]
    simp only [epart]
    refine ⟨by rw [h, e, e2, Nat.add_comm], by simp, by rw [e, e2]; omega, by omega⟩
def PG (s : Ps) (i : Nat) : Prop :=
  s.2.2.2.2.1 ≤ 8 ∧ (1 ≤ s.2.2.2.2.2.length ∧ s.2.2.2.2.2.length ≤ 4) ∧ hg 0 s.2.2.2.1 = some (nt s.2.2.2.2.2) ∧ s.2.2.2.1.length + nt s.2.2.2.2.2 = 2 * s.2.2.2.2.1 ∧ (1 ≤ s.2.2.2.2.1 → 1 ≤ nt s.2.2.2.2.2) ∧ (∀ w ∈ s.1, okL w) ∧ (s.2.1 = true → okE s.2.2.1) ∧ 4 * s.1.length + (if s.2.1 then 2 else 0) + (if s.2.2.2.2.1 = 0 then 0 else 1) ≤ i
theorem PG.cur {s : Ps} {i : Nat} (h : PG s i) : s.2.2.2.1.length ≤ 15 := by
  obtain ⟨h1, h2, h3, h4, h5, -⟩ := h
  by_cases e : s.2.2.2.2.1 = 0
  · omega
  · have := h5 (by omega); omega
theorem PG.okE {s : Ps} {i : Nat} (h : PG s i) (e : s.2.2.2.2.2 = [true]) : okE s.2.2.2.1 := ⟨by have := h.2.2.1; rw [e] at this; exact this, h.cur⟩
theorem PG0 : PG pinit 0 := by
  refine ⟨by decide, by decide, rfl, rfl, ?_, ?_, ?_, by decide⟩
  · intro h; exact absurd h (by decide)
  · intro w hw; simp [pinit] at hw
  · intro h; cases h
theorem PG.letter {s : Ps} {i ch : Nat} (h : PG s i) (h1 : 120 ≤ ch ∧ ch ≤ 122) (h8 : s.2.2.2.2.1 < 8) : PG (s.1, s.2.1, s.2.2.1, (epart (s.2.2.2.1 ++ [ch - 120]) s.2.2.2.2.2).1, s.2.2.2.2.1 + 1, (epart (s.2.2.2.1 ++ [ch - 120]) s.2.2.2.2.2).2) (i + 1) := by
  obtain ⟨g1, g2, g3, g4, g5, g6, g7, g8⟩ := h
  have hn := nt_le s.2.2.2.2.2
  have hb : s.2.2.2.2.2 ≠ [] := fun z => by rw [z] at g2; simp at g2
  obtain ⟨q1, q2, q3, q4⟩ := epart_ok (hg_letter (v := ch - 120) g3 (by omega) (by omega)) hb
  refine ⟨by show _ + 1 ≤ 8; omega, ?_, q1, ?_, fun _ => q4, g6, g7, ?_⟩
  · show 1 ≤ (epart _ _).2.length ∧ (epart _ _).2.length ≤ 4
    rw [q2]; exact g2
  · show (epart _ _).1.length + nt (epart _ _).2 = 2 * (_ + 1)
    rw [q3]; simp; omega
  · show 4 * s.1.length + (if s.2.1 then 2 else 0) + (if s.2.2.2.2.1 + 1 = 0 then 0 else 1) ≤ i + 1
    rw [if_neg (Nat.succ_ne_zero _)]
    have : 4 * s.1.length + (if s.2.1 then 2 else 0) ≤ i := Nat.le_trans (Nat.le_add_right _ _) g8
    omega
theorem PG.opens {s : Ps} {i : Nat} (h : PG s i) (h4 : s.2.2.2.2.2.length < 4) : PG (s.1, s.2.1, s.2.2.1, s.2.2.2.1, s.2.2.2.2.1, false :: s.2.2.2.2.2) (i + 1) := by
  obtain ⟨g1, g2, g3, g4, g5, g6, g7, g8⟩ := h
  have e2 : nt (false :: s.2.2.2.2.2) = nt s.2.2.2.2.2 := by simp [nt]
  refine ⟨g1, ?_, ?_, ?_, ?_, g6, g7, Nat.le_succ_of_le g8⟩
  · simp; omega
  · show hg 0 s.2.2.2.1 = some (nt (false :: _))
    rw [e2]; exact g3
  · show _ + nt (false :: _) = _
    rw [e2]; exact g4
  · show _ → 1 ≤ nt (false :: _)
    rw [e2]; exact g5
theorem PG.closes {s : Ps} {i : Nat} {b2 : Bool} {r : List Bool} (h : PG s i) (hb : s.2.2.2.2.2 = true :: b2 :: r) : PG (s.1, s.2.1, s.2.2.1, (epart s.2.2.2.1 (b2 :: r)).1, s.2.2.2.2.1, (epart s.2.2.2.1 (b2 :: r)).2) (i + 1) := by
  obtain ⟨g1, g2, g3, g4, g5, g6, g7, g8⟩ := h
  rw [hb] at g2 g3 g4 g5
  have e : nt (true :: b2 :: r) = nt (b2 :: r) + 1 := by
    simp only [nt, if_true]
    rw [Nat.add_comm]
  rw [e] at g3 g4
  obtain ⟨q1, q2, q3, q4⟩ := epart_ok g3 (by simp)
  refine ⟨g1, ?_, q1, ?_, fun _ => q4, g6, g7, Nat.le_succ_of_le g8⟩
  · show 1 ≤ (epart _ _).2.length ∧ (epart _ _).2.length ≤ 4
    rw [q2]
    simp only [List.length_cons] at g2 ⊢
    omega
  · show (epart _ _).1.length + nt (epart _ _).2 = 2 * _
    rw [q3]; omega
theorem PG.one {s : Ps} {i : Nat} (h : PG s i) (hb : s.2.2.2.2.2 = [true]) : s.2.2.2.2.1 ≠ 0 := by
  intro z
  have := h.2.2.2.1
  rw [hb, z] at this
  simp [nt] at this
theorem PG.equals {s : Ps} {i : Nat} (h : PG s i) (hr : s.2.1 = false) (hb : s.2.2.2.2.2 = [true]) : PG (s.1, true, s.2.2.2.1, [], 0, [false]) (i + 1) := by
  have h1 := h.one hb
  have hk := h.okE hb
  obtain ⟨g1, g2, g3, g4, g5, g6, g7, g8⟩ := h
  refine ⟨Nat.zero_le _, ⟨Nat.le_refl 1, (by decide : (1 : Nat) ≤ 4)⟩, rfl, rfl, fun z => absurd z (Nat.not_succ_le_zero 0), g6, fun _ => hk, ?_⟩
  rw [hr, if_neg h1] at g8
  show 4 * s.1.length + 2 + 0 ≤ i + 1
  simp at g8
  omega
theorem PG.okL {s : Ps} {i : Nat} (h : PG s i) (hr : s.2.1 = true) (hb : s.2.2.2.2.2 = [true]) : ∀ w ∈ s.1 ++ [(s.2.2.1, s.2.2.2.1)], okL w := by
  intro w hw
  rcases List.mem_append.mp hw with g | g
  · exact h.2.2.2.2.2.1 w g
  · have : w = (s.2.2.1, s.2.2.2.1) := by simpa using g
    subst this
    exact ⟨h.2.2.2.2.2.2.1 hr, h.okE hb⟩
theorem PG.next {s : Ps} {i : Nat} (h : PG s i) (hr : s.2.1 = true) (hb : s.2.2.2.2.2 = [true]) : PG (s.1 ++ [(s.2.2.1, s.2.2.2.1)], false, [], [], 0, [false]) (i + 1) := by
  have h1 := h.one hb
  have hk := h.okL hr hb
  obtain ⟨g1, g2, g3, g4, g5, g6, g7, g8⟩ := h
  refine ⟨Nat.zero_le _, ⟨Nat.le_refl 1, (by decide : (1 : Nat) ≤ 4)⟩, rfl, rfl, fun z => absurd z (Nat.not_succ_le_zero 0), hk, fun z => Bool.noConfusion z, ?_⟩
  rw [hr, if_neg h1] at g8
  simp at g8 ⊢
  omega
/-- a character in a side -/
def tis (s : Ps) (ch : Nat) : Option Ps :=
  if 120 ≤ ch ∧ ch ≤ 122 then (if s.2.2.2.2.1 < 8 then some (s.1, s.2.1, s.2.2.1, (epart (s.2.2.2.1 ++ [ch - 120]) s.2.2.2.2.2).1, s.2.2.2.2.1 + 1, (epart (s.2.2.2.1 ++ [ch - 120]) s.2.2.2.2.2).2) else none)
  else if ch = 40 then (if s.2.2.2.2.2.length < 4 then some (s.1, s.2.1, s.2.2.1, s.2.2.2.1, s.2.2.2.2.1, false :: s.2.2.2.2.2) else none)
  else if ch = 41 then (match s.2.2.2.2.2 with
    | true :: b2 :: r => some (s.1, s.2.1, s.2.2.1, (epart s.2.2.2.1 (b2 :: r)).1, s.2.2.2.2.1, (epart s.2.2.2.1 (b2 :: r)).2)
    | _ => none)
  else none
theorem pstep_eq {s : Ps} (hr : s.2.1 = false) (hb : s.2.2.2.2.2 = [true]) : pstep s 61 = some (s.1, true, s.2.2.2.1, [], 0, [false]) := by
  simp [pstep, hr, hb]
theorem pstep_sc {s : Ps} (hr : s.2.1 = true) (hb : s.2.2.2.2.2 = [true]) : pstep s 59 = some (s.1 ++ [(s.2.2.1, s.2.2.2.1)], false, [], [], 0, [false]) := by
  simp [pstep, hr, hb]
theorem pstep_tis {s : Ps} {ch : Nat} (h1 : ¬ (ch = 61 ∧ s.2.1 = false ∧ s.2.2.2.2.2 = [true])) (h2 : ¬ (ch = 59 ∧ s.2.1 = true ∧ s.2.2.2.2.2 = [true])) : pstep s ch = tis s ch := by
  unfold pstep tis
  by_cases a : 120 ≤ ch ∧ ch ≤ 122
  · rw [if_pos a, if_pos a]
  · rw [if_neg a, if_neg a]
    by_cases b : ch = 40
    · rw [if_pos b, if_pos b]
    · rw [if_neg b, if_neg b]
      by_cases c : ch = 41
      · rw [if_pos c, if_pos c]
        generalize s.2.2.2.2.2 = bg
        rcases bg with _ | ⟨_ | _, _ | ⟨_, _⟩⟩ <;> rfl
      · rw [if_neg c, if_neg c]
        by_cases d : ch = 61
        · rw [if_pos d, if_neg (fun z => h1 ⟨d, z⟩)]
        · rw [if_neg d]
          by_cases f : ch = 59
          · rw [if_pos f, if_neg (fun z => h2 ⟨f, z⟩)]
          · rw [if_neg f]
theorem tis_PG {s s' : Ps} {i ch : Nat} (h : PG s i) (e : tis s ch = some s') : PG s' (i + 1) := by
  unfold tis at e
  by_cases a : 120 ≤ ch ∧ ch ≤ 122
  · rw [if_pos a] at e
    by_cases b : s.2.2.2.2.1 < 8
    · rw [if_pos b] at e
      cases e
      exact h.letter a b
    · rw [if_neg b] at e; cases e
  · rw [if_neg a] at e
    by_cases b : ch = 40
    · rw [if_pos b] at e
      by_cases c : s.2.2.2.2.2.length < 4
      · rw [if_pos c] at e
        cases e
        exact h.opens c
      · rw [if_neg c] at e; cases e
    · rw [if_neg b] at e
      by_cases c : ch = 41
      · rw [if_pos c] at e
        split at e
        · rename_i b2 r hb
          cases e
          exact h.closes hb
        · cases e
      · rw [if_neg c] at e; cases e
theorem pstep_PG {s s' : Ps} {i ch : Nat} (h : PG s i) (e : pstep s ch = some s') : PG s' (i + 1) := by
  by_cases h1 : ch = 61 ∧ s.2.1 = false ∧ s.2.2.2.2.2 = [true]
  · rw [h1.1, pstep_eq h1.2.1 h1.2.2] at e
    cases e
    exact h.equals h1.2.1 h1.2.2
  · by_cases h2 : ch = 59 ∧ s.2.1 = true ∧ s.2.2.2.2.2 = [true]
    · rw [h2.1, pstep_sc h2.2.1 h2.2.2] at e
      cases e
      exact h.next h2.2.1 h2.2.2
    · rw [pstep_tis h1 h2] at e
      exact tis_PG h e
theorem prun_PG : ∀ {l : List Nat} {s s' : Ps} {i : Nat}, PG s i → prun s i l = .inr s' → PG s' (i + l.length)
  | [], s, s', i, h, e => by
    cases e
    exact h
  | ch :: l, s, s', i, h, e => by
    rw [prun] at e
    cases ep : pstep s ch with
    | none => rw [ep] at e; cases e
    | some s2 =>
      rw [ep] at e
      have := prun_PG (pstep_PG h ep) e
      rw [List.length_cons, Nat.add_comm l.length, ← Nat.add_assoc]
      exact this
def pfin (len : Nat) (x : Nat ⊕ Ps) : Nat ⊕ List Lw := match x with
  | .inl i => .inl i
  | .inr s => if s.2.1 = true ∧ s.2.2.2.2.2 = [true] then .inr (s.1 ++ [(s.2.2.1, s.2.2.2.1)]) else .inl len
theorem parse_eq (t : List Nat) : parse t = pfin t.length (prun pinit 0 t) := rfl
theorem parse_ok {t : List Nat} {L : List Lw} (h : parse t = .inr L) : (∀ w ∈ L, okL w) ∧ 4 * L.length ≤ t.length + 1 ∧ 1 ≤ L.length := by
  rw [parse_eq] at h
  cases e : prun pinit 0 t with
  | inl i => rw [e] at h; cases h
  | inr s =>
    rw [e] at h
    unfold pfin at h
    have hp := prun_PG PG0 e
    rw [Nat.zero_add] at hp
    simp only at h
    split at h
    · rename_i hc
      cases h
      refine ⟨hp.okL hc.1 hc.2, ?_, by simp⟩
      have h1 := hp.one hc.2
      have := hp.2.2.2.2.2.2.2
      rw [hc.1, if_neg h1] at this
      simp at this ⊢
      omega
    · cases h
theorem parse_lt {t : List Nat} {i : Nat} : parse t = .inl i → i ≤ t.length := by
  rw [parse_eq]
  have key : ∀ (l : List Nat) (s : Ps) (j : Nat), pfin (j + l.length) (prun s j l) = .inl i → i ≤ j + l.length := by
    intro l
    induction l with
    | nil =>
      intro s j h
      unfold prun pfin at h
      simp only at h
      split at h
      · cases h
      · cases h; exact Nat.le_refl _
    | cons ch l ih =>
      intro s j h
      rw [prun] at h
      cases ep : pstep s ch with
      | none =>
        rw [ep] at h
        cases h
        omega
      | some s2 =>
        rw [ep] at h
        simp only [List.length_cons] at h ⊢
        rw [show j + (l.length + 1) = j + 1 + l.length by omega] at h ⊢
        exact ih s2 (j + 1) h
  intro h
  have := key t pinit 0 (by simpa using h)
  omega
