/-! the pictures of the methods: what a run of each comes to, out of its bytecode; written by wip/gen/wp.py -/
def P_S_init (b : Nat) (σ : St) (mc : Nat) (ms : Nat) (Q : St → Prop) : Prop :=
  s_s σ b = some (.inl 1) ∧ (0 + 1 ≤ mc ∧ 0 + 5 ≤ ms ∧ nw σ (.inr (5, 5)) (fun q1 σ2 => 0 + 1 + 1 ≤ mc ∧ 0 + 5 + 5 ≤ ms ∧ nw (w_r σ2 b 0 (some q1)) (.inr (1, 5)) (fun q3 σ4 => Q (w_i (w_r σ4 b 1 (some q3)) b 3 (nI 2)))))
abbrev rm_S_init (mc ms : Nat) : Room := { frames := 1, cells := mc, slots := ms, locals := 12 }

def P_H_init (b : Nat) (σ : St) (mc : Nat) (ms : Nat) (Q : St → Prop) : Prop :=
  s_s σ b = some (.inl 2) ∧ (0 + 1 ≤ mc ∧ 0 + 4 ≤ ms ∧ nw σ (.inr (6, 4)) (fun q1 σ2 => 0 + 1 + 1 ≤ mc ∧ 0 + 4 + 5 ≤ ms ∧ nw σ2 (.inl 1) (fun q3 σ4 => ∃ c5 d6, 0 + 1 + 1 + c5 ≤ mc ∧ 0 + 4 + 5 + d6 ≤ ms ∧ (P_S_init q3 σ4 c5 d6 (fun σ7 => ar 6 σ7 (some q1) (nI 0) (fun q8 j9 => (∀ y, some q3 = some y → s_s σ7 y = some (.inl (cix 6))) ∧ (0 + 1 + 1 + c5 + 1 ≤ mc ∧ 0 + 4 + 5 + d6 + 5 ≤ ms ∧ nw (w_r σ7 q8 j9 (some q3)) (.inl 1) (fun q10 σ11 => ∃ c12 d13, 0 + 1 + 1 + c5 + 1 + c12 ≤ mc ∧ 0 + 4 + 5 + d6 + 5 + d13 ≤ ms ∧ (P_S_init q10 σ11 c12 d13 (fun σ14 => ar 6 σ14 (some q1) (nI 1) (fun q15 j16 => (∀ y, some q10 = some y → s_s σ14 y = some (.inl (cix 6))) ∧ (0 + 1 + 1 + c5 + 1 + c12 + 1 ≤ mc ∧ 0 + 4 + 5 + d6 + 5 + d13 + 5 ≤ ms ∧ nw (w_r σ14 q15 j16 (some q10)) (.inl 1) (fun q17 σ18 => ∃ c19 d20, 0 + 1 + 1 + c5 + 1 + c12 + 1 + c19 ≤ mc ∧ 0 + 4 + 5 + d6 + 5 + d13 + 5 + d20 ≤ ms ∧ (P_S_init q17 σ18 c19 d20 (fun σ21 => ar 6 σ21 (some q1) (nI 2) (fun q22 j23 => (∀ y, some q17 = some y → s_s σ21 y = some (.inl (cix 6))) ∧ (0 + 1 + 1 + c5 + 1 + c12 + 1 + c19 + 1 ≤ mc ∧ 0 + 4 + 5 + d6 + 5 + d13 + 5 + d20 + 5 ≤ ms ∧ nw (w_r σ21 q22 j23 (some q17)) (.inl 1) (fun q24 σ25 => ∃ c26 d27, 0 + 1 + 1 + c5 + 1 + c12 + 1 + c19 + 1 + c26 ≤ mc ∧ 0 + 4 + 5 + d6 + 5 + d13 + 5 + d20 + 5 + d27 ≤ ms ∧ (P_S_init q24 σ25 c26 d27 (fun σ28 => ar 6 σ28 (some q1) (nI 3) (fun q29 j30 => (∀ y, some q24 = some y → s_s σ28 y = some (.inl (cix 6))) ∧ (0 + 1 + 1 + c5 + 1 + c12 + 1 + c19 + 1 + c26 + 1 ≤ mc ∧ 0 + 4 + 5 + d6 + 5 + d13 + 5 + d20 + 5 + d27 + 5 ≤ ms ∧ nw (w_r (w_r σ28 q29 j30 (some q24)) b 0 (some q1)) (.inl 1) (fun q31 σ32 => ∃ c33 d34, 0 + 1 + 1 + c5 + 1 + c12 + 1 + c19 + 1 + c26 + 1 + c33 ≤ mc ∧ 0 + 4 + 5 + d6 + 5 + d13 + 5 + d20 + 5 + d27 + 5 + d34 ≤ ms ∧ (P_S_init q31 σ32 c33 d34 (fun σ35 => Q (w_r σ35 b 1 (some q31)))))))))))))))))))))))))))
abbrev rm_H_init (mc ms : Nat) : Room := { frames := 2, cells := mc, slots := ms, locals := 32 }

def P_L_init (b : Nat) (σ : St) (mc : Nat) (ms : Nat) (Q : St → Prop) : Prop :=
  s_s σ b = some (.inl 4) ∧ (0 + 1 ≤ mc ∧ 0 + 30 ≤ ms ∧ nw σ (.inr (0, 30)) (fun q1 σ2 => Q (w_r σ2 b 0 (some q1))))
abbrev rm_L_init (mc ms : Nat) : Room := { frames := 1, cells := mc, slots := ms, locals := 12 }

def P_F_init (b : Nat) (σ : St) (mc : Nat) (ms : Nat) (Q : St → Prop) : Prop :=
  s_s σ b = some (.inl 3) ∧ ∀ (K15 : Int32 → St → Nat → Nat → Prop),
    (∀ (x1 : Int32) (σ : St) (ca : Nat) (cb : Nat), (((nI 30) ≤ x1 → Q σ) ∧ (¬ (nI 30) ≤ x1 → ca + 1 ≤ mc ∧ cb + 6 ≤ ms ∧ nw σ (.inl 4) (fun q1 σ2 => ∃ c3 d4, ca + 1 + c3 ≤ mc ∧ cb + 6 + d4 ≤ ms ∧ (P_L_init q1 σ2 c3 d4 (fun σ5 => ar 5 σ5 (s_r σ b 0) x1 (fun q6 j7 => (∀ y, some q1 = some y → s_s σ5 y = some (.inl (cix 5))) ∧ (K15 (x1 + nI 1) (w_r σ5 q6 j7 (some q1)) (ca + 1 + c3) (cb + 6 + d4)))))))) → K15 x1 σ ca cb) →
    (0 + 1 ≤ mc ∧ 0 + 30 ≤ ms ∧ nw σ (.inr (5, 30)) (fun q8 σ9 => K15 (nI 0) (w_r σ9 b 0 (some q8)) (0 + 1) (0 + 30)))
abbrev rm_F_init (mc ms : Nat) : Room := { frames := 2, cells := mc, slots := ms, locals := 32 }

def P_B_init (b : Nat) (σ : St) (mc : Nat) (ms : Nat) (Q : St → Prop) : Prop :=
  s_s σ b = some (.inl 5) ∧ (0 + 1 ≤ mc ∧ 0 + 9 ≤ ms ∧ nw σ (.inr (0, 9)) (fun q1 σ2 => 0 + 1 + 1 ≤ mc ∧ 0 + 9 + 9 ≤ ms ∧ nw (w_r σ2 b 0 (some q1)) (.inr (0, 9)) (fun q3 σ4 => 0 + 1 + 1 + 1 ≤ mc ∧ 0 + 9 + 9 + 18 ≤ ms ∧ nw (w_r σ4 b 1 (some q3)) (.inr (0, 18)) (fun q5 σ6 => 0 + 1 + 1 + 1 + 1 ≤ mc ∧ 0 + 9 + 9 + 18 + 3 ≤ ms ∧ nw (w_r σ6 b 2 (some q5)) (.inr (0, 3)) (fun q7 σ8 => Q (w_r σ8 b 3 (some q7)))))))
abbrev rm_B_init (mc ms : Nat) : Room := { frames := 1, cells := mc, slots := ms, locals := 12 }

def P_P_init (b : Nat) (σ : St) (mc : Nat) (ms : Nat) (Q : St → Prop) : Prop :=
  s_s σ b = some (.inl 7) ∧ (0 + 1 ≤ mc ∧ 0 + 3341 ≤ ms ∧ nw σ (.inr (0, 3341)) (fun q1 σ2 => 0 + 1 + 1 ≤ mc ∧ 0 + 3341 + 3341 ≤ ms ∧ nw (w_r σ2 b 0 (some q1)) (.inr (2, 3341)) (fun q3 σ4 => 0 + 1 + 1 + 1 ≤ mc ∧ 0 + 3341 + 3341 + 5 ≤ ms ∧ nw (w_r σ4 b 1 (some q3)) (.inr (0, 5)) (fun q5 σ6 => Q (w_r σ6 b 2 (some q5))))))
abbrev rm_P_init (mc ms : Nat) : Room := { frames := 1, cells := mc, slots := ms, locals := 12 }

def P_E_init (b : Nat) (σ : St) (mc : Nat) (ms : Nat) (Q : St → Prop) : Prop :=
  s_s σ b = some (.inl 6) ∧ (0 + 1 ≤ mc ∧ 0 + 5 ≤ ms ∧ nw σ (.inl 5) (fun q1 σ2 => ∃ c3 d4, 0 + 1 + c3 ≤ mc ∧ 0 + 5 + d4 ≤ ms ∧ (P_B_init q1 σ2 c3 d4 (fun σ5 => 0 + 1 + c3 + 1 ≤ mc ∧ 0 + 5 + d4 + 4 ≤ ms ∧ nw (w_r σ5 b 0 (some q1)) (.inl 7) (fun q6 σ7 => ∃ c8 d9, 0 + 1 + c3 + 1 + c8 ≤ mc ∧ 0 + 5 + d4 + 4 + d9 ≤ ms ∧ (P_P_init q6 σ7 c8 d9 (fun σ10 => 0 + 1 + c3 + 1 + c8 + 1 ≤ mc ∧ 0 + 5 + d4 + 4 + d9 + 5 ≤ ms ∧ nw (w_r σ10 b 1 (some q6)) (.inr (5, 5)) (fun q11 σ12 => 0 + 1 + c3 + 1 + c8 + 1 + 1 ≤ mc ∧ 0 + 5 + d4 + 4 + d9 + 5 + 12 ≤ ms ∧ nw (w_r σ12 b 2 (some q11)) (.inr (0, 12)) (fun q13 σ14 => 0 + 1 + c3 + 1 + c8 + 1 + 1 + 1 ≤ mc ∧ 0 + 5 + d4 + 4 + d9 + 5 + 12 + 12 ≤ ms ∧ nw (w_r σ14 b 4 (some q13)) (.inr (0, 12)) (fun q15 σ16 => Q (w_r σ16 b 5 (some q15))))))))))))
abbrev rm_E_init (mc ms : Nat) : Room := { frames := 2, cells := mc, slots := ms, locals := 32 }

def P_D_init (b : Nat) (σ : St) (mc : Nat) (ms : Nat) (Q : St → Prop) : Prop :=
  s_s σ b = some (.inl 8) ∧ (0 + 1 ≤ mc ∧ 0 + 120 ≤ ms ∧ nw σ (.inr (0, 120)) (fun q1 σ2 => 0 + 1 + 1 ≤ mc ∧ 0 + 120 + 60 ≤ ms ∧ nw (w_r σ2 b 0 (some q1)) (.inr (0, 60)) (fun q3 σ4 => 0 + 1 + 1 + 1 ≤ mc ∧ 0 + 120 + 60 + 4 ≤ ms ∧ nw (w_r σ4 b 2 (some q3)) (.inr (1, 4)) (fun q5 σ6 => Q (w_r σ6 b 3 (some q5))))))
abbrev rm_D_init (mc ms : Nat) : Room := { frames := 1, cells := mc, slots := ms, locals := 12 }

def P_X_init (b : Nat) (σ : St) (mc : Nat) (ms : Nat) (Q : St → Prop) : Prop :=
  s_s σ b = some (.inl 0) ∧ (0 + 1 ≤ mc ∧ 0 + 5 ≤ ms ∧ nw σ (.inl 1) (fun q1 σ2 => ∃ c3 d4, 0 + 1 + c3 ≤ mc ∧ 0 + 5 + d4 ≤ ms ∧ (P_S_init q1 σ2 c3 d4 (fun σ5 => 0 + 1 + c3 + 1 ≤ mc ∧ 0 + 5 + d4 + 4 ≤ ms ∧ nw (w_r σ5 b 0 (some q1)) (.inl 2) (fun q6 σ7 => ∃ c8 d9, 0 + 1 + c3 + 1 + c8 ≤ mc ∧ 0 + 5 + d4 + 4 + d9 ≤ ms ∧ (P_H_init q6 σ7 c8 d9 (fun σ10 => 0 + 1 + c3 + 1 + c8 + 1 ≤ mc ∧ 0 + 5 + d4 + 4 + d9 + 1 ≤ ms ∧ nw (w_r σ10 b 1 (some q6)) (.inl 3) (fun q11 σ12 => ∃ c13 d14, 0 + 1 + c3 + 1 + c8 + 1 + c13 ≤ mc ∧ 0 + 5 + d4 + 4 + d9 + 1 + d14 ≤ ms ∧ (P_F_init q11 σ12 c13 d14 (fun σ15 => 0 + 1 + c3 + 1 + c8 + 1 + c13 + 1 ≤ mc ∧ 0 + 5 + d4 + 4 + d9 + 1 + d14 + 5 ≤ ms ∧ nw (w_r σ15 b 2 (some q11)) (.inl 5) (fun q16 σ17 => ∃ c18 d19, 0 + 1 + c3 + 1 + c8 + 1 + c13 + 1 + c18 ≤ mc ∧ 0 + 5 + d4 + 4 + d9 + 1 + d14 + 5 + d19 ≤ ms ∧ (P_B_init q16 σ17 c18 d19 (fun σ20 => 0 + 1 + c3 + 1 + c8 + 1 + c13 + 1 + c18 + 1 ≤ mc ∧ 0 + 5 + d4 + 4 + d9 + 1 + d14 + 5 + d19 + 7 ≤ ms ∧ nw (w_r σ20 b 3 (some q16)) (.inl 6) (fun q21 σ22 => ∃ c23 d24, 0 + 1 + c3 + 1 + c8 + 1 + c13 + 1 + c18 + 1 + c23 ≤ mc ∧ 0 + 5 + d4 + 4 + d9 + 1 + d14 + 5 + d19 + 7 + d24 ≤ ms ∧ (P_E_init q21 σ22 c23 d24 (fun σ25 => 0 + 1 + c3 + 1 + c8 + 1 + c13 + 1 + c18 + 1 + c23 + 1 ≤ mc ∧ 0 + 5 + d4 + 4 + d9 + 1 + d14 + 5 + d19 + 7 + d24 + 8 ≤ ms ∧ nw (w_r σ25 b 4 (some q21)) (.inl 8) (fun q26 σ27 => ∃ c28 d29, 0 + 1 + c3 + 1 + c8 + 1 + c13 + 1 + c18 + 1 + c23 + 1 + c28 ≤ mc ∧ 0 + 5 + d4 + 4 + d9 + 1 + d14 + 5 + d19 + 7 + d24 + 8 + d29 ≤ ms ∧ (P_D_init q26 σ27 c28 d29 (fun σ30 => 0 + 1 + c3 + 1 + c8 + 1 + c13 + 1 + c18 + 1 + c23 + 1 + c28 + 1 ≤ mc ∧ 0 + 5 + d4 + 4 + d9 + 1 + d14 + 5 + d19 + 7 + d24 + 8 + d29 + 60 ≤ ms ∧ nw (w_r σ30 b 5 (some q26)) (.inr (3, 60)) (fun q31 σ32 => Q (w_r σ32 b 6 (some q31))))))))))))))))))))))
abbrev rm_X_init (mc ms : Nat) : Room := { frames := 3, cells := mc, slots := ms, locals := 53 }

def P_C_isSize (x0 : Int32) (σ : St) (Q : Int32 → St → Prop) : Prop :=
  ((x0 < (nI 1) → Q (nI 0) σ) ∧ (¬ x0 < (nI 1) → ((nI 3) < x0 → Q (nI 0) σ) ∧ (¬ (nI 3) < x0 → Q (nI 1) σ)))
abbrev rm_C_isSize : Room := { frames := 0, cells := 0, slots := 0, locals := 0 }

def P_C_worldCount (x0 : Int32) (σ : St) (Q : Int32 → St → Prop) : Prop :=
  ((x0 = (nI 3) → Q (nI 19683) σ) ∧ (¬ x0 = (nI 3) → (x0 = (nI 2) → Q (nI 16) σ) ∧ (¬ x0 = (nI 2) → Q (nI 1) σ)))
abbrev rm_C_worldCount : Room := { frames := 0, cells := 0, slots := 0, locals := 0 }

def P_C_isCode (x0 : Int32) (x1 : Int32) (σ : St) (Q : Int32 → St → Prop) : Prop :=
  (P_C_isSize x0 σ (fun r2 σ1 => (r2 = 0 → Q (nI 0) σ1) ∧ (¬ r2 = 0 → (x1 < 0 → Q (nI 0) σ1) ∧ (¬ x1 < 0 → P_C_worldCount x0 σ1 (fun r4 σ3 => (r4 ≤ x1 → Q (nI 0) σ3) ∧ (¬ r4 ≤ x1 → Q (nI 1) σ3))))))
abbrev rm_C_isCode : Room := { frames := 1, cells := 0, slots := 0, locals := 20 }

def P_H_dropOldest (b : Nat) (σ : St) (Q : St → Prop) : Prop :=
  s_s σ b = some (.inl 2) ∧ ∀ (K9 : Option Nat → Int32 → St → Prop),
    (∀ (o1 : Option Nat) (x2 : Int32) (σ : St), (((nI 4) ≤ x2 → ar 6 σ (s_r σ b 0) (nI 3) (fun q1 j2 => (∀ y, o1 = some y → s_s σ y = some (.inl (cix 6))) ∧ (Q (w_i (w_r σ q1 j2 o1) b 2 ((s_i (w_r σ q1 j2 o1) b 2) - (nI 1)))))) ∧ (¬ (nI 4) ≤ x2 → ar 6 σ (s_r σ b 0) x2 (fun q3 j4 => ar 6 σ (s_r σ b 0) (x2 - (nI 1)) (fun q5 j6 => (∀ y, s_r σ q3 j4 = some y → s_s σ y = some (.inl (cix 6))) ∧ (K9 o1 (x2 + nI 1) (w_r σ q5 j6 (s_r σ q3 j4))))))) → K9 o1 x2 σ) →
    (ar 6 σ (s_r σ b 0) (nI 0) (fun q7 j8 => K9 (s_r σ q7 j8) (nI 1) σ))
abbrev rm_H_dropOldest : Room := { frames := 0, cells := 0, slots := 0, locals := 0 }

def P_S_copyFrom (b : Nat) (o1 : Option Nat) (σ : St) (Q : St → Prop) : Prop :=
  s_s σ b = some (.inl 1) ∧ ∀ (K26 : Option Nat → Int32 → St → Prop),
    (∀ (o1 : Option Nat) (x2 : Int32) (σ : St), (((nI 5) ≤ x2 → Q σ) ∧ (¬ (nI 5) ≤ x2 → ob 1 σ o1 (fun q1 => ar 5 σ (s_r σ q1 0) x2 (fun q2 j3 => ar 5 σ (s_r σ b 0) x2 (fun q4 j5 => (∀ y, s_r σ q2 j3 = some y → s_s σ y = some (.inl (cix 5))) ∧ (ob 1 (w_r σ q4 j5 (s_r σ q2 j3)) o1 (fun q6 => ar 1 (w_r σ q4 j5 (s_r σ q2 j3)) (s_r (w_r σ q4 j5 (s_r σ q2 j3)) q6 1) x2 (fun q7 j8 => ar 1 (w_r σ q4 j5 (s_r σ q2 j3)) (s_r (w_r σ q4 j5 (s_r σ q2 j3)) b 1) x2 (fun q9 j10 => K26 o1 (x2 + nI 1) (w_i (w_r σ q4 j5 (s_r σ q2 j3)) q9 j10 (vp_nar .boolean (s_i (w_r σ q4 j5 (s_r σ q2 j3)) q7 j8)))))))))))) → K26 o1 x2 σ) →
    (ob 1 σ o1 (fun q11 => ob 1 (w_i σ b 3 (s_i σ q11 3)) o1 (fun q12 => ob 1 (w_i (w_i σ b 3 (s_i σ q11 3)) b 4 (s_i (w_i σ b 3 (s_i σ q11 3)) q12 4)) o1 (fun q13 => K26 o1 (nI 0) (w_i (w_i (w_i σ b 3 (s_i σ q11 3)) b 4 (s_i (w_i σ b 3 (s_i σ q11 3)) q12 4)) b 2 (s_i (w_i (w_i σ b 3 (s_i σ q11 3)) b 4 (s_i (w_i σ b 3 (s_i σ q11 3)) q12 4)) q13 2))))))
abbrev rm_S_copyFrom : Room := { frames := 0, cells := 0, slots := 0, locals := 0 }

def P_H_record (b : Nat) (o1 : Option Nat) (σ : St) (Q : St → Prop) : Prop :=
  s_s σ b = some (.inl 2) ∧ (((s_i σ b 2) < (nI 4) → ar 6 σ (s_r σ b 0) (s_i σ b 2) (fun q1 j2 => nn (s_r σ q1 j2) (fun q3 => P_S_copyFrom q3 o1 σ (fun σ4 => Q (w_i σ4 b 2 ((s_i σ4 b 2) + (nI 1))))))) ∧ (¬ (s_i σ b 2) < (nI 4) → P_H_dropOldest b σ (fun σ5 => ar 6 σ5 (s_r σ5 b 0) (s_i σ5 b 2) (fun q6 j7 => nn (s_r σ5 q6 j7) (fun q8 => P_S_copyFrom q8 o1 σ5 (fun σ9 => Q (w_i σ9 b 2 ((s_i σ9 b 2) + (nI 1)))))))))
abbrev rm_H_record : Room := { frames := 1, cells := 0, slots := 0, locals := 22 }

def P_X_take (b : Nat) (x1 : Int32) (x2 : Int32) (σ : St) (Q : Int32 → St → Prop) : Prop :=
  s_s σ b = some (.inl 0) ∧ (P_C_isCode x1 x2 σ (fun r2 σ1 => (r2 = 0 → Q (-2) σ1) ∧ (¬ r2 = 0 → ob 1 σ1 (s_r σ1 b 0) (fun q3 => (x1 = (s_i σ1 q3 3) → ob 1 σ1 (s_r σ1 b 0) (fun q9 => (x2 = (s_i σ1 q9 4) → Q (-5) σ1) ∧ (¬ x2 = (s_i σ1 q9 4) → ob 1 σ1 (s_r σ1 b 0) (fun q10 => nn (s_r σ1 b 1) (fun q11 => P_H_record q11 (s_r σ1 b 0) σ1 (fun σ12 => ob 1 σ12 (s_r σ12 b 0) (fun q13 => ob 1 (w_i σ12 q13 3 x1) (s_r (w_i σ12 q13 3 x1) b 0) (fun q14 => Q (s_i σ1 q10 4) (w_i (w_i σ12 q13 3 x1) q14 4 x2))))))))) ∧ (¬ x1 = (s_i σ1 q3 3) → ob 1 σ1 (s_r σ1 b 0) (fun q4 => nn (s_r σ1 b 1) (fun q5 => P_H_record q5 (s_r σ1 b 0) σ1 (fun σ6 => ob 1 σ6 (s_r σ6 b 0) (fun q7 => ob 1 (w_i σ6 q7 3 x1) (s_r (w_i σ6 q7 3 x1) b 0) (fun q8 => Q (s_i σ1 q4 4) (w_i (w_i σ6 q7 3 x1) q8 4 x2)))))))))))
abbrev rm_X_take : Room := { frames := 2, cells := 0, slots := 0, locals := 43 }

def P_X_isThing (b : Nat) (x1 : Int32) (σ : St) (Q : Int32 → St → Prop) : Prop :=
  s_s σ b = some (.inl 0) ∧ ((x1 < 0 → Q (nI 0) σ) ∧ (¬ x1 < 0 → ob 1 σ (s_r σ b 0) (fun q1 => ((s_i σ q1 3) ≤ x1 → Q (nI 0) σ) ∧ (¬ (s_i σ q1 3) ≤ x1 → Q (nI 1) σ))))
abbrev rm_X_isThing : Room := { frames := 0, cells := 0, slots := 0, locals := 0 }

def P_C_power (x0 : Int32) (x1 : Int32) (σ : St) (Q : Int32 → St → Prop) : Prop :=
  ((x1 < 0 → Q (nI 1) σ) ∧ (¬ x1 < 0 → (x1 < (nI 9) → (x0 = (nI 3) → st' 9 x1 (fun j1 => Q (pw3 j1) σ)) ∧ (¬ x0 = (nI 3) → (x0 = (nI 2) → Q (shl (nI 1) x1) σ) ∧ (¬ x0 = (nI 2) → Q (nI 1) σ))) ∧ (¬ x1 < (nI 9) → Q (nI 1) σ)))
abbrev rm_C_power : Room := { frames := 0, cells := 0, slots := 0, locals := 0 }

def P_C_product (x0 : Int32) (x1 : Int32) (x2 : Int32) (x3 : Int32) (σ : St) (Q : Int32 → St → Prop) : Prop :=
  (P_C_isSize x0 σ (fun r2 σ1 => (r2 = 0 → Q (nI 0) σ1) ∧ (¬ r2 = 0 → P_C_power x0 ((x0 * x2) + x3) σ1 (fun r4 σ3 => (r4 = 0 → Q (nI 0) σ3) ∧ (¬ r4 = 0 → ¬ r4 = 0 ∧ (¬ x0 = 0 ∧ (Q (irem (x1 / r4) x0) σ3)))))))
abbrev rm_C_product : Room := { frames := 1, cells := 0, slots := 0, locals := 21 }

def P_X_changeTo (b : Nat) (x1 : Int32) (σ : St) (Q : Int32 → St → Prop) : Prop :=
  s_s σ b = some (.inl 0) ∧ (ob 1 σ (s_r σ b 0) (fun q1 => (x1 = (s_i σ q1 4) → Q (-5) σ) ∧ (¬ x1 = (s_i σ q1 4) → nn (s_r σ b 1) (fun q2 => P_H_record q2 (s_r σ b 0) σ (fun σ3 => ob 1 σ3 (s_r σ3 b 0) (fun q4 => Q x1 (w_i σ3 q4 4 x1)))))))
abbrev rm_X_changeTo : Room := { frames := 2, cells := 0, slots := 0, locals := 43 }

def P_X_put (b : Nat) (x1 : Int32) (x2 : Int32) (x3 : Int32) (σ : St) (Q : Int32 → St → Prop) : Prop :=
  s_s σ b = some (.inl 0) ∧ (P_X_isThing b x1 σ (fun r2 σ1 => (r2 = 0 → Q (-1) σ1) ∧ (¬ r2 = 0 → P_X_isThing b x2 σ1 (fun r4 σ3 => (r4 = 0 → Q (-1) σ3) ∧ (¬ r4 = 0 → P_X_isThing b x3 σ3 (fun r6 σ5 => (r6 = 0 → Q (-1) σ5) ∧ (¬ r6 = 0 → ob 1 σ5 (s_r σ5 b 0) (fun q7 => ob 1 σ5 (s_r σ5 b 0) (fun q8 => P_C_product (s_i σ5 q7 3) (s_i σ5 q8 4) x1 x2 σ5 (fun r10 σ9 => ob 1 σ9 (s_r σ9 b 0) (fun q11 => ob 1 σ9 (s_r σ9 b 0) (fun q12 => ob 1 σ9 (s_r σ9 b 0) (fun q13 => P_C_power (s_i σ9 q12 3) (((s_i σ9 q13 3) * x1) + x2) σ9 (fun r15 σ14 => P_X_changeTo b ((s_i σ9 q11 4) + ((x3 - r10) * r15)) σ14 (fun r17 σ16 => Q r17 σ16)))))))))))))))
abbrev rm_X_put : Room := { frames := 3, cells := 0, slots := 0, locals := 64 }

def P_C_exchange (x0 : Int32) (x1 : Int32) (σ : St) (Q : Int32 → St → Prop) : Prop :=
  (Q (x0 + x1) σ)
abbrev rm_C_exchange : Room := { frames := 0, cells := 0, slots := 0, locals := 0 }

def P_C_newName (x0 : Int32) (x1 : Int32) (σ : St) (Q : Int32 → St → Prop) : Prop :=
  (((((nI 3) * x0) + x1) < 0 → Q x1 σ) ∧ (¬ (((nI 3) * x0) + x1) < 0 → ((nI 18) ≤ (((nI 3) * x0) + x1) → Q x1 σ) ∧ (¬ (nI 18) ≤ (((nI 3) * x0) + x1) → st' 18 (((nI 3) * x0) + x1) (fun j1 => Q (rnm j1) σ))))
abbrev rm_C_newName : Room := { frames := 0, cells := 0, slots := 0, locals := 0 }

def P_C_renamed (x0 : Int32) (x1 : Int32) (x2 : Int32) (σ : St) (Q : Int32 → St → Prop) : Prop :=
  ∀ (K17 : Int32 → Int32 → Int32 → Int32 → Int32 → St → Prop) (K36 : Int32 → Int32 → Int32 → Int32 → Int32 → Int32 → Int32 → St → Prop),
    (∀ (x0 : Int32) (x2 : Int32) (x3 : Int32) (x4 : Int32) (x5 : Int32) (σ : St), ((x0 ≤ x5 → Q x3 σ) ∧ (¬ x0 ≤ x5 → P_C_newName x2 x5 σ (fun r2 σ1 => K36 x0 x2 x3 x4 x5 (x0 * r2) (nI 0) σ1))) → K17 x0 x2 x3 x4 x5 σ) →
    (∀ (x0 : Int32) (x2 : Int32) (x3 : Int32) (x4 : Int32) (x5 : Int32) (x6 : Int32) (x7 : Int32) (σ : St), ((x0 ≤ x7 → K17 x0 x2 x3 x4 (x5 + nI 1) σ) ∧ (¬ x0 ≤ x7 → ¬ x0 = 0 ∧ (P_C_newName x2 (irem x4 x0) σ (fun r4 σ3 => ¬ x0 = 0 ∧ (P_C_newName x2 x7 σ3 (fun r6 σ5 => P_C_power x0 (x6 + r6) σ5 (fun r8 σ7 => K36 x0 x2 (x3 + (r4 * r8)) (x4 / x0) x5 x6 (x7 + nI 1) σ7))))))) → K36 x0 x2 x3 x4 x5 x6 x7 σ) →
    (P_C_isSize x0 σ (fun r10 σ9 => (r10 = 0 → Q x1 σ9) ∧ (¬ r10 = 0 → K17 x0 x2 (nI 0) x1 (nI 0) σ9)))
abbrev rm_C_renamed : Room := { frames := 1, cells := 0, slots := 0, locals := 22 }

def P_X_rename (b : Nat) (x1 : Int32) (x2 : Int32) (σ : St) (Q : Int32 → St → Prop) : Prop :=
  s_s σ b = some (.inl 0) ∧ (P_X_isThing b x1 σ (fun r2 σ1 => (r2 = 0 → Q (-1) σ1) ∧ (¬ r2 = 0 → P_X_isThing b x2 σ1 (fun r4 σ3 => (r4 = 0 → Q (-1) σ3) ∧ (¬ r4 = 0 → (x1 = x2 → Q (-2) σ3) ∧ (¬ x1 = x2 → ob 1 σ3 (s_r σ3 b 0) (fun q5 => ob 1 σ3 (s_r σ3 b 0) (fun q6 => P_C_exchange x1 x2 σ3 (fun r8 σ7 => P_C_renamed (s_i σ3 q5 3) (s_i σ3 q6 4) r8 σ7 (fun r10 σ9 => P_X_changeTo b r10 σ9 (fun r12 σ11 => Q r12 σ11)))))))))))
abbrev rm_X_rename : Room := { frames := 3, cells := 0, slots := 0, locals := 64 }

def P_C_mirrored (x0 : Int32) (x1 : Int32) (σ : St) (Q : Int32 → St → Prop) : Prop :=
  ∀ (K4 : Int32 → Int32 → Int32 → Int32 → St → Prop) (K12 : Int32 → Int32 → Int32 → Int32 → Int32 → St → Prop),
    (∀ (x0 : Int32) (x1 : Int32) (x2 : Int32) (x3 : Int32) (σ : St), ((x0 ≤ x3 → Q x2 σ) ∧ (¬ x0 ≤ x3 → K12 x0 x1 x2 x3 (nI 0) σ)) → K4 x0 x1 x2 x3 σ) →
    (∀ (x0 : Int32) (x1 : Int32) (x2 : Int32) (x3 : Int32) (x4 : Int32) (σ : St), ((x0 ≤ x4 → K4 x0 x1 x2 (x3 + nI 1) σ) ∧ (¬ x0 ≤ x4 → P_C_product x0 x1 x3 x4 σ (fun r2 σ1 => P_C_power x0 ((x0 * x4) + x3) σ1 (fun r4 σ3 => K12 x0 x1 (x2 + (r2 * r4)) x3 (x4 + nI 1) σ3)))) → K12 x0 x1 x2 x3 x4 σ) →
    (K4 x0 x1 (nI 0) (nI 0) σ)
abbrev rm_C_mirrored : Room := { frames := 2, cells := 0, slots := 0, locals := 45 }

def P_X_mirror (b : Nat) (σ : St) (Q : Int32 → St → Prop) : Prop :=
  s_s σ b = some (.inl 0) ∧ (ob 1 σ (s_r σ b 0) (fun q1 => ob 1 σ (s_r σ b 0) (fun q2 => P_C_mirrored (s_i σ q1 3) (s_i σ q2 4) σ (fun r4 σ3 => P_X_changeTo b r4 σ3 (fun r6 σ5 => Q r6 σ5)))))
abbrev rm_X_mirror : Room := { frames := 3, cells := 0, slots := 0, locals := 69 }

def P_D_beginSide (b : Nat) (x1 : Int32) (σ : St) (Q : St → Prop) : Prop :=
  s_s σ b = some (.inl 8) ∧ ((x1 = 0 ∨ x1 = 1) ∧ (ar 1 (w_i (w_i σ b 7 x1) b 6 (nI 0)) (s_r (w_i (w_i σ b 7 x1) b 6 (nI 0)) b 3) (nI 0) (fun q1 j2 => Q (w_i (w_i (w_i σ b 7 x1) b 6 (nI 0)) q1 j2 (vp_nar .boolean (nI 0))))))
abbrev rm_D_beginSide : Room := { frames := 0, cells := 0, slots := 0, locals := 0 }

def P_D_addStep (b : Nat) (x1 : Int32) (σ : St) (Q : St → Prop) : Prop :=
  s_s σ b = some (.inl 8) ∧ (((nI 120) ≤ (s_i σ b 4) → Q σ) ∧ (¬ (nI 120) ≤ (s_i σ b 4) → ar 0 σ (s_r σ b 0) (s_i σ b 4) (fun q1 j2 => Q (w_i (w_i σ q1 j2 x1) b 4 ((s_i (w_i σ q1 j2 x1) b 4) + (nI 1))))))
abbrev rm_D_addStep : Room := { frames := 0, cells := 0, slots := 0, locals := 0 }

def P_D_endPart (b : Nat) (σ : St) (Q : St → Prop) : Prop :=
  s_s σ b = some (.inl 8) ∧ (ar 1 σ (s_r σ b 3) (s_i σ b 5) (fun q1 j2 => ((s_i σ q1 j2) = 0 → ar 1 σ (s_r σ b 3) (s_i σ b 5) (fun q3 j4 => Q (w_i σ q3 j4 (vp_nar .boolean (nI 1))))) ∧ (¬ (s_i σ q1 j2) = 0 → P_D_addStep b (nI 3) σ (fun σ5 => ar 1 σ5 (s_r σ5 b 3) (s_i σ5 b 5) (fun q6 j7 => Q (w_i σ5 q6 j7 (vp_nar .boolean (nI 1))))))))
abbrev rm_D_endPart : Room := { frames := 1, cells := 0, slots := 0, locals := 21 }

def P_D_addLetter (b : Nat) (x1 : Int32) (σ : St) (Q : Int32 → St → Prop) : Prop :=
  s_s σ b = some (.inl 8) ∧ (((s_i σ b 6) < (nI 8) → P_D_addStep b x1 (w_i σ b 6 ((s_i σ b 6) + (nI 1))) (fun σ1 => P_D_endPart b σ1 (fun σ2 => Q (nI 1) σ2))) ∧ (¬ (s_i σ b 6) < (nI 8) → Q (nI 0) σ))
abbrev rm_D_addLetter : Room := { frames := 2, cells := 0, slots := 0, locals := 41 }

def P_D_openBracket (b : Nat) (σ : St) (Q : Int32 → St → Prop) : Prop :=
  s_s σ b = some (.inl 8) ∧ (((s_i σ b 5) < (nI 3) → ar 1 (w_i σ b 5 ((s_i σ b 5) + (nI 1))) (s_r (w_i σ b 5 ((s_i σ b 5) + (nI 1))) b 3) (s_i (w_i σ b 5 ((s_i σ b 5) + (nI 1))) b 5) (fun q1 j2 => Q (nI 1) (w_i (w_i σ b 5 ((s_i σ b 5) + (nI 1))) q1 j2 (vp_nar .boolean (nI 0))))) ∧ (¬ (s_i σ b 5) < (nI 3) → Q (nI 0) σ))
abbrev rm_D_openBracket : Room := { frames := 0, cells := 0, slots := 0, locals := 0 }

def P_D_closeBracket (b : Nat) (σ : St) (Q : Int32 → St → Prop) : Prop :=
  s_s σ b = some (.inl 8) ∧ (((s_i σ b 5) ≤ 0 → Q (nI 0) σ) ∧ (¬ (s_i σ b 5) ≤ 0 → ar 1 σ (s_r σ b 3) (s_i σ b 5) (fun q1 j2 => ((s_i σ q1 j2) = 0 → Q (nI 0) σ) ∧ (¬ (s_i σ q1 j2) = 0 → P_D_endPart b (w_i σ b 5 ((s_i σ b 5) - (nI 1))) (fun σ3 => Q (nI 1) σ3)))))
abbrev rm_D_closeBracket : Room := { frames := 2, cells := 0, slots := 0, locals := 41 }

def P_D_isSideWhole (b : Nat) (σ : St) (Q : Int32 → St → Prop) : Prop :=
  s_s σ b = some (.inl 8) ∧ (((s_i σ b 5) = 0 → ar 1 σ (s_r σ b 3) (nI 0) (fun q1 j2 => ((s_i σ q1 j2) = 0 → Q (nI 0) σ) ∧ (¬ (s_i σ q1 j2) = 0 → Q (nI 1) σ))) ∧ (¬ (s_i σ b 5) = 0 → Q (nI 0) σ))
abbrev rm_D_isSideWhole : Room := { frames := 0, cells := 0, slots := 0, locals := 0 }

def P_D_endLeft (b : Nat) (σ : St) (Q : Int32 → St → Prop) : Prop :=
  s_s σ b = some (.inl 8) ∧ (((s_i σ b 7) = 0 → P_D_isSideWhole b σ (fun r2 σ1 => (r2 = 0 → Q (nI 0) σ1) ∧ (¬ r2 = 0 → P_D_beginSide b (nI 1) σ1 (fun σ3 => Q (nI 1) σ3)))) ∧ (¬ (s_i σ b 7) = 0 → Q (nI 0) σ))
abbrev rm_D_endLeft : Room := { frames := 1, cells := 0, slots := 0, locals := 21 }

def P_D_endLaw (b : Nat) (σ : St) (Q : Int32 → St → Prop) : Prop :=
  s_s σ b = some (.inl 8) ∧ (((s_i σ b 7) = 0 → Q (nI 0) σ) ∧ (¬ (s_i σ b 7) = 0 → P_D_isSideWhole b σ (fun r2 σ1 => (r2 = 0 → Q (nI 0) σ1) ∧ (¬ r2 = 0 → al σ1 (s_r σ1 b 2) (fun n3 => ((s_i σ1 b 1) < (nI n3) → ar 0 σ1 (s_r σ1 b 2) (s_i σ1 b 1) (fun q4 j5 => P_D_beginSide b (nI 0) (w_i (w_i σ1 q4 j5 (s_i σ1 b 4)) b 1 ((s_i (w_i σ1 q4 j5 (s_i σ1 b 4)) b 1) + (nI 1))) (fun σ6 => Q (nI 1) σ6))) ∧ (¬ (s_i σ1 b 1) < (nI n3) → Q (nI 0) σ1))))))
abbrev rm_D_endLaw : Room := { frames := 1, cells := 0, slots := 0, locals := 21 }

def P_D_accept (b : Nat) (x1 : Int32) (σ : St) (Q : Int32 → St → Prop) : Prop :=
  s_s σ b = some (.inl 8) ∧ ((x1 < (nI 120) → (x1 = (nI 40) → P_D_openBracket b σ (fun r8 σ7 => (r8 = 0 ∨ r8 = 1) ∧ Q r8 σ7)) ∧ (¬ x1 = (nI 40) → (x1 = (nI 41) → P_D_closeBracket b σ (fun r6 σ5 => (r6 = 0 ∨ r6 = 1) ∧ Q r6 σ5)) ∧ (¬ x1 = (nI 41) → (x1 = (nI 61) → P_D_endLeft b σ (fun r4 σ3 => (r4 = 0 ∨ r4 = 1) ∧ Q r4 σ3)) ∧ (¬ x1 = (nI 61) → (x1 = (nI 59) → P_D_endLaw b σ (fun r2 σ1 => (r2 = 0 → Q (nI 0) σ1) ∧ (¬ r2 = 0 → Q (nI 1) σ1))) ∧ (¬ x1 = (nI 59) → Q (nI 0) σ))))) ∧ (¬ x1 < (nI 120) → ((nI 122) < x1 → (x1 = (nI 40) → P_D_openBracket b σ (fun r16 σ15 => (r16 = 0 ∨ r16 = 1) ∧ Q r16 σ15)) ∧ (¬ x1 = (nI 40) → (x1 = (nI 41) → P_D_closeBracket b σ (fun r14 σ13 => (r14 = 0 ∨ r14 = 1) ∧ Q r14 σ13)) ∧ (¬ x1 = (nI 41) → (x1 = (nI 61) → P_D_endLeft b σ (fun r12 σ11 => (r12 = 0 ∨ r12 = 1) ∧ Q r12 σ11)) ∧ (¬ x1 = (nI 61) → (x1 = (nI 59) → P_D_endLaw b σ (fun r10 σ9 => (r10 = 0 → Q (nI 0) σ9) ∧ (¬ r10 = 0 → Q (nI 1) σ9))) ∧ (¬ x1 = (nI 59) → Q (nI 0) σ))))) ∧ (¬ (nI 122) < x1 → P_D_addLetter b (x1 - (nI 120)) σ (fun r18 σ17 => (r18 = 0 ∨ r18 = 1) ∧ Q r18 σ17))))
abbrev rm_D_accept : Room := { frames := 3, cells := 0, slots := 0, locals := 62 }

def P_D_read (b : Nat) (o1 : Option Nat) (x2 : Int32) (σ : St) (Q : Int32 → St → Prop) : Prop :=
  s_s σ b = some (.inl 8) ∧ ∀ (K22 : Option Nat → Int32 → Int32 → St → Prop),
    (∀ (o1 : Option Nat) (x2 : Int32) (x3 : Int32) (σ : St), ((x2 ≤ x3 → P_D_endLaw b σ (fun r2 σ1 => (r2 = 0 → Q x2 σ1) ∧ (¬ r2 = 0 → Q (-1) σ1))) ∧ (¬ x2 ≤ x3 → al σ o1 (fun n3 => ((nI n3) ≤ x3 → P_D_endLaw b σ (fun r5 σ4 => (r5 = 0 → Q x2 σ4) ∧ (¬ r5 = 0 → Q (-1) σ4))) ∧ (¬ (nI n3) ≤ x3 → ar 3 σ o1 x3 (fun q6 j7 => P_D_accept b (s_i σ q6 j7) σ (fun r9 σ8 => (r9 = 0 → Q x3 σ8) ∧ (¬ r9 = 0 → K22 o1 x2 (x3 + nI 1) σ8))))))) → K22 o1 x2 x3 σ) →
    (P_D_beginSide b (nI 0) (w_i (w_i (w_i σ b 1 (nI 0)) b 4 (nI 0)) b 5 (nI 0)) (fun σ10 => K22 o1 x2 (nI 0) σ10))
abbrev rm_D_read : Room := { frames := 4, cells := 0, slots := 0, locals := 83 }

def P_D_lawEnd (b : Nat) (x1 : Int32) (σ : St) (Q : Int32 → St → Prop) : Prop :=
  s_s σ b = some (.inl 8) ∧ ((x1 < 0 → Q (nI 0) σ) ∧ (¬ x1 < 0 → ((s_i σ b 1) ≤ x1 → Q (nI 0) σ) ∧ (¬ (s_i σ b 1) ≤ x1 → ar 0 σ (s_r σ b 2) x1 (fun q1 j2 => Q (s_i σ q1 j2) σ))))
abbrev rm_D_lawEnd : Room := { frames := 0, cells := 0, slots := 0, locals := 0 }

def P_D_lawStart (b : Nat) (x1 : Int32) (σ : St) (Q : Int32 → St → Prop) : Prop :=
  s_s σ b = some (.inl 8) ∧ ((0 < x1 → P_D_lawEnd b (x1 - (nI 1)) σ (fun r2 σ1 => Q r2 σ1)) ∧ (¬ 0 < x1 → Q (nI 0) σ))
abbrev rm_D_lawStart : Room := { frames := 1, cells := 0, slots := 0, locals := 21 }

def P_L_hasSteps (b : Nat) (o1 : Option Nat) (x2 : Int32) (x3 : Int32) (σ : St) (Q : Int32 → St → Prop) : Prop :=
  s_s σ b = some (.inl 4) ∧ ∀ (K25 : Option Nat → Int32 → Int32 → St → Prop),
    (∀ (o1 : Option Nat) (x2 : Int32) (x4 : Int32) (σ : St), (((s_i σ b 1) ≤ x4 → Q (nI 1) σ) ∧ (¬ (s_i σ b 1) ≤ x4 → ar 0 σ (s_r σ b 0) x4 (fun q1 j2 => ar 0 σ o1 (x2 + x4) (fun q3 j4 => ((s_i σ q1 j2) = (s_i σ q3 j4) → K25 o1 x2 (x4 + nI 1) σ) ∧ (¬ (s_i σ q1 j2) = (s_i σ q3 j4) → Q (nI 0) σ))))) → K25 o1 x2 x4 σ) →
    ((x2 < 0 → Q (nI 0) σ) ∧ (¬ x2 < 0 → al σ o1 (fun n5 => ((nI n5) < x3 → Q (nI 0) σ) ∧ (¬ (nI n5) < x3 → ((s_i σ b 1) = (x3 - x2) → K25 o1 x2 (nI 0) σ) ∧ (¬ (s_i σ b 1) = (x3 - x2) → Q (nI 0) σ)))))
abbrev rm_L_hasSteps : Room := { frames := 0, cells := 0, slots := 0, locals := 0 }

def P_S_uses (b : Nat) (o1 : Option Nat) (σ : St) (Q : Int32 → St → Prop) : Prop :=
  s_s σ b = some (.inl 1) ∧ ∀ (K2 : Option Nat → Int32 → St → Prop),
    (∀ (o1 : Option Nat) (x2 : Int32) (σ : St), (((s_i σ b 2) ≤ x2 → Q (nI 0) σ) ∧ (¬ (s_i σ b 2) ≤ x2 → ar 5 σ (s_r σ b 0) x2 (fun q1 j2 => ((s_r σ q1 j2) = o1 → Q (nI 1) σ) ∧ (¬ (s_r σ q1 j2) = o1 → K2 o1 (x2 + nI 1) σ)))) → K2 o1 x2 σ) →
    (K2 o1 (nI 0) σ)
abbrev rm_S_uses : Room := { frames := 0, cells := 0, slots := 0, locals := 0 }

def P_H_uses (b : Nat) (o1 : Option Nat) (σ : St) (Q : Int32 → St → Prop) : Prop :=
  s_s σ b = some (.inl 2) ∧ ∀ (K2 : Option Nat → Int32 → St → Prop),
    (∀ (o1 : Option Nat) (x2 : Int32) (σ : St), (((s_i σ b 2) ≤ x2 → ((s_i σ b 3) = 0 → Q (nI 0) σ) ∧ (¬ (s_i σ b 3) = 0 → nn (s_r σ b 1) (fun q1 => P_S_uses q1 o1 σ (fun r3 σ2 => (r3 = 0 → Q (nI 0) σ2) ∧ (¬ r3 = 0 → Q (nI 1) σ2))))) ∧ (¬ (s_i σ b 2) ≤ x2 → ar 6 σ (s_r σ b 0) x2 (fun q4 j5 => nn (s_r σ q4 j5) (fun q6 => P_S_uses q6 o1 σ (fun r8 σ7 => (r8 = 0 → K2 o1 (x2 + nI 1) σ7) ∧ (¬ r8 = 0 → Q (nI 1) σ7)))))) → K2 o1 x2 σ) →
    (K2 o1 (nI 0) σ)
abbrev rm_H_uses : Room := { frames := 1, cells := 0, slots := 0, locals := 22 }

def P_L_isLetter (x0 : Int32) (σ : St) (Q : Int32 → St → Prop) : Prop :=
  ((x0 < 0 → Q (nI 0) σ) ∧ (¬ x0 < 0 → ((nI 3) ≤ x0 → Q (nI 0) σ) ∧ (¬ (nI 3) ≤ x0 → Q (nI 1) σ)))
abbrev rm_L_isLetter : Room := { frames := 0, cells := 0, slots := 0, locals := 0 }

def P_L_become (b : Nat) (o1 : Option Nat) (x2 : Int32) (x3 : Int32) (σ : St) (Q : St → Prop) : Prop :=
  s_s σ b = some (.inl 4) ∧ ∀ (K35 : Option Nat → Int32 → Int32 → St → Prop),
    (∀ (o1 : Option Nat) (x4 : Int32) (x5 : Int32) (σ : St), ((x4 ≤ x5 → Q σ) ∧ (¬ x4 ≤ x5 → ((nI 30) ≤ (s_i σ b 1) → Q σ) ∧ (¬ (nI 30) ≤ (s_i σ b 1) → ar 0 σ o1 x5 (fun q1 j2 => ar 0 σ (s_r σ b 0) (s_i σ b 1) (fun q3 j4 => ar 0 (w_i (w_i σ q3 j4 (s_i σ q1 j2)) b 1 ((s_i (w_i σ q3 j4 (s_i σ q1 j2)) b 1) + (nI 1))) o1 x5 (fun q5 j6 => P_L_isLetter (s_i (w_i (w_i σ q3 j4 (s_i σ q1 j2)) b 1 ((s_i (w_i σ q3 j4 (s_i σ q1 j2)) b 1) + (nI 1))) q5 j6) (w_i (w_i σ q3 j4 (s_i σ q1 j2)) b 1 ((s_i (w_i σ q3 j4 (s_i σ q1 j2)) b 1) + (nI 1))) (fun r8 σ7 => (r8 = 0 → K35 o1 x4 (x5 + nI 1) σ7) ∧ (¬ r8 = 0 → ar 0 (w_i σ7 b 2 ((s_i σ7 b 2) + (nI 1))) o1 x5 (fun q9 j10 => K35 o1 x4 (x5 + nI 1) (w_i (w_i σ7 b 2 ((s_i σ7 b 2) + (nI 1))) b 3 ((s_i (w_i σ7 b 2 ((s_i σ7 b 2) + (nI 1))) b 3) ||| (shl (nI 1) (s_i (w_i σ7 b 2 ((s_i σ7 b 2) + (nI 1))) q9 j10))))))))))))) → K35 o1 x4 x5 σ) →
    (al (w_i (w_i (w_i (w_i σ b 1 (nI 0)) b 2 (nI 0)) b 3 (nI 0)) b 5 (nI 0)) o1 (fun n11 => K35 o1 (mn x3 (nI n11)) (mx x2 (nI 0)) (w_i (w_i (w_i (w_i σ b 1 (nI 0)) b 2 (nI 0)) b 3 (nI 0)) b 5 (nI 0))))
abbrev rm_L_become : Room := { frames := 1, cells := 0, slots := 0, locals := 21 }

def P_F_bring (b : Nat) (o1 : Option Nat) (x2 : Int32) (o3 : Option Nat) (o4 : Option Nat) (σ : St) (Q : Option Nat → St → Prop) : Prop :=
  s_s σ b = some (.inl 3) ∧ ∀ (K17 : Option Nat → Option Nat → Option Nat → Int32 → Int32 → Int32 → St → Prop) (K62 : Option Nat → Option Nat → Option Nat → Int32 → Int32 → Int32 → St → Prop),
    (∀ (o1 : Option Nat) (o3 : Option Nat) (o4 : Option Nat) (x5 : Int32) (x6 : Int32) (x7 : Int32) (σ : St), (((nI 30) ≤ x7 → K62 o1 o3 o4 x5 x6 (nI 0) σ) ∧ (¬ (nI 30) ≤ x7 → ar 5 σ (s_r σ b 0) x7 (fun q1 j2 => ob 8 σ o1 (fun q3 => nn (s_r σ q1 j2) (fun q4 => P_L_hasSteps q4 (s_r σ q3 0) x5 x6 σ (fun r6 σ5 => (r6 = 0 → K17 o1 o3 o4 x5 x6 (x7 + nI 1) σ5) ∧ (¬ r6 = 0 → ar 5 σ5 (s_r σ5 b 0) x7 (fun q7 j8 => Q (s_r σ5 q7 j8) σ5)))))))) → K17 o1 o3 o4 x5 x6 x7 σ) →
    (∀ (o1 : Option Nat) (o3 : Option Nat) (o4 : Option Nat) (x5 : Int32) (x6 : Int32) (x7 : Int32) (σ : St), (((nI 30) ≤ x7 → Q none σ) ∧ (¬ (nI 30) ≤ x7 → ar 5 σ (s_r σ b 0) x7 (fun q9 j10 => nn o3 (fun q11 => P_S_uses q11 (s_r σ q9 j10) σ (fun r13 σ12 => (r13 = 0 → ar 5 σ12 (s_r σ12 b 0) x7 (fun q14 j15 => nn o4 (fun q16 => P_H_uses q16 (s_r σ12 q14 j15) σ12 (fun r18 σ17 => (r18 = 0 → ar 5 σ17 (s_r σ17 b 0) x7 (fun q19 j20 => ob 8 σ17 o1 (fun q21 => nn (s_r σ17 q19 j20) (fun q22 => P_L_become q22 (s_r σ17 q21 0) x5 x6 σ17 (fun σ23 => ar 5 σ23 (s_r σ23 b 0) x7 (fun q24 j25 => Q (s_r σ23 q24 j25) σ23)))))) ∧ (¬ r18 = 0 → K62 o1 o3 o4 x5 x6 (x7 + nI 1) σ17))))) ∧ (¬ r13 = 0 → K62 o1 o3 o4 x5 x6 (x7 + nI 1) σ12)))))) → K62 o1 o3 o4 x5 x6 x7 σ) →
    (nn o1 (fun q26 => P_D_lawStart q26 x2 σ (fun r28 σ27 => nn o1 (fun q29 => P_D_lawEnd q29 x2 σ27 (fun r31 σ30 => K17 o1 o3 o4 r28 r31 (nI 0) σ30)))))
abbrev rm_F_bring : Room := { frames := 2, cells := 0, slots := 0, locals := 46 }

def P_S_add (b : Nat) (o1 : Option Nat) (σ : St) (Q : St → Prop) : Prop :=
  s_s σ b = some (.inl 1) ∧ ((o1 = none → Q σ) ∧ (¬ o1 = none → ((nI 5) ≤ (s_i σ b 2) → Q σ) ∧ (¬ (nI 5) ≤ (s_i σ b 2) → ar 5 σ (s_r σ b 0) (s_i σ b 2) (fun q1 j2 => (∀ y, o1 = some y → s_s σ y = some (.inl (cix 5))) ∧ (ar 1 (w_r σ q1 j2 o1) (s_r (w_r σ q1 j2 o1) b 1) (s_i (w_r σ q1 j2 o1) b 2) (fun q3 j4 => Q (w_i (w_i (w_r σ q1 j2 o1) q3 j4 (vp_nar .boolean (nI 1))) b 2 ((s_i (w_i (w_r σ q1 j2 o1) q3 j4 (vp_nar .boolean (nI 1))) b 2) + (nI 1)))))))))
abbrev rm_S_add : Room := { frames := 0, cells := 0, slots := 0, locals := 0 }

def P_X_addLaws (b : Nat) (σ : St) (Q : Int32 → St → Prop) : Prop :=
  s_s σ b = some (.inl 0) ∧ ∀ (K61 : Int32 → St → Prop),
    (∀ (x2 : Int32) (σ : St), (ob 8 σ (s_r σ b 5) (fun q1 => ((s_i σ q1 1) ≤ x2 → ob 8 σ (s_r σ b 5) (fun q2 => Q (s_i σ q2 1) σ)) ∧ (¬ (s_i σ q1 1) ≤ x2 → nn (s_r σ b 2) (fun q3 => P_F_bring q3 (s_r σ b 5) x2 (s_r σ b 0) (s_r σ b 1) σ (fun r5 σ4 => nn (s_r σ b 0) (fun q6 => P_S_add q6 r5 σ4 (fun σ7 => K61 (x2 + nI 1) σ7))))))) → K61 x2 σ) →
    (nn (s_r σ b 5) (fun q8 => P_D_read q8 (s_r σ b 6) (s_i σ b 7) σ (fun r10 σ9 => (r10 = (-1) → ob 1 σ9 (s_r σ9 b 0) (fun q11 => ob 8 σ9 (s_r σ9 b 5) (fun q12 => (((s_i σ9 q11 2) + (s_i σ9 q12 1)) ≤ (nI 5) → nn (s_r σ9 b 1) (fun q13 => P_H_record q13 (s_r σ9 b 0) σ9 (fun σ14 => K61 (nI 0) σ14))) ∧ (¬ ((s_i σ9 q11 2) + (s_i σ9 q12 1)) ≤ (nI 5) → Q (-3) σ9)))) ∧ (¬ r10 = (-1) → Q ((-100) - r10) σ9))))
abbrev rm_X_addLaws : Room := { frames := 5, cells := 0, slots := 0, locals := 106 }

def P_S_hasLaw (b : Nat) (x1 : Int32) (σ : St) (Q : Int32 → St → Prop) : Prop :=
  s_s σ b = some (.inl 1) ∧ ((x1 < 0 → Q (nI 0) σ) ∧ (¬ x1 < 0 → ((s_i σ b 2) ≤ x1 → Q (nI 0) σ) ∧ (¬ (s_i σ b 2) ≤ x1 → ((nI 5) ≤ x1 → Q (nI 0) σ) ∧ (¬ (nI 5) ≤ x1 → Q (nI 1) σ))))
abbrev rm_S_hasLaw : Room := { frames := 0, cells := 0, slots := 0, locals := 0 }

def P_S_remove (b : Nat) (x1 : Int32) (σ : St) (Q : St → Prop) : Prop :=
  s_s σ b = some (.inl 1) ∧ ∀ (K21 : Int32 → St → Prop),
    (∀ (x2 : Int32) (σ : St), (((s_i σ b 2) ≤ x2 → Q σ) ∧ (¬ (s_i σ b 2) ≤ x2 → ar 5 σ (s_r σ b 0) (x2 + (nI 1)) (fun q1 j2 => ar 5 σ (s_r σ b 0) x2 (fun q3 j4 => (∀ y, s_r σ q1 j2 = some y → s_s σ y = some (.inl (cix 5))) ∧ (ar 1 (w_r σ q3 j4 (s_r σ q1 j2)) (s_r (w_r σ q3 j4 (s_r σ q1 j2)) b 1) (x2 + (nI 1)) (fun q5 j6 => ar 1 (w_r σ q3 j4 (s_r σ q1 j2)) (s_r (w_r σ q3 j4 (s_r σ q1 j2)) b 1) x2 (fun q7 j8 => K21 (x2 + nI 1) (w_i (w_r σ q3 j4 (s_r σ q1 j2)) q7 j8 (vp_nar .boolean (s_i (w_r σ q3 j4 (s_r σ q1 j2)) q5 j6)))))))))) → K21 x2 σ) →
    (P_S_hasLaw b x1 σ (fun r10 σ9 => (r10 = 0 → Q σ9) ∧ (¬ r10 = 0 → K21 x1 (w_i σ9 b 2 ((s_i σ9 b 2) - (nI 1))))))
abbrev rm_S_remove : Room := { frames := 1, cells := 0, slots := 0, locals := 21 }

def P_X_removeLaw (b : Nat) (x1 : Int32) (σ : St) (Q : Int32 → St → Prop) : Prop :=
  s_s σ b = some (.inl 0) ∧ (nn (s_r σ b 0) (fun q1 => P_S_hasLaw q1 x1 σ (fun r3 σ2 => (r3 = 0 → Q (-1) σ2) ∧ (¬ r3 = 0 → nn (s_r σ2 b 1) (fun q4 => P_H_record q4 (s_r σ2 b 0) σ2 (fun σ5 => nn (s_r σ5 b 0) (fun q6 => P_S_remove q6 x1 σ5 (fun σ7 => ob 1 σ7 (s_r σ7 b 0) (fun q8 => Q (s_i σ7 q8 2) σ7)))))))))
abbrev rm_X_removeLaw : Room := { frames := 2, cells := 0, slots := 0, locals := 43 }

def P_S_onCount (b : Nat) (σ : St) (Q : Int32 → St → Prop) : Prop :=
  s_s σ b = some (.inl 1) ∧ ∀ (K4 : Int32 → Int32 → St → Prop),
    (∀ (x1 : Int32) (x2 : Int32) (σ : St), (((s_i σ b 2) ≤ x2 → Q x1 σ) ∧ (¬ (s_i σ b 2) ≤ x2 → ar 1 σ (s_r σ b 1) x2 (fun q1 j2 => ((s_i σ q1 j2) = 0 → K4 x1 (x2 + nI 1) σ) ∧ (¬ (s_i σ q1 j2) = 0 → K4 (x1 + nI 1) (x2 + nI 1) σ)))) → K4 x1 x2 σ) →
    (K4 (nI 0) (nI 0) σ)
abbrev rm_S_onCount : Room := { frames := 0, cells := 0, slots := 0, locals := 0 }

def P_X_turnLaw (b : Nat) (x1 : Int32) (x2 : Int32) (σ : St) (Q : Int32 → St → Prop) : Prop :=
  s_s σ b = some (.inl 0) ∧ (nn (s_r σ b 0) (fun q1 => P_S_hasLaw q1 x1 σ (fun r3 σ2 => (r3 = 0 → Q (-1) σ2) ∧ (¬ r3 = 0 → ob 1 σ2 (s_r σ2 b 0) (fun q4 => ar 1 σ2 (s_r σ2 q4 1) x1 (fun q5 j6 => ((s_i σ2 q5 j6) = x2 → Q (-5) σ2) ∧ (¬ (s_i σ2 q5 j6) = x2 → nn (s_r σ2 b 1) (fun q7 => P_H_record q7 (s_r σ2 b 0) σ2 (fun σ8 => ob 1 σ8 (s_r σ8 b 0) (fun q9 => ar 1 σ8 (s_r σ8 q9 1) x1 (fun q10 j11 => nn (s_r (w_i σ8 q10 j11 (vp_nar .boolean x2)) b 0) (fun q12 => P_S_onCount q12 (w_i σ8 q10 j11 (vp_nar .boolean x2)) (fun r14 σ13 => Q r14 σ13)))))))))))))
abbrev rm_X_turnLaw : Room := { frames := 2, cells := 0, slots := 0, locals := 43 }

def P_S_lawAt (b : Nat) (x1 : Int32) (σ : St) (Q : Option Nat → St → Prop) : Prop :=
  s_s σ b = some (.inl 1) ∧ (P_S_hasLaw b x1 σ (fun r2 σ1 => (r2 = 0 → Q none σ1) ∧ (¬ r2 = 0 → ar 5 σ1 (s_r σ1 b 0) x1 (fun q3 j4 => Q (s_r σ1 q3 j4) σ1))))
abbrev rm_S_lawAt : Room := { frames := 1, cells := 0, slots := 0, locals := 21 }

def P_P_isIn (o0 : Option Nat) (x1 : Int32) (σ : St) (Q : Int32 → St → Prop) : Prop :=
  (((x1 / (nI 64)) < 0 → Q (nI 0) σ) ∧ (¬ (x1 / (nI 64)) < 0 → al σ o0 (fun n1 => ((nI n1) ≤ (x1 / (nI 64)) → Q (nI 0) σ) ∧ (¬ (nI n1) ≤ (x1 / (nI 64)) → ar 4 σ o0 (x1 / (nI 64)) (fun q2 j3 => ((lg_cmp ((s_l σ q2 j3) &&& (lshl (lN 1) (irem x1 (nI 64)))) (lN 0)) = 0 → Q (nI 0) σ) ∧ (¬ (lg_cmp ((s_l σ q2 j3) &&& (lshl (lN 1) (irem x1 (nI 64)))) (lN 0)) = 0 → Q (nI 1) σ))))))
abbrev rm_P_isIn : Room := { frames := 0, cells := 0, slots := 0, locals := 0 }

def P_C_renamingCount (x0 : Int32) (σ : St) (Q : Int32 → St → Prop) : Prop :=
  ((x0 = (nI 3) → Q (nI 6) σ) ∧ (¬ x0 = (nI 3) → (x0 = (nI 2) → Q (nI 2) σ) ∧ (¬ x0 = (nI 2) → Q (nI 1) σ)))
abbrev rm_C_renamingCount : Room := { frames := 0, cells := 0, slots := 0, locals := 0 }

def P_P_add (b : Nat) (x1 : Int32) (x2 : Int32) (o3 : Option Nat) (σ : St) (Q : St → Prop) : Prop :=
  s_s σ b = some (.inl 7) ∧ ∀ (K27 : Int32 → Int32 → Option Nat → Int32 → Int32 → St → Prop),
    (∀ (x1 : Int32) (x2 : Int32) (o3 : Option Nat) (x4 : Int32) (x5 : Int32) (σ : St), (P_C_renamingCount x1 σ (fun r2 σ1 => (r2 ≤ x5 → ar 2 σ1 (s_r σ1 b 1) (s_i σ1 b 3) (fun q3 j4 => Q (w_i (w_i σ1 q3 j4 (vp_nar .byte (byt x4))) b 3 ((s_i (w_i σ1 q3 j4 (vp_nar .byte (byt x4))) b 3) + (nI 1))))) ∧ (¬ r2 ≤ x5 → P_C_renamed x1 x2 x5 σ1 (fun r6 σ5 => ((r6 / (nI 64)) < 0 → K27 x1 x2 o3 x4 (x5 + nI 1) σ5) ∧ (¬ (r6 / (nI 64)) < 0 → al σ5 o3 (fun n7 => ((nI n7) ≤ (r6 / (nI 64)) → K27 x1 x2 o3 x4 (x5 + nI 1) σ5) ∧ (¬ (nI n7) ≤ (r6 / (nI 64)) → P_P_isIn o3 r6 σ5 (fun r9 σ8 => (r9 = 0 → ar 4 σ8 o3 (r6 / (nI 64)) (fun q10 j11 => ar 4 σ8 o3 (r6 / (nI 64)) (fun q12 j13 => K27 x1 x2 o3 (x4 + nI 1) (x5 + nI 1) (w_l σ8 q12 j13 ((s_l σ8 q10 j11) ||| (lshl (lN 1) (irem r6 (nI 64)))))))) ∧ (¬ r9 = 0 → K27 x1 x2 o3 x4 (x5 + nI 1) σ8))))))))) → K27 x1 x2 o3 x4 x5 σ) →
    (((s_i σ b 3) < (nI 3341) → ar 0 σ (s_r σ b 0) (s_i σ b 3) (fun q14 j15 => K27 x1 x2 o3 (nI 0) (nI 0) (w_i σ q14 j15 x2))) ∧ (¬ (s_i σ b 3) < (nI 3341) → Q σ))
abbrev rm_P_add : Room := { frames := 2, cells := 0, slots := 0, locals := 50 }

def P_P_list (b : Nat) (σ : St) (mc : Nat) (ms : Nat) (Q : St → Prop) : Prop :=
  s_s σ b = some (.inl 7) ∧ ∀ (K22 : Option Nat → Int32 → St → Nat → Nat → Prop) (K39 : Option Nat → Int32 → Int32 → St → Nat → Nat → Prop) (K57 : Option Nat → Int32 → Int32 → St → Nat → Nat → Prop),
    (∀ (o1 : Option Nat) (x2 : Int32) (σ : St) (ca : Nat) (cb : Nat), (((nI 3) < x2 → ar 0 σ (s_r σ b 2) (nI 4) (fun q1 j2 => Q (w_i σ q1 j2 (s_i σ b 3)))) ∧ (¬ (nI 3) < x2 → ar 0 σ (s_r σ b 2) x2 (fun q3 j4 => K39 o1 x2 (nI 0) (w_i σ q3 j4 (s_i σ b 3)) ca cb))) → K22 o1 x2 σ ca cb) →
    (∀ (o1 : Option Nat) (x2 : Int32) (x3 : Int32) (σ : St) (ca : Nat) (cb : Nat), (al σ o1 (fun n5 => ((nI n5) ≤ x3 → K57 o1 x2 (nI 0) σ ca cb) ∧ (¬ (nI n5) ≤ x3 → ar 4 σ o1 x3 (fun q6 j7 => K39 o1 x2 (x3 + nI 1) (w_l σ q6 j7 (lN 0)) ca cb)))) → K39 o1 x2 x3 σ ca cb) →
    (∀ (o1 : Option Nat) (x2 : Int32) (x3 : Int32) (σ : St) (ca : Nat) (cb : Nat), (P_C_worldCount x2 σ (fun r9 σ8 => (r9 ≤ x3 → K22 o1 (x2 + nI 1) σ8 ca cb) ∧ (¬ r9 ≤ x3 → P_P_isIn o1 x3 σ8 (fun r11 σ10 => (r11 = 0 → P_P_add b x2 x3 o1 σ10 (fun σ12 => K57 o1 x2 (x3 + nI 1) σ12 ca cb)) ∧ (¬ r11 = 0 → K57 o1 x2 (x3 + nI 1) σ10 ca cb))))) → K57 o1 x2 x3 σ ca cb) →
    (((s_i σ b 3) ≤ 0 → P_C_worldCount (nI 3) σ (fun r14 σ13 => ∃ n17, ((r14 / (nI 64)) + (nI 1)) = nI n17 ∧ n17 ≤ 16777216 ∧ (0 + 1 ≤ mc ∧ 0 + n17 ≤ ms ∧ nw σ13 (.inr (4, n17)) (fun q15 σ16 => K22 (some q15) (nI 1) σ16 (0 + 1) (0 + n17))))) ∧ (¬ (s_i σ b 3) ≤ 0 → Q σ))
abbrev rm_P_list (mc ms : Nat) : Room := { frames := 3, cells := mc, slots := ms, locals := 77 }

def P_P_sizeAt (b : Nat) (x1 : Int32) (σ : St) (Q : Int32 → St → Prop) : Prop :=
  s_s σ b = some (.inl 7) ∧ (ar 0 σ (s_r σ b 2) (nI 3) (fun q1 j2 => (x1 < (s_i σ q1 j2) → ar 0 σ (s_r σ b 2) (nI 2) (fun q3 j4 => (x1 < (s_i σ q3 j4) → Q (nI 1) σ) ∧ (¬ x1 < (s_i σ q3 j4) → Q (nI 2) σ))) ∧ (¬ x1 < (s_i σ q1 j2) → Q (nI 3) σ)))
abbrev rm_P_sizeAt : Room := { frames := 0, cells := 0, slots := 0, locals := 0 }

def P_P_codeAt (b : Nat) (x1 : Int32) (σ : St) (Q : Int32 → St → Prop) : Prop :=
  s_s σ b = some (.inl 7) ∧ ((x1 < 0 → Q (nI 0) σ) ∧ (¬ x1 < 0 → ((nI 3341) ≤ x1 → Q (nI 0) σ) ∧ (¬ (nI 3341) ≤ x1 → ar 0 σ (s_r σ b 0) x1 (fun q1 j2 => Q (s_i σ q1 j2) σ))))
abbrev rm_P_codeAt : Room := { frames := 0, cells := 0, slots := 0, locals := 0 }

def P_B_fillLetters (b : Nat) (σ : St) (Q : St → Prop) : Prop :=
  s_s σ b = some (.inl 5) ∧ ∀ (K2 : Int32 → St → Prop) (K41 : Int32 → Int32 → St → Prop),
    (∀ (x1 : Int32) (σ : St), (al σ (s_r σ b 1) (fun n1 => ((nI n1) ≤ x1 → K41 (((s_i σ b 4) * (s_i σ b 4)) * (s_i σ b 4)) (nI 0) σ) ∧ (¬ (nI n1) ≤ x1 → ar 0 σ (s_r σ b 1) x1 (fun q2 j3 => K2 (x1 + nI 1) (w_i σ q2 j3 (nI 0)))))) → K2 x1 σ) →
    (∀ (x1 : Int32) (x2 : Int32) (σ : St), ((x1 ≤ x2 → Q σ) ∧ (¬ x1 ≤ x2 → ((s_i σ b 4) ≤ 0 → Q σ) ∧ (¬ (s_i σ b 4) ≤ 0 → ¬ (s_i σ b 4) = 0 ∧ (ar 0 σ (s_r σ b 1) (irem x2 (s_i σ b 4)) (fun q4 j5 => ar 0 σ (s_r σ b 1) (irem x2 (s_i σ b 4)) (fun q6 j7 => ¬ (s_i (w_i σ q6 j7 ((s_i σ q4 j5) ||| (shl (nI 1) x2))) b 4) = 0 ∧ (¬ (s_i (w_i σ q6 j7 ((s_i σ q4 j5) ||| (shl (nI 1) x2))) b 4) = 0 ∧ (ar 0 (w_i σ q6 j7 ((s_i σ q4 j5) ||| (shl (nI 1) x2))) (s_r (w_i σ q6 j7 ((s_i σ q4 j5) ||| (shl (nI 1) x2))) b 1) ((nI 3) + (irem (x2 / (s_i (w_i σ q6 j7 ((s_i σ q4 j5) ||| (shl (nI 1) x2))) b 4)) (s_i (w_i σ q6 j7 ((s_i σ q4 j5) ||| (shl (nI 1) x2))) b 4))) (fun q8 j9 => ar 0 (w_i σ q6 j7 ((s_i σ q4 j5) ||| (shl (nI 1) x2))) (s_r (w_i σ q6 j7 ((s_i σ q4 j5) ||| (shl (nI 1) x2))) b 1) ((nI 3) + (irem (x2 / (s_i (w_i σ q6 j7 ((s_i σ q4 j5) ||| (shl (nI 1) x2))) b 4)) (s_i (w_i σ q6 j7 ((s_i σ q4 j5) ||| (shl (nI 1) x2))) b 4))) (fun q10 j11 => ¬ ((s_i (w_i (w_i σ q6 j7 ((s_i σ q4 j5) ||| (shl (nI 1) x2))) q10 j11 ((s_i (w_i σ q6 j7 ((s_i σ q4 j5) ||| (shl (nI 1) x2))) q8 j9) ||| (shl (nI 1) x2))) b 4) * (s_i (w_i (w_i σ q6 j7 ((s_i σ q4 j5) ||| (shl (nI 1) x2))) q10 j11 ((s_i (w_i σ q6 j7 ((s_i σ q4 j5) ||| (shl (nI 1) x2))) q8 j9) ||| (shl (nI 1) x2))) b 4)) = 0 ∧ (ar 0 (w_i (w_i σ q6 j7 ((s_i σ q4 j5) ||| (shl (nI 1) x2))) q10 j11 ((s_i (w_i σ q6 j7 ((s_i σ q4 j5) ||| (shl (nI 1) x2))) q8 j9) ||| (shl (nI 1) x2))) (s_r (w_i (w_i σ q6 j7 ((s_i σ q4 j5) ||| (shl (nI 1) x2))) q10 j11 ((s_i (w_i σ q6 j7 ((s_i σ q4 j5) ||| (shl (nI 1) x2))) q8 j9) ||| (shl (nI 1) x2))) b 1) ((nI 6) + (x2 / ((s_i (w_i (w_i σ q6 j7 ((s_i σ q4 j5) ||| (shl (nI 1) x2))) q10 j11 ((s_i (w_i σ q6 j7 ((s_i σ q4 j5) ||| (shl (nI 1) x2))) q8 j9) ||| (shl (nI 1) x2))) b 4) * (s_i (w_i (w_i σ q6 j7 ((s_i σ q4 j5) ||| (shl (nI 1) x2))) q10 j11 ((s_i (w_i σ q6 j7 ((s_i σ q4 j5) ||| (shl (nI 1) x2))) q8 j9) ||| (shl (nI 1) x2))) b 4)))) (fun q12 j13 => ar 0 (w_i (w_i σ q6 j7 ((s_i σ q4 j5) ||| (shl (nI 1) x2))) q10 j11 ((s_i (w_i σ q6 j7 ((s_i σ q4 j5) ||| (shl (nI 1) x2))) q8 j9) ||| (shl (nI 1) x2))) (s_r (w_i (w_i σ q6 j7 ((s_i σ q4 j5) ||| (shl (nI 1) x2))) q10 j11 ((s_i (w_i σ q6 j7 ((s_i σ q4 j5) ||| (shl (nI 1) x2))) q8 j9) ||| (shl (nI 1) x2))) b 1) ((nI 6) + (x2 / ((s_i (w_i (w_i σ q6 j7 ((s_i σ q4 j5) ||| (shl (nI 1) x2))) q10 j11 ((s_i (w_i σ q6 j7 ((s_i σ q4 j5) ||| (shl (nI 1) x2))) q8 j9) ||| (shl (nI 1) x2))) b 4) * (s_i (w_i (w_i σ q6 j7 ((s_i σ q4 j5) ||| (shl (nI 1) x2))) q10 j11 ((s_i (w_i σ q6 j7 ((s_i σ q4 j5) ||| (shl (nI 1) x2))) q8 j9) ||| (shl (nI 1) x2))) b 4)))) (fun q14 j15 => K41 x1 (x2 + nI 1) (w_i (w_i (w_i σ q6 j7 ((s_i σ q4 j5) ||| (shl (nI 1) x2))) q10 j11 ((s_i (w_i σ q6 j7 ((s_i σ q4 j5) ||| (shl (nI 1) x2))) q8 j9) ||| (shl (nI 1) x2))) q14 j15 ((s_i (w_i (w_i σ q6 j7 ((s_i σ q4 j5) ||| (shl (nI 1) x2))) q10 j11 ((s_i (w_i σ q6 j7 ((s_i σ q4 j5) ||| (shl (nI 1) x2))) q8 j9) ||| (shl (nI 1) x2))) q12 j13) ||| (shl (nI 1) x2)))))))))))))))) → K41 x1 x2 σ) →
    (K2 (nI 0) σ)
abbrev rm_B_fillLetters : Room := { frames := 0, cells := 0, slots := 0, locals := 0 }

def P_B_open (b : Nat) (x1 : Int32) (x2 : Int32) (σ : St) (Q : St → Prop) : Prop :=
  s_s σ b = some (.inl 5) ∧ ∀ (K34 : Int32 → Int32 → Int32 → St → Prop),
    (∀ (x1 : Int32) (x3 : Int32) (x4 : Int32) (σ : St), (((x1 * x1) ≤ x4 → Q σ) ∧ (¬ (x1 * x1) ≤ x4 → ¬ x1 = 0 ∧ (ar 0 σ (s_r σ b 0) x4 (fun q1 j2 => ¬ x1 = 0 ∧ (K34 x1 (x3 / x1) (x4 + nI 1) (w_i σ q1 j2 (irem x3 x1))))))) → K34 x1 x3 x4 σ) →
    (P_C_isSize x1 σ (fun r4 σ3 => (r4 = 0 → Q σ3) ∧ (¬ r4 = 0 → (0 ≤ x2 → ((s_i σ3 b 4) = x1 → K34 x1 x2 (nI 0) σ3) ∧ (¬ (s_i σ3 b 4) = x1 → P_B_fillLetters b (w_i σ3 b 4 x1) (fun σ5 => K34 x1 x2 (nI 0) σ5))) ∧ (¬ 0 ≤ x2 → Q σ3))))
abbrev rm_B_open : Room := { frames := 1, cells := 0, slots := 0, locals := 22 }

def P_B_join (b : Nat) (x1 : Int32) (x2 : Int32) (σ : St) (Q : St → Prop) : Prop :=
  s_s σ b = some (.inl 5) ∧ ∀ (K2 : Int32 → Int32 → Int32 → St → Prop) (K23 : Int32 → Int32 → Int32 → Int32 → Int32 → St → Prop) (K85 : Int32 → Int32 → St → Prop),
    (∀ (x1 : Int32) (x2 : Int32) (x3 : Int32) (σ : St), (((s_i σ b 4) ≤ x3 → K85 x1 (nI 0) σ) ∧ (¬ (s_i σ b 4) ≤ x3 → ar 0 σ (s_r σ b 2) (x1 + x3) (fun q1 j2 => K23 x1 x2 x3 (s_i σ q1 j2) (nI 0) σ))) → K2 x1 x2 x3 σ) →
    (∀ (x1 : Int32) (x2 : Int32) (x3 : Int32) (x4 : Int32) (x5 : Int32) (σ : St), (((s_i σ b 4) ≤ x5 → K2 x1 x2 (x3 + nI 1) σ) ∧ (¬ (s_i σ b 4) ≤ x5 → (x4 = 0 → K2 x1 x2 (x3 + nI 1) σ) ∧ (¬ x4 = 0 → ar 0 σ (s_r σ b 0) (((s_i σ b 4) * x3) + x5) (fun q3 j4 => ar 0 σ (s_r σ b 3) (s_i σ q3 j4) (fun q5 j6 => ar 0 σ (s_r σ b 2) (x2 + x5) (fun q7 j8 => ar 0 σ (s_r σ b 3) (s_i σ q3 j4) (fun q9 j10 => K23 x1 x2 x3 x4 (x5 + nI 1) (w_i σ q9 j10 ((s_i σ q5 j6) ||| (x4 &&& (s_i σ q7 j8))))))))))) → K23 x1 x2 x3 x4 x5 σ) →
    (∀ (x1 : Int32) (x3 : Int32) (σ : St), (((nI 3) ≤ x3 → Q σ) ∧ (¬ (nI 3) ≤ x3 → ar 0 σ (s_r σ b 3) x3 (fun q11 j12 => ar 0 σ (s_r σ b 2) (x1 + x3) (fun q13 j14 => ar 0 (w_i σ q13 j14 (s_i σ q11 j12)) (s_r (w_i σ q13 j14 (s_i σ q11 j12)) b 3) x3 (fun q15 j16 => K85 x1 (x3 + nI 1) (w_i (w_i σ q13 j14 (s_i σ q11 j12)) q15 j16 (nI 0))))))) → K85 x1 x3 σ) →
    (K2 x1 x2 (nI 0) σ)
abbrev rm_B_join : Room := { frames := 0, cells := 0, slots := 0, locals := 0 }

def P_B_run (b : Nat) (o1 : Option Nat) (σ : St) (Q : St → Prop) : Prop :=
  s_s σ b = some (.inl 5) ∧ ∀ (K4 : Option Nat → Int32 → Int32 → St → Prop) (K66 : Option Nat → Int32 → Int32 → Int32 → Int32 → St → Prop),
    (∀ (o1 : Option Nat) (x2 : Int32) (x3 : Int32) (σ : St), (ob 4 σ o1 (fun q1 => ((s_i σ q1 1) ≤ x3 → Q σ) ∧ (¬ (s_i σ q1 1) ≤ x3 → ob 4 σ o1 (fun q2 => ar 0 σ (s_r σ q2 0) x3 (fun q3 j4 => ((s_i σ q3 j4) = (nI 3) → (x2 < (nI 2) → P_L_isLetter (s_i σ q3 j4) σ (fun r8 σ7 => (r8 = 0 → K4 o1 x2 (x3 + nI 1) σ7) ∧ (¬ r8 = 0 → ((nI 6) ≤ x2 → K4 o1 x2 (x3 + nI 1) σ7) ∧ (¬ (nI 6) ≤ x2 → K66 o1 x2 x3 (s_i σ q3 j4) (nI 0) σ7)))) ∧ (¬ x2 < (nI 2) → P_B_join b ((nI 3) * ((x2 + (-1)) - (nI 1))) ((nI 3) * (x2 + (-1))) σ (fun σ9 => K4 o1 (x2 + (-1)) (x3 + nI 1) σ9))) ∧ (¬ (s_i σ q3 j4) = (nI 3) → P_L_isLetter (s_i σ q3 j4) σ (fun r6 σ5 => (r6 = 0 → K4 o1 x2 (x3 + nI 1) σ5) ∧ (¬ r6 = 0 → ((nI 6) ≤ x2 → K4 o1 x2 (x3 + nI 1) σ5) ∧ (¬ (nI 6) ≤ x2 → K66 o1 x2 x3 (s_i σ q3 j4) (nI 0) σ5))))))))) → K4 o1 x2 x3 σ) →
    (∀ (o1 : Option Nat) (x2 : Int32) (x3 : Int32) (x4 : Int32) (x5 : Int32) (σ : St), (((nI 3) ≤ x5 → K4 o1 (x2 + nI 1) (x3 + nI 1) σ) ∧ (¬ (nI 3) ≤ x5 → ar 0 σ (s_r σ b 1) (((nI 3) * x4) + x5) (fun q10 j11 => ar 0 σ (s_r σ b 2) (((nI 3) * x2) + x5) (fun q12 j13 => K66 o1 x2 x3 x4 (x5 + nI 1) (w_i σ q12 j13 (s_i σ q10 j11)))))) → K66 o1 x2 x3 x4 x5 σ) →
    (K4 o1 (nI 0) (nI 0) σ)
abbrev rm_B_run : Room := { frames := 1, cells := 0, slots := 0, locals := 25 }

def P_B_brokenCases (b : Nat) (σ : St) (Q : Int32 → St → Prop) : Prop :=
  s_s σ b = some (.inl 5) ∧ ∀ (K4 : Int32 → Int32 → St → Prop),
    (∀ (x1 : Int32) (x2 : Int32) (σ : St), (((nI 3) ≤ x2 → Q (((shl (nI 1) (((s_i σ b 4) * (s_i σ b 4)) * (s_i σ b 4))) - (nI 1)) &&& (x1 ^^^ (-1))) σ) ∧ (¬ (nI 3) ≤ x2 → ar 0 σ (s_r σ b 2) x2 (fun q1 j2 => ar 0 σ (s_r σ b 2) ((nI 3) + x2) (fun q3 j4 => K4 (x1 ||| ((s_i σ q1 j2) &&& (s_i σ q3 j4))) (x2 + nI 1) σ)))) → K4 x1 x2 σ) →
    (K4 (nI 0) (nI 0) σ)
abbrev rm_B_brokenCases : Room := { frames := 0, cells := 0, slots := 0, locals := 0 }

def P_I_bitCount (x0 : Int32) (σ : St) (Q : Int32 → St → Prop) : Prop :=
  (Q ((((((((x0 - ((ushr x0 (nI 1)) &&& (nI 1431655765))) &&& (nI 858993459)) + ((ushr (x0 - ((ushr x0 (nI 1)) &&& (nI 1431655765))) (nI 2)) &&& (nI 858993459))) + (ushr (((x0 - ((ushr x0 (nI 1)) &&& (nI 1431655765))) &&& (nI 858993459)) + ((ushr (x0 - ((ushr x0 (nI 1)) &&& (nI 1431655765))) (nI 2)) &&& (nI 858993459))) (nI 4))) &&& (nI 252645135)) + (ushr (((((x0 - ((ushr x0 (nI 1)) &&& (nI 1431655765))) &&& (nI 858993459)) + ((ushr (x0 - ((ushr x0 (nI 1)) &&& (nI 1431655765))) (nI 2)) &&& (nI 858993459))) + (ushr (((x0 - ((ushr x0 (nI 1)) &&& (nI 1431655765))) &&& (nI 858993459)) + ((ushr (x0 - ((ushr x0 (nI 1)) &&& (nI 1431655765))) (nI 2)) &&& (nI 858993459))) (nI 4))) &&& (nI 252645135)) (nI 8))) + (ushr ((((((x0 - ((ushr x0 (nI 1)) &&& (nI 1431655765))) &&& (nI 858993459)) + ((ushr (x0 - ((ushr x0 (nI 1)) &&& (nI 1431655765))) (nI 2)) &&& (nI 858993459))) + (ushr (((x0 - ((ushr x0 (nI 1)) &&& (nI 1431655765))) &&& (nI 858993459)) + ((ushr (x0 - ((ushr x0 (nI 1)) &&& (nI 1431655765))) (nI 2)) &&& (nI 858993459))) (nI 4))) &&& (nI 252645135)) + (ushr (((((x0 - ((ushr x0 (nI 1)) &&& (nI 1431655765))) &&& (nI 858993459)) + ((ushr (x0 - ((ushr x0 (nI 1)) &&& (nI 1431655765))) (nI 2)) &&& (nI 858993459))) + (ushr (((x0 - ((ushr x0 (nI 1)) &&& (nI 1431655765))) &&& (nI 858993459)) + ((ushr (x0 - ((ushr x0 (nI 1)) &&& (nI 1431655765))) (nI 2)) &&& (nI 858993459))) (nI 4))) &&& (nI 252645135)) (nI 8))) (nI 16))) &&& (nI 63)) σ)
abbrev rm_I_bitCount : Room := { frames := 0, cells := 0, slots := 0, locals := 0 }

def P_E_countBroken (b : Nat) (o1 : Option Nat) (σ : St) (mc : Nat) (ms : Nat) (Q : St → Prop) : Prop :=
  s_s σ b = some (.inl 6) ∧ ∀ (K26 : Option Nat → Int32 → St → Nat → Nat → Prop),
    (∀ (o1 : Option Nat) (x2 : Int32) (σ : St) (ca : Nat) (cb : Nat), (((nI 3341) ≤ x2 → ob 4 σ o1 (fun q1 => Q (w_i σ q1 5 (nI 1)))) ∧ (¬ (nI 3341) ≤ x2 → nn (s_r σ b 1) (fun q2 => P_P_sizeAt q2 x2 σ (fun r4 σ3 => nn (s_r σ3 b 1) (fun q5 => P_P_codeAt q5 x2 σ3 (fun r7 σ6 => nn (s_r σ b 0) (fun q8 => P_B_open q8 r4 r7 σ6 (fun σ9 => nn (s_r σ9 b 0) (fun q10 => P_B_run q10 o1 σ9 (fun σ11 => ob 4 σ11 o1 (fun q12 => nn (s_r σ11 b 0) (fun q13 => P_B_brokenCases q13 σ11 (fun r15 σ14 => P_I_bitCount r15 σ14 (fun r17 σ16 => ar 2 σ16 (s_r σ11 q12 4) x2 (fun q18 j19 => K26 o1 (x2 + nI 1) (w_i σ16 q18 j19 (vp_nar .byte (byt r17))) ca cb))))))))))))))) → K26 o1 x2 σ ca cb) →
    (ob 4 σ o1 (fun q20 => ((s_i σ q20 5) = 0 → ob 4 σ o1 (fun q21 => ((s_r σ q21 4) = none → 0 + 1 ≤ mc ∧ 0 + 3341 ≤ ms ∧ nw σ (.inr (2, 3341)) (fun q22 σ23 => ob 4 σ23 o1 (fun q24 => K26 o1 (nI 0) (w_r σ23 q24 4 (some q22)) (0 + 1) (0 + 3341)))) ∧ (¬ (s_r σ q21 4) = none → K26 o1 (nI 0) σ 0 0))) ∧ (¬ (s_i σ q20 5) = 0 → Q σ)))
abbrev rm_E_countBroken (mc ms : Nat) : Room := { frames := 2, cells := mc, slots := ms, locals := 50 }

def P_E_demand (b : Nat) (o1 : Option Nat) (x2 : Int32) (σ : St) (mc : Nat) (ms : Nat) (Q : St → Prop) : Prop :=
  s_s σ b = some (.inl 6) ∧ ∀ (K7 : Option Nat → Int32 → Int32 → St → Nat → Nat → Prop),
    (∀ (o1 : Option Nat) (x2 : Int32) (x3 : Int32) (σ : St) (ca : Nat) (cb : Nat), (ob 1 σ o1 (fun q1 => ((s_i σ q1 2) ≤ x3 → Q σ) ∧ (¬ (s_i σ q1 2) ≤ x3 → nn o1 (fun q2 => P_S_lawAt q2 x3 σ (fun r4 σ3 => (r4 = none → K7 o1 x2 (x3 + nI 1) σ3 ca cb) ∧ (¬ r4 = none → (x3 = x2 → K7 o1 x2 (x3 + nI 1) σ3 ca cb) ∧ (¬ x3 = x2 → ob 1 σ3 o1 (fun q5 => ar 1 σ3 (s_r σ3 q5 1) x3 (fun q6 j7 => ((s_i σ3 q6 j7) = 0 → K7 o1 x2 (x3 + nI 1) σ3 ca cb) ∧ (¬ (s_i σ3 q6 j7) = 0 → ((nI 5) ≤ (s_i σ3 b 3) → K7 o1 x2 (x3 + nI 1) σ3 ca cb) ∧ (¬ (nI 5) ≤ (s_i σ3 b 3) → ∃ c8 d9, ca + c8 ≤ mc ∧ cb + d9 ≤ ms ∧ (P_E_countBroken b r4 σ3 c8 d9 (fun σ10 => ar 5 σ10 (s_r σ10 b 2) (s_i σ10 b 3) (fun q11 j12 => (∀ y, r4 = some y → s_s σ10 y = some (.inl (cix 5))) ∧ (K7 o1 x2 (x3 + nI 1) (w_i (w_r σ10 q11 j12 r4) b 3 ((s_i (w_r σ10 q11 j12 r4) b 3) + (nI 1))) (ca + c8) (cb + d9)))))))))))))))) → K7 o1 x2 x3 σ ca cb) →
    (K7 o1 x2 (nI 0) (w_i σ b 3 (nI 0)) 0 0)
abbrev rm_E_demand (mc ms : Nat) : Room := { frames := 3, cells := mc, slots := ms, locals := 72 }

def P_L_brokenAt (b : Nat) (x1 : Int32) (σ : St) (Q : Int32 → St → Prop) : Prop :=
  s_s σ b = some (.inl 4) ∧ (((s_r σ b 4) = none → Q (nI 0) σ) ∧ (¬ (s_r σ b 4) = none → (x1 < 0 → Q (nI 0) σ) ∧ (¬ x1 < 0 → al σ (s_r σ b 4) (fun n1 => (x1 < (nI n1) → ar 2 σ (s_r σ b 4) x1 (fun q2 j3 => Q (s_i σ q2 j3) σ)) ∧ (¬ x1 < (nI n1) → Q (nI 0) σ)))))
abbrev rm_L_brokenAt : Room := { frames := 0, cells := 0, slots := 0, locals := 0 }

def P_E_isAmongFirst (b : Nat) (x1 : Int32) (σ : St) (Q : Int32 → St → Prop) : Prop :=
  s_s σ b = some (.inl 6) ∧ (((s_i σ b 6) < (nI 12) → Q (nI 1) σ) ∧ (¬ (s_i σ b 6) < (nI 12) → ar 0 σ (s_r σ b 5) (nI 11) (fun q1 j2 => ((s_i σ q1 j2) ≤ x1 → Q (nI 0) σ) ∧ (¬ (s_i σ q1 j2) ≤ x1 → Q (nI 1) σ))))
abbrev rm_E_isAmongFirst : Room := { frames := 0, cells := 0, slots := 0, locals := 0 }

def P_E_isModel (b : Nat) (x1 : Int32) (σ : St) (Q : Int32 → St → Prop) : Prop :=
  s_s σ b = some (.inl 6) ∧ ∀ (K2 : Int32 → Int32 → St → Prop),
    (∀ (x1 : Int32) (x2 : Int32) (σ : St), (((s_i σ b 3) ≤ x2 → Q (nI 1) σ) ∧ (¬ (s_i σ b 3) ≤ x2 → ar 5 σ (s_r σ b 2) x2 (fun q1 j2 => ((s_r σ q1 j2) = none → K2 x1 (x2 + nI 1) σ) ∧ (¬ (s_r σ q1 j2) = none → nn (s_r σ q1 j2) (fun q3 => P_L_brokenAt q3 x1 σ (fun r5 σ4 => (r5 ≤ 0 → K2 x1 (x2 + nI 1) σ4) ∧ (¬ r5 ≤ 0 → Q (nI 0) σ4))))))) → K2 x1 x2 σ) →
    (K2 x1 (nI 0) σ)
abbrev rm_E_isModel : Room := { frames := 1, cells := 0, slots := 0, locals := 21 }

def P_E_tell (b : Nat) (x1 : Int32) (x2 : Int32) (σ : St) (Q : St → Prop) : Prop :=
  s_s σ b = some (.inl 6) ∧ ∀ (K19 : Int32 → Int32 → Int32 → St → Prop),
    (∀ (x1 : Int32) (x2 : Int32) (x3 : Int32) (σ : St), ((x3 ≤ 0 → ar 0 σ (s_r σ b 4) x3 (fun q1 j2 => ar 0 (w_i σ q1 j2 x1) (s_r (w_i σ q1 j2 x1) b 5) x3 (fun q3 j4 => Q (w_i (w_i (w_i σ q1 j2 x1) q3 j4 x2) b 6 (mn ((s_i (w_i (w_i σ q1 j2 x1) q3 j4 x2) b 6) + (nI 1)) (nI 12)))))) ∧ (¬ x3 ≤ 0 → ar 0 σ (s_r σ b 5) (x3 - (nI 1)) (fun q5 j6 => ((s_i σ q5 j6) ≤ x2 → ar 0 σ (s_r σ b 4) x3 (fun q7 j8 => ar 0 (w_i σ q7 j8 x1) (s_r (w_i σ q7 j8 x1) b 5) x3 (fun q9 j10 => Q (w_i (w_i (w_i σ q7 j8 x1) q9 j10 x2) b 6 (mn ((s_i (w_i (w_i σ q7 j8 x1) q9 j10 x2) b 6) + (nI 1)) (nI 12)))))) ∧ (¬ (s_i σ q5 j6) ≤ x2 → ar 0 σ (s_r σ b 4) (x3 - (nI 1)) (fun q11 j12 => ar 0 σ (s_r σ b 4) x3 (fun q13 j14 => ar 0 (w_i σ q13 j14 (s_i σ q11 j12)) (s_r (w_i σ q13 j14 (s_i σ q11 j12)) b 5) (x3 - (nI 1)) (fun q15 j16 => ar 0 (w_i σ q13 j14 (s_i σ q11 j12)) (s_r (w_i σ q13 j14 (s_i σ q11 j12)) b 5) x3 (fun q17 j18 => K19 x1 x2 (x3 + (-1)) (w_i (w_i σ q13 j14 (s_i σ q11 j12)) q17 j18 (s_i (w_i σ q13 j14 (s_i σ q11 j12)) q15 j16)))))))))) → K19 x1 x2 x3 σ) →
    (((nI 12) ≤ (s_i σ b 6) → K19 x1 x2 (nI 11) σ) ∧ (¬ (nI 12) ≤ (s_i σ b 6) → K19 x1 x2 (s_i σ b 6) σ))
abbrev rm_E_tell : Room := { frames := 1, cells := 0, slots := 0, locals := 21 }

def P_E_findWitnesses (b : Nat) (o1 : Option Nat) (x2 : Int32) (σ : St) (mc : Nat) (ms : Nat) (Q : Int32 → St → Prop) : Prop :=
  s_s σ b = some (.inl 6) ∧ ∀ (K38 : Option Nat → Int32 → St → Nat → Nat → Prop),
    (∀ (o3 : Option Nat) (x4 : Int32) (σ : St) (ca : Nat) (cb : Nat), (((nI 3341) ≤ x4 → Q (s_i σ b 6) σ) ∧ (¬ (nI 3341) ≤ x4 → nn o3 (fun q1 => P_L_brokenAt q1 x4 σ (fun r3 σ2 => (r3 ≤ 0 → K38 o3 (x4 + nI 1) σ2 ca cb) ∧ (¬ r3 ≤ 0 → P_E_isAmongFirst b r3 σ2 (fun r5 σ4 => (r5 = 0 → K38 o3 (x4 + nI 1) σ4 ca cb) ∧ (¬ r5 = 0 → P_E_isModel b x4 σ4 (fun r7 σ6 => (r7 = 0 → K38 o3 (x4 + nI 1) σ6 ca cb) ∧ (¬ r7 = 0 → P_E_tell b x4 r3 σ6 (fun σ8 => K38 o3 (x4 + nI 1) σ8 ca cb)))))))))) → K38 o3 x4 σ ca cb) →
    (nn o1 (fun q9 => P_S_lawAt q9 x2 (w_i σ b 6 (nI 0)) (fun r11 σ10 => (r11 = none → Q (nI 0) σ10) ∧ (¬ r11 = none → nn (s_r σ10 b 1) (fun q12 => ∃ c13 d14, 0 + c13 ≤ mc ∧ 0 + d14 ≤ ms ∧ (P_P_list q12 σ10 c13 d14 (fun σ15 => ∃ c16 d17, 0 + c13 + c16 ≤ mc ∧ 0 + d14 + d17 ≤ ms ∧ (P_E_demand b o1 x2 σ15 c16 d17 (fun σ18 => ∃ c19 d20, 0 + c13 + c16 + c19 ≤ mc ∧ 0 + d14 + d17 + d20 ≤ ms ∧ (P_E_countBroken b r11 σ18 c19 d20 (fun σ21 => K38 r11 (nI 0) σ21 (0 + c13 + c16 + c19) (0 + d14 + d17 + d20))))))))))))
abbrev rm_E_findWitnesses (mc ms : Nat) : Room := { frames := 4, cells := mc, slots := ms, locals := 100 }

def P_E_witnessNumber (b : Nat) (x1 : Int32) (x2 : Int32) (σ : St) (Q : Int32 → St → Prop) : Prop :=
  s_s σ b = some (.inl 6) ∧ ((x1 < 0 → Q (-5) σ) ∧ (¬ x1 < 0 → (x1 < (s_i σ b 6) → (x2 = (nI 2) → ar 0 σ (s_r σ b 5) x1 (fun q11 j12 => Q (s_i σ q11 j12) σ)) ∧ (¬ x2 = (nI 2) → (x2 = (nI 1) → ar 0 σ (s_r σ b 4) x1 (fun q6 j7 => nn (s_r σ b 1) (fun q8 => P_P_codeAt q8 (s_i σ q6 j7) σ (fun r10 σ9 => Q r10 σ9)))) ∧ (¬ x2 = (nI 1) → ar 0 σ (s_r σ b 4) x1 (fun q1 j2 => nn (s_r σ b 1) (fun q3 => P_P_sizeAt q3 (s_i σ q1 j2) σ (fun r5 σ4 => Q r5 σ4)))))) ∧ (¬ x1 < (s_i σ b 6) → Q (-5) σ)))
abbrev rm_E_witnessNumber : Room := { frames := 1, cells := 0, slots := 0, locals := 21 }

def P_X_refute (b : Nat) (x1 : Int32) (σ : St) (mc : Nat) (ms : Nat) (Q : Int32 → St → Prop) : Prop :=
  s_s σ b = some (.inl 0) ∧ (nn (s_r σ b 0) (fun q1 => P_S_hasLaw q1 x1 σ (fun r3 σ2 => (r3 = 0 → Q (-1) σ2) ∧ (¬ r3 = 0 → nn (s_r σ2 b 4) (fun q4 => ∃ c5 d6, 0 + c5 ≤ mc ∧ 0 + d6 ≤ ms ∧ (P_E_findWitnesses q4 (s_r σ2 b 0) x1 σ2 c5 d6 (fun r8 σ7 => (r8 = 0 → Q (-5) σ7) ∧ (¬ r8 = 0 → nn (s_r σ7 b 1) (fun q9 => P_H_record q9 (s_r σ7 b 0) σ7 (fun σ10 => nn (s_r σ10 b 4) (fun q11 => P_E_witnessNumber q11 (nI 0) (nI 0) σ10 (fun r13 σ12 => ob 1 σ12 (s_r σ10 b 0) (fun q14 => nn (s_r (w_i σ12 q14 3 r13) b 4) (fun q15 => P_E_witnessNumber q15 (nI 0) (nI 1) (w_i σ12 q14 3 r13) (fun r17 σ16 => ob 1 σ16 (s_r (w_i σ12 q14 3 r13) b 0) (fun q18 => ob 1 (w_i σ16 q18 4 r17) (s_r (w_i σ16 q18 4 r17) b 0) (fun q19 => Q (s_i (w_i σ16 q18 4 r17) q19 4) (w_i σ16 q18 4 r17))))))))))))))))))
abbrev rm_X_refute (mc ms : Nat) : Room := { frames := 5, cells := mc, slots := ms, locals := 125 }

def P_X_type (b : Nat) (x1 : Int32) (σ : St) (Q : Int32 → St → Prop) : Prop :=
  s_s σ b = some (.inl 0) ∧ (((s_i σ b 7) < (nI 60) → ar 3 σ (s_r σ b 6) (s_i σ b 7) (fun q1 j2 => Q (s_i (w_i (w_i σ q1 j2 (vp_nar .char x1)) b 7 ((s_i (w_i σ q1 j2 (vp_nar .char x1)) b 7) + (nI 1))) b 7) (w_i (w_i σ q1 j2 (vp_nar .char x1)) b 7 ((s_i (w_i σ q1 j2 (vp_nar .char x1)) b 7) + (nI 1))))) ∧ (¬ (s_i σ b 7) < (nI 60) → Q (-3) σ))
abbrev rm_X_type : Room := { frames := 0, cells := 0, slots := 0, locals := 0 }

def P_X_clearText (b : Nat) (σ : St) (Q : Int32 → St → Prop) : Prop :=
  s_s σ b = some (.inl 0) ∧ (Q (s_i σ b 7) (w_i σ b 7 (nI 0)))
abbrev rm_X_clearText : Room := { frames := 0, cells := 0, slots := 0, locals := 0 }

def P_H_goBack (b : Nat) (o1 : Option Nat) (σ : St) (Q : Int32 → St → Prop) : Prop :=
  s_s σ b = some (.inl 2) ∧ (((s_i σ b 2) = 0 → Q (nI 0) σ) ∧ (¬ (s_i σ b 2) = 0 → ar 6 (w_i σ b 2 ((s_i σ b 2) - (nI 1))) (s_r (w_i σ b 2 ((s_i σ b 2) - (nI 1))) b 0) (s_i (w_i σ b 2 ((s_i σ b 2) - (nI 1))) b 2) (fun q1 j2 => nn o1 (fun q3 => P_S_copyFrom q3 (s_r (w_i σ b 2 ((s_i σ b 2) - (nI 1))) q1 j2) (w_i σ b 2 ((s_i σ b 2) - (nI 1))) (fun σ4 => Q (nI 1) σ4)))))
abbrev rm_H_goBack : Room := { frames := 1, cells := 0, slots := 0, locals := 22 }

def P_X_undo (b : Nat) (σ : St) (Q : Int32 → St → Prop) : Prop :=
  s_s σ b = some (.inl 0) ∧ (nn (s_r σ b 1) (fun q1 => P_H_goBack q1 (s_r σ b 0) σ (fun r3 σ2 => (r3 = 0 → Q (-5) σ2) ∧ (¬ r3 = 0 → ob 2 σ2 (s_r σ2 b 1) (fun q4 => Q (s_i σ2 q4 2) σ2)))))
abbrev rm_X_undo : Room := { frames := 2, cells := 0, slots := 0, locals := 43 }

def P_H_takeSnapshot (b : Nat) (o1 : Option Nat) (σ : St) (Q : St → Prop) : Prop :=
  s_s σ b = some (.inl 2) ∧ (nn (s_r σ b 1) (fun q1 => P_S_copyFrom q1 o1 σ (fun σ2 => Q (w_i σ2 b 3 (nI 1)))))
abbrev rm_H_takeSnapshot : Room := { frames := 1, cells := 0, slots := 0, locals := 22 }

def P_X_keep (b : Nat) (σ : St) (Q : Int32 → St → Prop) : Prop :=
  s_s σ b = some (.inl 0) ∧ (nn (s_r σ b 1) (fun q1 => P_H_takeSnapshot q1 (s_r σ b 0) σ (fun σ2 => ob 1 σ2 (s_r σ2 b 0) (fun q3 => Q (s_i σ2 q3 2) σ2))))
abbrev rm_X_keep : Room := { frames := 2, cells := 0, slots := 0, locals := 43 }

def P_H_bringSnapshot (b : Nat) (o1 : Option Nat) (σ : St) (Q : St → Prop) : Prop :=
  s_s σ b = some (.inl 2) ∧ (nn o1 (fun q1 => P_S_copyFrom q1 (s_r σ b 1) σ (fun σ2 => Q σ2)))
abbrev rm_H_bringSnapshot : Room := { frames := 1, cells := 0, slots := 0, locals := 22 }

def P_X_restore (b : Nat) (σ : St) (Q : Int32 → St → Prop) : Prop :=
  s_s σ b = some (.inl 0) ∧ (ob 2 σ (s_r σ b 1) (fun q1 => ((s_i σ q1 3) = 0 → Q (-5) σ) ∧ (¬ (s_i σ q1 3) = 0 → nn (s_r σ b 1) (fun q2 => P_H_record q2 (s_r σ b 0) σ (fun σ3 => nn (s_r σ3 b 1) (fun q4 => P_H_bringSnapshot q4 (s_r σ3 b 0) σ3 (fun σ5 => ob 1 σ5 (s_r σ5 b 0) (fun q6 => Q (s_i σ5 q6 2) σ5))))))))
abbrev rm_X_restore : Room := { frames := 2, cells := 0, slots := 0, locals := 43 }

def P_X_of (b : Nat) (x1 : Int32) (x2 : Int32) (σ : St) (Q : Int32 → St → Prop) : Prop :=
  s_s σ b = some (.inl 0) ∧ (P_X_isThing b x1 σ (fun r2 σ1 => (r2 = 0 → Q (-1) σ1) ∧ (¬ r2 = 0 → P_X_isThing b x2 σ1 (fun r4 σ3 => (r4 = 0 → Q (-1) σ3) ∧ (¬ r4 = 0 → ob 1 σ3 (s_r σ3 b 0) (fun q5 => ob 1 σ3 (s_r σ3 b 0) (fun q6 => P_C_product (s_i σ3 q5 3) (s_i σ3 q6 4) x1 x2 σ3 (fun r8 σ7 => Q r8 σ7))))))))
abbrev rm_X_of : Room := { frames := 2, cells := 0, slots := 0, locals := 45 }

def P_C_plainCode (x0 : Int32) (x1 : Int32) (σ : St) (Q : Int32 → St → Prop) : Prop :=
  ∀ (K4 : Int32 → Int32 → Int32 → Int32 → St → Prop),
    (∀ (x0 : Int32) (x1 : Int32) (x2 : Int32) (x3 : Int32) (σ : St), (P_C_renamingCount x0 σ (fun r2 σ1 => (r2 ≤ x3 → Q x2 σ1) ∧ (¬ r2 ≤ x3 → P_C_renamed x0 x1 x3 σ1 (fun r4 σ3 => K4 x0 x1 (mn x2 r4) (x3 + nI 1) σ3)))) → K4 x0 x1 x2 x3 σ) →
    (K4 x0 x1 x1 (nI 1) σ)
abbrev rm_C_plainCode : Room := { frames := 2, cells := 0, slots := 0, locals := 50 }

def P_C_alikeCount (x0 : Int32) (x1 : Int32) (σ : St) (Q : Int32 → St → Prop) : Prop :=
  ∀ (K4 : Int32 → Int32 → Int32 → Int32 → St → Prop),
    (∀ (x0 : Int32) (x1 : Int32) (x2 : Int32) (x3 : Int32) (σ : St), (P_C_renamingCount x0 σ (fun r2 σ1 => (r2 ≤ x3 → (x2 = 0 → Q (nI 0) σ1) ∧ (¬ x2 = 0 → P_C_renamingCount x0 σ1 (fun r4 σ3 => ¬ x2 = 0 ∧ (Q (r4 / x2) σ3)))) ∧ (¬ r2 ≤ x3 → P_C_renamed x0 x1 x3 σ1 (fun r6 σ5 => (r6 = x1 → K4 x0 x1 (x2 + nI 1) (x3 + nI 1) σ5) ∧ (¬ r6 = x1 → K4 x0 x1 x2 (x3 + nI 1) σ5))))) → K4 x0 x1 x2 x3 σ) →
    (K4 x0 x1 (nI 1) (nI 1) σ)
abbrev rm_C_alikeCount : Room := { frames := 2, cells := 0, slots := 0, locals := 50 }

def P_C_stayingThings (x0 : Int32) (x1 : Int32) (σ : St) (Q : Int32 → St → Prop) : Prop :=
  ∀ (K4 : Int32 → Int32 → Int32 → Int32 → St → Prop),
    (∀ (x0 : Int32) (x1 : Int32) (x2 : Int32) (x3 : Int32) (σ : St), ((x0 ≤ x3 → Q x2 σ) ∧ (¬ x0 ≤ x3 → P_C_product x0 x1 x3 x3 σ (fun r2 σ1 => (r2 = x3 → K4 x0 x1 (x2 ||| (shl (nI 1) x3)) (x3 + nI 1) σ1) ∧ (¬ r2 = x3 → K4 x0 x1 x2 (x3 + nI 1) σ1)))) → K4 x0 x1 x2 x3 σ) →
    (K4 x0 x1 (nI 0) (nI 0) σ)
abbrev rm_C_stayingThings : Room := { frames := 2, cells := 0, slots := 0, locals := 45 }

def P_C_leftLeavers (x0 : Int32) (x1 : Int32) (σ : St) (Q : Int32 → St → Prop) : Prop :=
  ∀ (K4 : Int32 → Int32 → Int32 → Int32 → St → Prop) (K15 : Int32 → Int32 → Int32 → Int32 → Int32 → Int32 → St → Prop),
    (∀ (x0 : Int32) (x1 : Int32) (x2 : Int32) (x3 : Int32) (σ : St), ((x0 ≤ x3 → Q x2 σ) ∧ (¬ x0 ≤ x3 → K15 x0 x1 x2 x3 (nI 0) (nI 0) σ)) → K4 x0 x1 x2 x3 σ) →
    (∀ (x0 : Int32) (x1 : Int32) (x2 : Int32) (x3 : Int32) (x4 : Int32) (x5 : Int32) (σ : St), ((x0 ≤ x5 → (x4 = x0 → K4 x0 x1 (x2 ||| (shl (nI 1) x3)) (x3 + nI 1) σ) ∧ (¬ x4 = x0 → K4 x0 x1 x2 (x3 + nI 1) σ)) ∧ (¬ x0 ≤ x5 → P_C_product x0 x1 x3 x5 σ (fun r2 σ1 => (r2 = x5 → K15 x0 x1 x2 x3 (x4 + nI 1) (x5 + nI 1) σ1) ∧ (¬ r2 = x5 → K15 x0 x1 x2 x3 x4 (x5 + nI 1) σ1)))) → K15 x0 x1 x2 x3 x4 x5 σ) →
    (K4 x0 x1 (nI 0) (nI 0) σ)
abbrev rm_C_leftLeavers : Room := { frames := 2, cells := 0, slots := 0, locals := 45 }

def P_X_brokenNow (b : Nat) (o1 : Option Nat) (σ : St) (Q : Int32 → St → Prop) : Prop :=
  s_s σ b = some (.inl 0) ∧ (ob 1 σ (s_r σ b 0) (fun q1 => ob 1 σ (s_r σ b 0) (fun q2 => nn (s_r σ b 3) (fun q3 => P_B_open q3 (s_i σ q1 3) (s_i σ q2 4) σ (fun σ4 => nn (s_r σ4 b 3) (fun q5 => P_B_run q5 o1 σ4 (fun σ6 => nn (s_r σ6 b 3) (fun q7 => P_B_brokenCases q7 σ6 (fun r9 σ8 => Q r9 σ8)))))))))
abbrev rm_X_brokenNow : Room := { frames := 2, cells := 0, slots := 0, locals := 50 }

def P_X_countHolding (b : Nat) (x1 : Int32) (σ : St) (Q : Int32 → St → Prop) : Prop :=
  s_s σ b = some (.inl 0) ∧ ∀ (K4 : Int32 → Int32 → Int32 → St → Prop),
    (∀ (x1 : Int32) (x2 : Int32) (x3 : Int32) (σ : St), (ob 1 σ (s_r σ b 0) (fun q1 => ((s_i σ q1 2) ≤ x3 → Q x2 σ) ∧ (¬ (s_i σ q1 2) ≤ x3 → nn (s_r σ b 0) (fun q2 => P_S_lawAt q2 x3 σ (fun r4 σ3 => (r4 = none → K4 x1 x2 (x3 + nI 1) σ3) ∧ (¬ r4 = none → ob 1 σ3 (s_r σ3 b 0) (fun q5 => ar 1 σ3 (s_r σ3 q5 1) x3 (fun q6 j7 => ((s_i σ3 q6 j7) = 0 → (x1 = 0 → P_X_brokenNow b r4 σ3 (fun r11 σ10 => (r11 = 0 → K4 x1 (x2 + nI 1) (x3 + nI 1) σ10) ∧ (¬ r11 = 0 → K4 x1 x2 (x3 + nI 1) σ10))) ∧ (¬ x1 = 0 → K4 x1 x2 (x3 + nI 1) σ3)) ∧ (¬ (s_i σ3 q6 j7) = 0 → P_X_brokenNow b r4 σ3 (fun r9 σ8 => (r9 = 0 → K4 x1 (x2 + nI 1) (x3 + nI 1) σ8) ∧ (¬ r9 = 0 → K4 x1 x2 (x3 + nI 1) σ8))))))))))) → K4 x1 x2 x3 σ) →
    (K4 x1 (nI 0) (nI 0) σ)
abbrev rm_X_countHolding : Room := { frames := 3, cells := 0, slots := 0, locals := 71 }

def P_X_world (b : Nat) (x1 : Int32) (σ : St) (Q : Int32 → St → Prop) : Prop :=
  s_s σ b = some (.inl 0) ∧ ((x1 = nI 0 → ob 1 σ (s_r σ b 0) (fun q1 => Q (s_i σ q1 3) σ)) ∧ (¬ x1 = nI 0 → (x1 = nI 1 → ob 1 σ (s_r σ b 0) (fun q2 => Q (s_i σ q2 4) σ)) ∧ (¬ x1 = nI 1 → (x1 = nI 2 → ob 1 σ (s_r σ b 0) (fun q3 => ob 1 σ (s_r σ b 0) (fun q4 => P_C_plainCode (s_i σ q3 3) (s_i σ q4 4) σ (fun r6 σ5 => Q r6 σ5)))) ∧ (¬ x1 = nI 2 → (x1 = nI 3 → ob 1 σ (s_r σ b 0) (fun q7 => ob 1 σ (s_r σ b 0) (fun q8 => P_C_alikeCount (s_i σ q7 3) (s_i σ q8 4) σ (fun r10 σ9 => Q r10 σ9)))) ∧ (¬ x1 = nI 3 → (x1 = nI 4 → ob 1 σ (s_r σ b 0) (fun q11 => ob 1 σ (s_r σ b 0) (fun q12 => P_C_stayingThings (s_i σ q11 3) (s_i σ q12 4) σ (fun r14 σ13 => Q r14 σ13)))) ∧ (¬ x1 = nI 4 → (x1 = nI 5 → ob 1 σ (s_r σ b 0) (fun q15 => ob 1 σ (s_r σ b 0) (fun q16 => P_C_leftLeavers (s_i σ q15 3) (s_i σ q16 4) σ (fun r18 σ17 => Q r18 σ17)))) ∧ (¬ x1 = nI 5 → (x1 = nI 6 → ob 1 σ (s_r σ b 0) (fun q19 => ob 1 σ (s_r σ b 0) (fun q20 => ob 1 σ (s_r σ b 0) (fun q21 => P_C_mirrored (s_i σ q20 3) (s_i σ q21 4) σ (fun r23 σ22 => P_C_leftLeavers (s_i σ q19 3) r23 σ22 (fun r25 σ24 => Q r25 σ24)))))) ∧ (¬ x1 = nI 6 → (x1 = nI 7 → P_X_countHolding b (nI 1) σ (fun r27 σ26 => nn (s_r σ26 b 0) (fun q28 => P_S_onCount q28 σ26 (fun r30 σ29 => (r27 = r30 → Q (nI 1) σ29) ∧ (¬ r27 = r30 → Q (nI 0) σ29))))) ∧ (¬ x1 = nI 7 → Q (-2) σ)))))))))
abbrev rm_X_world : Room := { frames := 4, cells := 0, slots := 0, locals := 95 }

def P_C_isIn (x0 : Int32) (x1 : Int32) (σ : St) (Q : Int32 → St → Prop) : Prop :=
  ((((shr x0 x1) &&& (nI 1)) = (nI 1) → Q (nI 1) σ) ∧ (¬ ((shr x0 x1) &&& (nI 1)) = (nI 1) → Q (nI 0) σ))
abbrev rm_C_isIn : Room := { frames := 0, cells := 0, slots := 0, locals := 0 }

def P_C_withProducts (x0 : Int32) (x1 : Int32) (x2 : Int32) (σ : St) (Q : Int32 → St → Prop) : Prop :=
  ∀ (K5 : Int32 → Int32 → Int32 → Int32 → Int32 → St → Prop) (K14 : Int32 → Int32 → Int32 → Int32 → Int32 → Int32 → St → Prop),
    (∀ (x0 : Int32) (x1 : Int32) (x2 : Int32) (x3 : Int32) (x4 : Int32) (σ : St), ((x0 ≤ x4 → Q x3 σ) ∧ (¬ x0 ≤ x4 → K14 x0 x1 x2 x3 x4 (nI 0) σ)) → K5 x0 x1 x2 x3 x4 σ) →
    (∀ (x0 : Int32) (x1 : Int32) (x2 : Int32) (x3 : Int32) (x4 : Int32) (x5 : Int32) (σ : St), ((x0 ≤ x5 → K5 x0 x1 x2 x3 (x4 + nI 1) σ) ∧ (¬ x0 ≤ x5 → P_C_isIn x2 x4 σ (fun r2 σ1 => (r2 = 0 → K14 x0 x1 x2 x3 x4 (x5 + nI 1) σ1) ∧ (¬ r2 = 0 → P_C_isIn x2 x5 σ1 (fun r4 σ3 => (r4 = 0 → K14 x0 x1 x2 x3 x4 (x5 + nI 1) σ3) ∧ (¬ r4 = 0 → P_C_product x0 x1 x4 x5 σ3 (fun r6 σ5 => K14 x0 x1 x2 (x3 ||| (shl (nI 1) r6)) x4 (x5 + nI 1) σ5))))))) → K14 x0 x1 x2 x3 x4 x5 σ) →
    (K5 x0 x1 x2 x2 (nI 0) σ)
abbrev rm_C_withProducts : Room := { frames := 2, cells := 0, slots := 0, locals := 45 }

def P_X_closed (b : Nat) (x1 : Int32) (σ : St) (Q : Int32 → St → Prop) : Prop :=
  s_s σ b = some (.inl 0) ∧ ∀ (K24 : Int32 → Int32 → St → Prop),
    (∀ (x2 : Int32) (x3 : Int32) (σ : St), (ob 1 σ (s_r σ b 0) (fun q1 => ((s_i σ q1 3) ≤ x3 → Q x2 σ) ∧ (¬ (s_i σ q1 3) ≤ x3 → ob 1 σ (s_r σ b 0) (fun q2 => ob 1 σ (s_r σ b 0) (fun q3 => P_C_withProducts (s_i σ q2 3) (s_i σ q3 4) x2 σ (fun r5 σ4 => K24 r5 (x3 + nI 1) σ4)))))) → K24 x2 x3 σ) →
    ((x1 < 0 → Q (-2) σ) ∧ (¬ x1 < 0 → ob 1 σ (s_r σ b 0) (fun q6 => (x1 < (shl (nI 1) (s_i σ q6 3)) → K24 x1 (nI 0) σ) ∧ (¬ x1 < (shl (nI 1) (s_i σ q6 3)) → Q (-2) σ))))
abbrev rm_X_closed : Room := { frames := 3, cells := 0, slots := 0, locals := 70 }

def P_X_firstCase (x0 : Int32) (σ : St) (Q : Int32 → St → Prop) : Prop :=
  ((x0 = 0 → Q (-5) σ) ∧ (¬ x0 = 0 → P_I_bitCount ((x0 &&& (-x0)) - (nI 1)) σ (fun r2 σ1 => Q r2 σ1)))
abbrev rm_X_firstCase : Room := { frames := 1, cells := 0, slots := 0, locals := 20 }

def P_X_law (b : Nat) (x1 : Int32) (x2 : Int32) (σ : St) (mc : Nat) (ms : Nat) (Q : Int32 → St → Prop) : Prop :=
  s_s σ b = some (.inl 0) ∧ (nn (s_r σ b 0) (fun q1 => P_S_lawAt q1 x1 σ (fun r3 σ2 => (r3 = none → Q (-1) σ2) ∧ (¬ r3 = none → (x2 = nI 0 → ob 1 σ2 (s_r σ2 b 0) (fun q4 => ar 1 σ2 (s_r σ2 q4 1) x1 (fun q5 j6 => ((s_i σ2 q5 j6) = 0 → Q (nI 0) σ2) ∧ (¬ (s_i σ2 q5 j6) = 0 → Q (nI 1) σ2)))) ∧ (¬ x2 = nI 0 → (x2 = nI 1 → P_X_brokenNow b r3 σ2 (fun r8 σ7 => P_I_bitCount r8 σ7 (fun r10 σ9 => Q r10 σ9))) ∧ (¬ x2 = nI 1 → (x2 = nI 2 → ob 4 σ2 r3 (fun q11 => Q (s_i σ2 q11 2) σ2)) ∧ (¬ x2 = nI 2 → (x2 = nI 3 → ob 4 σ2 r3 (fun q12 => Q (s_i σ2 q12 3) σ2)) ∧ (¬ x2 = nI 3 → (x2 = nI 4 → nn (s_r σ2 b 4) (fun q13 => ∃ c14 d15, 0 + c14 ≤ mc ∧ 0 + d15 ≤ ms ∧ (P_E_findWitnesses q13 (s_r σ2 b 0) x1 σ2 c14 d15 (fun r17 σ16 => (r17 = 0 → Q (nI 1) σ16) ∧ (¬ r17 = 0 → Q (nI 0) σ16))))) ∧ (¬ x2 = nI 4 → (x2 = nI 5 → nn (s_r σ2 b 4) (fun q18 => ∃ c19 d20, 0 + c19 ≤ mc ∧ 0 + d20 ≤ ms ∧ (P_E_findWitnesses q18 (s_r σ2 b 0) x1 σ2 c19 d20 (fun r22 σ21 => Q r22 σ21)))) ∧ (¬ x2 = nI 5 → (x2 = nI 6 → P_X_brokenNow b r3 σ2 (fun r24 σ23 => P_X_firstCase r24 σ23 (fun r26 σ25 => Q r26 σ25))) ∧ (¬ x2 = nI 6 → Q (-2) σ2)))))))))))
abbrev rm_X_law (mc ms : Nat) : Room := { frames := 5, cells := mc, slots := ms, locals := 125 }

def P_B_thingOf (b : Nat) (x1 : Int32) (x2 : Int32) (σ : St) (Q : Int32 → St → Prop) : Prop :=
  s_s σ b = some (.inl 5) ∧ ∀ (K13 : Int32 → Int32 → Int32 → St → Prop),
    (∀ (x2 : Int32) (x3 : Int32) (x4 : Int32) (σ : St), (((nI 3) ≤ x4 → Q (nI 0) σ) ∧ (¬ (nI 3) ≤ x4 → ar 0 σ (s_r σ b 2) (x3 + x4) (fun q1 j2 => P_C_isIn (s_i σ q1 j2) x2 σ (fun r4 σ3 => (r4 = 0 → K13 x2 x3 (x4 + nI 1) σ3) ∧ (¬ r4 = 0 → Q x4 σ3))))) → K13 x2 x3 x4 σ) →
    ((x1 = 0 → K13 x2 (nI 0) (nI 1) σ) ∧ (¬ x1 = 0 → K13 x2 (nI 3) (nI 1) σ))
abbrev rm_B_thingOf : Room := { frames := 1, cells := 0, slots := 0, locals := 21 }

def P_X_side (b : Nat) (x1 : Int32) (x2 : Int32) (x3 : Int32) (σ : St) (Q : Int32 → St → Prop) : Prop :=
  s_s σ b = some (.inl 0) ∧ (nn (s_r σ b 0) (fun q1 => P_S_lawAt q1 x1 σ (fun r3 σ2 => (r3 = none → Q (-1) σ2) ∧ (¬ r3 = none → (x3 < 0 → Q (-2) σ2) ∧ (¬ x3 < 0 → ob 1 σ2 (s_r σ2 b 0) (fun q4 => ob 1 σ2 (s_r σ2 b 0) (fun q5 => ob 1 σ2 (s_r σ2 b 0) (fun q6 => (x3 < (((s_i σ2 q4 3) * (s_i σ2 q5 3)) * (s_i σ2 q6 3)) → ob 1 σ2 (s_r σ2 b 0) (fun q7 => ob 1 σ2 (s_r σ2 b 0) (fun q8 => nn (s_r σ2 b 3) (fun q9 => P_B_open q9 (s_i σ2 q7 3) (s_i σ2 q8 4) σ2 (fun σ10 => nn (s_r σ10 b 3) (fun q11 => P_B_run q11 r3 σ10 (fun σ12 => nn (s_r σ12 b 3) (fun q13 => P_B_thingOf q13 x2 x3 σ12 (fun r15 σ14 => Q r15 σ14))))))))) ∧ (¬ x3 < (((s_i σ2 q4 3) * (s_i σ2 q5 3)) * (s_i σ2 q6 3)) → Q (-2) σ2)))))))))
abbrev rm_X_side : Room := { frames := 2, cells := 0, slots := 0, locals := 50 }

def P_X_witness (b : Nat) (x1 : Int32) (x2 : Int32) (x3 : Int32) (σ : St) (mc : Nat) (ms : Nat) (Q : Int32 → St → Prop) : Prop :=
  s_s σ b = some (.inl 0) ∧ (nn (s_r σ b 0) (fun q1 => P_S_hasLaw q1 x1 σ (fun r3 σ2 => (r3 = 0 → Q (-1) σ2) ∧ (¬ r3 = 0 → (x2 < 0 → Q (-2) σ2) ∧ (¬ x2 < 0 → (x3 < 0 → Q (-2) σ2) ∧ (¬ x3 < 0 → (x3 ≤ (nI 2) → nn (s_r σ2 b 4) (fun q4 => ∃ c5 d6, 0 + c5 ≤ mc ∧ 0 + d6 ≤ ms ∧ (P_E_findWitnesses q4 (s_r σ2 b 0) x1 σ2 c5 d6 (fun r8 σ7 => nn (s_r σ7 b 4) (fun q9 => P_E_witnessNumber q9 x2 x3 σ7 (fun r11 σ10 => Q r11 σ10)))))) ∧ (¬ x3 ≤ (nI 2) → Q (-2) σ2)))))))
abbrev rm_X_witness (mc ms : Nat) : Room := { frames := 5, cells := mc, slots := ms, locals := 125 }

def P_P_start (b : Nat) (x1 : Int32) (σ : St) (Q : Int32 → St → Prop) : Prop :=
  s_s σ b = some (.inl 7) ∧ (P_C_isSize x1 σ (fun r2 σ1 => (r2 = 0 → Q (nI 0) σ1) ∧ (¬ r2 = 0 → ar 0 σ1 (s_r σ1 b 2) x1 (fun q3 j4 => Q (s_i σ1 q3 j4) σ1))))
abbrev rm_P_start : Room := { frames := 1, cells := 0, slots := 0, locals := 20 }

def P_P_end (b : Nat) (x1 : Int32) (σ : St) (Q : Int32 → St → Prop) : Prop :=
  s_s σ b = some (.inl 7) ∧ (P_C_isSize x1 σ (fun r2 σ1 => (r2 = 0 → Q (nI 0) σ1) ∧ (¬ r2 = 0 → ar 0 σ1 (s_r σ1 b 2) (x1 + (nI 1)) (fun q3 j4 => Q (s_i σ1 q3 j4) σ1))))
abbrev rm_P_end : Room := { frames := 1, cells := 0, slots := 0, locals := 20 }

def P_E_modelCode (b : Nat) (o1 : Option Nat) (x2 : Int32) (x3 : Int32) (σ : St) (mc : Nat) (ms : Nat) (Q : Int32 → St → Prop) : Prop :=
  s_s σ b = some (.inl 6) ∧ ∀ (K26 : Int32 → Int32 → Int32 → Int32 → St → Nat → Nat → Prop),
    (∀ (x2 : Int32) (x3 : Int32) (x4 : Int32) (x5 : Int32) (σ : St) (ca : Nat) (cb : Nat), (nn (s_r σ b 1) (fun q1 => P_P_end q1 x2 σ (fun r3 σ2 => (r3 ≤ x5 → Q (-5) σ2) ∧ (¬ r3 ≤ x5 → P_E_isModel b x5 σ2 (fun r5 σ4 => (r5 = 0 → K26 x2 x3 x4 (x5 + nI 1) σ4 ca cb) ∧ (¬ r5 = 0 → (x4 = x3 → nn (s_r σ4 b 1) (fun q6 => P_P_codeAt q6 x5 σ4 (fun r8 σ7 => Q r8 σ7))) ∧ (¬ x4 = x3 → K26 x2 x3 (x4 + nI 1) (x5 + nI 1) σ4 ca cb))))))) → K26 x2 x3 x4 x5 σ ca cb) →
    (nn (s_r σ b 1) (fun q9 => ∃ c10 d11, 0 + c10 ≤ mc ∧ 0 + d11 ≤ ms ∧ (P_P_list q9 σ c10 d11 (fun σ12 => ∃ c13 d14, 0 + c10 + c13 ≤ mc ∧ 0 + d11 + d14 ≤ ms ∧ (P_E_demand b o1 (-1) σ12 c13 d14 (fun σ15 => nn (s_r σ15 b 1) (fun q16 => P_P_start q16 x2 σ15 (fun r18 σ17 => K26 x2 x3 (nI 0) r18 σ17 (0 + c10 + c13) (0 + d11 + d14)))))))))
abbrev rm_E_modelCode (mc ms : Nat) : Room := { frames := 4, cells := mc, slots := ms, locals := 100 }

def P_X_model (b : Nat) (x1 : Int32) (x2 : Int32) (σ : St) (mc : Nat) (ms : Nat) (Q : Int32 → St → Prop) : Prop :=
  s_s σ b = some (.inl 0) ∧ (P_C_isSize x1 σ (fun r2 σ1 => (r2 = 0 → Q (-2) σ1) ∧ (¬ r2 = 0 → (0 ≤ x2 → nn (s_r σ1 b 4) (fun q3 => ∃ c4 d5, 0 + c4 ≤ mc ∧ 0 + d5 ≤ ms ∧ (P_E_modelCode q3 (s_r σ1 b 0) x1 x2 σ1 c4 d5 (fun r7 σ6 => Q r7 σ6)))) ∧ (¬ 0 ≤ x2 → Q (-2) σ1))))
abbrev rm_X_model (mc ms : Nat) : Room := { frames := 5, cells := mc, slots := ms, locals := 125 }

def P_P_alikesAt (b : Nat) (x1 : Int32) (σ : St) (Q : Int32 → St → Prop) : Prop :=
  s_s σ b = some (.inl 7) ∧ ((x1 < 0 → Q (nI 0) σ) ∧ (¬ x1 < 0 → ((nI 3341) ≤ x1 → Q (nI 0) σ) ∧ (¬ (nI 3341) ≤ x1 → ar 2 σ (s_r σ b 1) x1 (fun q1 j2 => Q (s_i σ q1 j2) σ))))
abbrev rm_P_alikesAt : Room := { frames := 0, cells := 0, slots := 0, locals := 0 }

def P_E_countModels (b : Nat) (o1 : Option Nat) (x2 : Int32) (x3 : Int32) (σ : St) (mc : Nat) (ms : Nat) (Q : Int32 → St → Prop) : Prop :=
  s_s σ b = some (.inl 6) ∧ ∀ (K26 : Int32 → Int32 → Int32 → Int32 → St → Nat → Nat → Prop),
    (∀ (x2 : Int32) (x3 : Int32) (x4 : Int32) (x5 : Int32) (σ : St) (ca : Nat) (cb : Nat), (nn (s_r σ b 1) (fun q1 => P_P_end q1 x2 σ (fun r3 σ2 => (r3 ≤ x5 → Q x4 σ2) ∧ (¬ r3 ≤ x5 → P_E_isModel b x5 σ2 (fun r5 σ4 => (r5 = 0 → K26 x2 x3 x4 (x5 + nI 1) σ4 ca cb) ∧ (¬ r5 = 0 → (x3 = 0 → K26 x2 x3 (x4 + (nI 1)) (x5 + nI 1) σ4 ca cb) ∧ (¬ x3 = 0 → nn (s_r σ4 b 1) (fun q6 => P_P_alikesAt q6 x5 σ4 (fun r8 σ7 => K26 x2 x3 (x4 + r8) (x5 + nI 1) σ7 ca cb))))))))) → K26 x2 x3 x4 x5 σ ca cb) →
    (nn (s_r σ b 1) (fun q9 => ∃ c10 d11, 0 + c10 ≤ mc ∧ 0 + d11 ≤ ms ∧ (P_P_list q9 σ c10 d11 (fun σ12 => ∃ c13 d14, 0 + c10 + c13 ≤ mc ∧ 0 + d11 + d14 ≤ ms ∧ (P_E_demand b o1 (-1) σ12 c13 d14 (fun σ15 => nn (s_r σ15 b 1) (fun q16 => P_P_start q16 x2 σ15 (fun r18 σ17 => K26 x2 x3 (nI 0) r18 σ17 (0 + c10 + c13) (0 + d11 + d14)))))))))
abbrev rm_E_countModels (mc ms : Nat) : Room := { frames := 4, cells := mc, slots := ms, locals := 100 }

def P_X_models (b : Nat) (x1 : Int32) (x2 : Int32) (σ : St) (mc : Nat) (ms : Nat) (Q : Int32 → St → Prop) : Prop :=
  s_s σ b = some (.inl 0) ∧ (P_C_isSize x1 σ (fun r2 σ1 => (r2 = 0 → Q (-2) σ1) ∧ (¬ r2 = 0 → nn (s_r σ1 b 4) (fun q3 => ∃ c4 d5, 0 + c4 ≤ mc ∧ 0 + d5 ≤ ms ∧ (P_E_countModels q3 (s_r σ1 b 0) x1 x2 σ1 c4 d5 (fun r7 σ6 => Q r7 σ6))))))
abbrev rm_X_models (mc ms : Nat) : Room := { frames := 5, cells := mc, slots := ms, locals := 125 }

def P_X_sameCases (b : Nat) (x1 : Int32) (x2 : Int32) (o3 : Option Nat) (σ : St) (Q : Int32 → St → Prop) : Prop :=
  s_s σ b = some (.inl 0) ∧ (nn (s_r σ b 3) (fun q1 => P_B_open q1 x1 x2 σ (fun σ2 => nn (s_r σ2 b 3) (fun q3 => P_B_run q3 o3 σ2 (fun σ4 => nn (s_r σ4 b 3) (fun q5 => P_B_brokenCases q5 σ4 (fun r7 σ6 => P_I_bitCount r7 σ6 (fun r9 σ8 => Q (((x1 * x1) * x1) - r9) σ8))))))))
abbrev rm_X_sameCases : Room := { frames := 2, cells := 0, slots := 0, locals := 50 }

def P_X_paired (b : Nat) (x1 : Int32) (x2 : Int32) (x3 : Int32) (σ : St) (Q : Int32 → St → Prop) : Prop :=
  s_s σ b = some (.inl 0) ∧ (P_C_isCode x1 x2 σ (fun r2 σ1 => (r2 = 0 → Q (-2) σ1) ∧ (¬ r2 = 0 → nn (s_r σ1 b 0) (fun q3 => P_S_lawAt q3 x3 σ1 (fun r5 σ4 => (r5 = none → Q (-1) σ4) ∧ (¬ r5 = none → ob 1 σ4 (s_r σ4 b 0) (fun q6 => ob 1 σ4 (s_r σ4 b 0) (fun q7 => ob 1 σ4 (s_r σ4 b 0) (fun q8 => P_X_sameCases b (s_i σ4 q7 3) (s_i σ4 q8 4) r5 σ4 (fun r10 σ9 => P_X_sameCases b x1 x2 r5 σ9 (fun r12 σ11 => Q (((((s_i σ4 q6 3) * x1) * ((s_i σ4 q6 3) * x1)) * ((s_i σ4 q6 3) * x1)) - (r10 * r12)) σ11)))))))))))
abbrev rm_X_paired : Room := { frames := 3, cells := 0, slots := 0, locals := 73 }

def P_X_alike (b : Nat) (x1 : Int32) (x2 : Int32) (x3 : Int32) (σ : St) (Q : Int32 → St → Prop) : Prop :=
  s_s σ b = some (.inl 0) ∧ (P_C_isCode x1 x2 σ (fun r2 σ1 => (r2 = 0 → Q (-2) σ1) ∧ (¬ r2 = 0 → P_C_isCode x1 x3 σ1 (fun r4 σ3 => (r4 = 0 → Q (-2) σ3) ∧ (¬ r4 = 0 → P_C_plainCode x1 x2 σ3 (fun r6 σ5 => P_C_plainCode x1 x3 σ5 (fun r8 σ7 => (r6 = r8 → Q (nI 1) σ7) ∧ (¬ r6 = r8 → Q (nI 0) σ7))))))))
abbrev rm_X_alike : Room := { frames := 3, cells := 0, slots := 0, locals := 73 }

def P_X_countFollowing (b : Nat) (σ : St) (mc : Nat) (ms : Nat) (Q : Int32 → St → Prop) : Prop :=
  s_s σ b = some (.inl 0) ∧ ∀ (K4 : Int32 → Int32 → St → Nat → Nat → Prop),
    (∀ (x1 : Int32) (x2 : Int32) (σ : St) (ca : Nat) (cb : Nat), (ob 1 σ (s_r σ b 0) (fun q1 => ((s_i σ q1 2) ≤ x2 → Q x1 σ) ∧ (¬ (s_i σ q1 2) ≤ x2 → nn (s_r σ b 4) (fun q2 => ∃ c3 d4, ca + c3 ≤ mc ∧ cb + d4 ≤ ms ∧ (P_E_findWitnesses q2 (s_r σ b 0) x2 σ c3 d4 (fun r6 σ5 => (r6 = 0 → K4 (x1 + nI 1) (x2 + nI 1) σ5 (ca + c3) (cb + d4)) ∧ (¬ r6 = 0 → K4 x1 (x2 + nI 1) σ5 (ca + c3) (cb + d4)))))))) → K4 x1 x2 σ ca cb) →
    (K4 (nI 0) (nI 0) σ 0 0)
abbrev rm_X_countFollowing (mc ms : Nat) : Room := { frames := 5, cells := mc, slots := ms, locals := 125 }

def P_X_count (b : Nat) (x1 : Int32) (σ : St) (mc : Nat) (ms : Nat) (Q : Int32 → St → Prop) : Prop :=
  s_s σ b = some (.inl 0) ∧ ((x1 = nI 0 → ob 1 σ (s_r σ b 0) (fun q1 => Q (s_i σ q1 2) σ)) ∧ (¬ x1 = nI 0 → (x1 = nI 1 → nn (s_r σ b 0) (fun q2 => P_S_onCount q2 σ (fun r4 σ3 => Q r4 σ3))) ∧ (¬ x1 = nI 1 → (x1 = nI 2 → P_X_countHolding b (nI 0) σ (fun r6 σ5 => Q r6 σ5)) ∧ (¬ x1 = nI 2 → (x1 = nI 3 → ∃ c7 d8, 0 + c7 ≤ mc ∧ 0 + d8 ≤ ms ∧ (P_X_countFollowing b σ c7 d8 (fun r10 σ9 => Q r10 σ9))) ∧ (¬ x1 = nI 3 → (x1 = nI 4 → ob 2 σ (s_r σ b 1) (fun q11 => Q (s_i σ q11 2) σ)) ∧ (¬ x1 = nI 4 → (x1 = nI 5 → Q (s_i σ b 7) σ) ∧ (¬ x1 = nI 5 → Q (-2) σ)))))))
abbrev rm_X_count (mc ms : Nat) : Room := { frames := 6, cells := mc, slots := ms, locals := 147 }

def P_M_power (x0 : Int32) (x1 : Int32) (σ : St) (Q : Int32 → St → Prop) : Prop :=
  ∀ (K4 : Int32 → Int32 → Int32 → Int32 → St → Prop),
    (∀ (x0 : Int32) (x1 : Int32) (x2 : Int32) (x3 : Int32) (σ : St), ((x1 ≤ x3 → Q x2 σ) ∧ (¬ x1 ≤ x3 → K4 x0 x1 (x2 * x0) (x3 + nI 1) σ)) → K4 x0 x1 x2 x3 σ) →
    (K4 x0 x1 (nI 1) (nI 0) σ)
abbrev rm_M_power : Room := { frames := 0, cells := 0, slots := 0, locals := 0 }

def P_M_codes (x0 : Int32) (σ : St) (Q : Int32 → St → Prop) : Prop :=
  (P_M_power x0 (x0 * x0) σ (fun r2 σ1 => Q r2 σ1))
abbrev rm_M_codes : Room := { frames := 1, cells := 0, slots := 0, locals := 23 }

def P_M_unfolds (b : Nat) (x1 : Int32) (x2 : Int32) (σ : St) (Q : St → Prop) : Prop :=
  s_s σ b = some (.inl 9) ∧ ∀ (K5 : Int32 → Int32 → Int32 → St → Prop),
    (∀ (x1 : Int32) (x3 : Int32) (x4 : Int32) (σ : St), (((x1 * x1) ≤ x4 → Q σ) ∧ (¬ (x1 * x1) ≤ x4 → ¬ x1 = 0 ∧ (ar 0 σ (s_r σ b 8) x4 (fun q1 j2 => ¬ x1 = 0 ∧ (K5 x1 (x3 / x1) (x4 + nI 1) (w_i σ q1 j2 (irem x3 x1))))))) → K5 x1 x3 x4 σ) →
    (K5 x1 x2 (nI 0) σ)
abbrev rm_M_unfolds : Room := { frames := 0, cells := 0, slots := 0, locals := 0 }

def P_M_waysOf (x0 : Int32) (σ : St) (Q : Int32 → St → Prop) : Prop :=
  ((x0 = (nI 1) → Q (nI 1) σ) ∧ (¬ x0 = (nI 1) → (x0 = (nI 2) → Q (nI 2) σ) ∧ (¬ x0 = (nI 2) → Q (nI 6) σ)))
abbrev rm_M_waysOf : Room := { frames := 0, cells := 0, slots := 0, locals := 0 }

def P_M_renamed (x0 : Int32) (x1 : Int32) (σ : St) (Q : Int32 → St → Prop) : Prop :=
  ((x0 = nI 0 → Q x1 σ) ∧ (¬ x0 = nI 0 → (x0 = nI 1 → ((nI 2) ≤ x1 → Q (nI 2) σ) ∧ (¬ (nI 2) ≤ x1 → Q ((nI 1) - x1) σ)) ∧ (¬ x0 = nI 1 → (x0 = nI 2 → (x1 = 0 → Q (nI 2) σ) ∧ (¬ x1 = 0 → (x1 = (nI 2) → Q (nI 0) σ) ∧ (¬ x1 = (nI 2) → Q (nI 1) σ))) ∧ (¬ x0 = nI 2 → (x0 = nI 3 → (x1 = 0 → Q (nI 0) σ) ∧ (¬ x1 = 0 → Q ((nI 3) - x1) σ)) ∧ (¬ x0 = nI 3 → (x0 = nI 4 → Q (irem (x1 + (nI 1)) (nI 3)) σ) ∧ (¬ x0 = nI 4 → Q (irem (x1 + (nI 2)) (nI 3)) σ))))))
abbrev rm_M_renamed : Room := { frames := 0, cells := 0, slots := 0, locals := 0 }

def P_M_codeBy (b : Nat) (x1 : Int32) (x2 : Int32) (σ : St) (Q : Int32 → St → Prop) : Prop :=
  s_s σ b = some (.inl 9) ∧ ∀ (K5 : Int32 → Int32 → Int32 → Int32 → St → Prop) (K14 : Int32 → Int32 → Int32 → Int32 → Int32 → St → Prop),
    (∀ (x1 : Int32) (x2 : Int32) (x3 : Int32) (x4 : Int32) (σ : St), ((x1 ≤ x4 → Q x3 σ) ∧ (¬ x1 ≤ x4 → K14 x1 x2 x3 x4 (nI 0) σ)) → K5 x1 x2 x3 x4 σ) →
    (∀ (x1 : Int32) (x2 : Int32) (x3 : Int32) (x4 : Int32) (x5 : Int32) (σ : St), ((x1 ≤ x5 → K5 x1 x2 x3 (x4 + nI 1) σ) ∧ (¬ x1 ≤ x5 → ar 0 σ (s_r σ b 8) ((x1 * x4) + x5) (fun q1 j2 => P_M_renamed x2 (s_i σ q1 j2) σ (fun r4 σ3 => P_M_renamed x2 x4 σ3 (fun r6 σ5 => P_M_renamed x2 x5 σ5 (fun r8 σ7 => P_M_power x1 ((x1 * r6) + r8) σ7 (fun r10 σ9 => K14 x1 x2 (x3 + (r4 * r10)) x4 (x5 + nI 1) σ9))))))) → K14 x1 x2 x3 x4 x5 σ) →
    (K5 x1 x2 (nI 0) (nI 0) σ)
abbrev rm_M_codeBy : Room := { frames := 1, cells := 0, slots := 0, locals := 23 }

def P_M_plainOf (b : Nat) (x1 : Int32) (x2 : Int32) (σ : St) (Q : Int32 → St → Prop) : Prop :=
  s_s σ b = some (.inl 9) ∧ ∀ (K11 : Int32 → Int32 → Int32 → St → Prop),
    (∀ (x1 : Int32) (x3 : Int32) (x4 : Int32) (σ : St), (P_M_waysOf x1 σ (fun r2 σ1 => (r2 ≤ x4 → Q x3 σ1) ∧ (¬ r2 ≤ x4 → P_M_codeBy b x1 x4 σ1 (fun r4 σ3 => (x3 ≤ r4 → K11 x1 x3 (x4 + nI 1) σ3) ∧ (¬ x3 ≤ r4 → K11 x1 r4 (x4 + nI 1) σ3))))) → K11 x1 x3 x4 σ) →
    (P_M_unfolds b x1 x2 σ (fun σ5 => K11 x1 x2 (nI 1) σ5))
abbrev rm_M_plainOf : Room := { frames := 2, cells := 0, slots := 0, locals := 48 }

def P_M_init (b : Nat) (σ : St) (mc : Nat) (ms : Nat) (Q : St → Prop) : Prop :=
  s_s σ b = some (.inl 9) ∧ ∀ (K133 : Int32 → Int32 → St → Nat → Nat → Prop) (K147 : Int32 → Int32 → Int32 → St → Nat → Nat → Prop),
    (∀ (x1 : Int32) (x2 : Int32) (σ : St) (ca : Nat) (cb : Nat), (((nI 3) < x2 → ar 0 σ (s_r σ b 7) (nI 4) (fun q1 j2 => Q (w_i σ q1 j2 x1))) ∧ (¬ (nI 3) < x2 → ar 0 σ (s_r σ b 7) x2 (fun q3 j4 => K147 x1 x2 (nI 0) (w_i σ q3 j4 x1) ca cb))) → K133 x1 x2 σ ca cb) →
    (∀ (x1 : Int32) (x2 : Int32) (x3 : Int32) (σ : St) (ca : Nat) (cb : Nat), (P_M_codes x2 σ (fun r6 σ5 => (r6 ≤ x3 → K133 x1 (x2 + nI 1) σ5 ca cb) ∧ (¬ r6 ≤ x3 → P_M_plainOf b x2 x3 σ5 (fun r8 σ7 => (r8 = x3 → ar 0 σ7 (s_r σ7 b 6) x1 (fun q9 j10 => K147 (x1 + nI 1) x2 (x3 + nI 1) (w_i σ7 q9 j10 x3) ca cb)) ∧ (¬ r8 = x3 → K147 x1 x2 (x3 + nI 1) σ7 ca cb))))) → K147 x1 x2 x3 σ ca cb) →
    (0 + 1 ≤ mc ∧ 0 + 176 ≤ ms ∧ nw σ (.inr (0, 176)) (fun q11 σ12 => 0 + 1 + 1 ≤ mc ∧ 0 + 176 + 176 ≤ ms ∧ nw (w_r σ12 b 0 (some q11)) (.inr (0, 176)) (fun q13 σ14 => 0 + 1 + 1 + 1 ≤ mc ∧ 0 + 176 + 176 + 704 ≤ ms ∧ nw (w_r σ14 b 1 (some q13)) (.inr (0, 704)) (fun q15 σ16 => 0 + 1 + 1 + 1 + 1 ≤ mc ∧ 0 + 176 + 176 + 704 + 176 ≤ ms ∧ nw (w_r σ16 b 2 (some q15)) (.inr (0, 176)) (fun q17 σ18 => 0 + 1 + 1 + 1 + 1 + 1 ≤ mc ∧ 0 + 176 + 176 + 704 + 176 + 3341 ≤ ms ∧ nw (w_r σ18 b 4 (some q17)) (.inr (0, 3341)) (fun q19 σ20 => 0 + 1 + 1 + 1 + 1 + 1 + 1 ≤ mc ∧ 0 + 176 + 176 + 704 + 176 + 3341 + 5 ≤ ms ∧ nw (w_r σ20 b 6 (some q19)) (.inr (0, 5)) (fun q21 σ22 => 0 + 1 + 1 + 1 + 1 + 1 + 1 + 1 ≤ mc ∧ 0 + 176 + 176 + 704 + 176 + 3341 + 5 + 9 ≤ ms ∧ nw (w_r σ22 b 7 (some q21)) (.inr (0, 9)) (fun q23 σ24 => 0 + 1 + 1 + 1 + 1 + 1 + 1 + 1 + 1 ≤ mc ∧ 0 + 176 + 176 + 704 + 176 + 3341 + 5 + 9 + 16 ≤ ms ∧ nw (w_r σ24 b 8 (some q23)) (.inr (0, 16)) (fun q25 σ26 => 0 + 1 + 1 + 1 + 1 + 1 + 1 + 1 + 1 + 1 ≤ mc ∧ 0 + 176 + 176 + 704 + 176 + 3341 + 5 + 9 + 16 + 16705 ≤ ms ∧ nw (w_r σ26 b 9 (some q25)) (.inr (0, 16705)) (fun q27 σ28 => 0 + 1 + 1 + 1 + 1 + 1 + 1 + 1 + 1 + 1 + 1 ≤ mc ∧ 0 + 176 + 176 + 704 + 176 + 3341 + 5 + 9 + 16 + 16705 + 165 ≤ ms ∧ nw (w_r σ28 b 10 (some q27)) (.inr (0, 165)) (fun q29 σ30 => 0 + 1 + 1 + 1 + 1 + 1 + 1 + 1 + 1 + 1 + 1 + 1 ≤ mc ∧ 0 + 176 + 176 + 704 + 176 + 3341 + 5 + 9 + 16 + 16705 + 165 + 12 ≤ ms ∧ nw (w_r σ30 b 11 (some q29)) (.inr (0, 12)) (fun q31 σ32 => 0 + 1 + 1 + 1 + 1 + 1 + 1 + 1 + 1 + 1 + 1 + 1 + 1 ≤ mc ∧ 0 + 176 + 176 + 704 + 176 + 3341 + 5 + 9 + 16 + 16705 + 165 + 12 + 60 ≤ ms ∧ nw (w_r σ32 b 13 (some q31)) (.inr (0, 60)) (fun q33 σ34 => 0 + 1 + 1 + 1 + 1 + 1 + 1 + 1 + 1 + 1 + 1 + 1 + 1 + 1 ≤ mc ∧ 0 + 176 + 176 + 704 + 176 + 3341 + 5 + 9 + 16 + 16705 + 165 + 12 + 60 + 660 ≤ ms ∧ nw (w_r σ34 b 15 (some q33)) (.inr (0, 660)) (fun q35 σ36 => 0 + 1 + 1 + 1 + 1 + 1 + 1 + 1 + 1 + 1 + 1 + 1 + 1 + 1 + 1 ≤ mc ∧ 0 + 176 + 176 + 704 + 176 + 3341 + 5 + 9 + 16 + 16705 + 165 + 12 + 60 + 660 + 5 ≤ ms ∧ nw (w_r σ36 b 17 (some q35)) (.inr (0, 5)) (fun q37 σ38 => ar 0 (w_r σ38 b 22 (some q37)) (s_r (w_r σ38 b 22 (some q37)) b 0) (nI 0) (fun q39 j40 => K133 (nI 0) (nI 1) (w_i (w_r σ38 b 22 (some q37)) q39 j40 (nI 2)) (0 + 1 + 1 + 1 + 1 + 1 + 1 + 1 + 1 + 1 + 1 + 1 + 1 + 1 + 1) (0 + 176 + 176 + 704 + 176 + 3341 + 5 + 9 + 16 + 16705 + 165 + 12 + 60 + 660 + 5)))))))))))))))))
abbrev rm_M_init (mc ms : Nat) : Room := { frames := 3, cells := mc, slots := ms, locals := 73 }

def P_M_in (l0 : Int64) (l2 : Int64) (l4 : Int64) (σ : St) (Q : Int32 → St → Prop) : Prop :=
  (((lg_cmp l0 l2) < 0 → Q (nI 0) σ) ∧ (¬ (lg_cmp l0 l2) < 0 → (0 < (lg_cmp l0 l4) → Q (nI 0) σ) ∧ (¬ 0 < (lg_cmp l0 l4) → Q (nI 1) σ)))
abbrev rm_M_in : Room := { frames := 0, cells := 0, slots := 0, locals := 0 }

def P_M_isWorld (x0 : Int32) (x1 : Int32) (σ : St) (Q : Int32 → St → Prop) : Prop :=
  (P_M_in (x0.toInt64) (lN 1) (lN 3) σ (fun r2 σ1 => (r2 = 0 → Q (nI 0) σ1) ∧ (¬ r2 = 0 → P_M_codes x0 σ1 (fun r4 σ3 => P_M_in (x1.toInt64) (lN 0) ((r4.toInt64) - (lN 1)) σ3 (fun r6 σ5 => (r6 = 0 → Q (nI 0) σ5) ∧ (¬ r6 = 0 → Q (nI 1) σ5))))))
abbrev rm_M_isWorld : Room := { frames := 2, cells := 0, slots := 0, locals := 43 }

def P_M_remember (b : Nat) (σ : St) (Q : St → Prop) : Prop :=
  s_s σ b = some (.inl 9) ∧ ∀ (K2 : Int32 → St → Prop),
    (∀ (x1 : Int32) (σ : St), (((nI 176) ≤ x1 → Q σ) ∧ (¬ (nI 176) ≤ x1 → ar 0 σ (s_r σ b 0) x1 (fun q1 j2 => ar 0 σ (s_r σ b 1) x1 (fun q3 j4 => K2 (x1 + nI 1) (w_i σ q3 j4 (s_i σ q1 j2)))))) → K2 x1 σ) →
    (K2 (nI 0) σ)
abbrev rm_M_remember : Room := { frames := 0, cells := 0, slots := 0, locals := 0 }

def P_M_acted (b : Nat) (x1 : Int32) (σ : St) (Q : Int32 → St → Prop) : Prop :=
  s_s σ b = some (.inl 9) ∧ ∀ (K10 : Int32 → Int32 → St → Prop) (K51 : Int32 → Int32 → St → Prop),
    (∀ (x1 : Int32) (x2 : Int32) (σ : St), (((nI 528) ≤ x2 → K51 x1 (nI 0) (w_i σ b 3 ((s_i σ b 3) - (nI 1)))) ∧ (¬ (nI 528) ≤ x2 → ar 0 σ (s_r σ b 2) (x2 + (nI 176)) (fun q1 j2 => ar 0 σ (s_r σ b 2) x2 (fun q3 j4 => K10 x1 (x2 + nI 1) (w_i σ q3 j4 (s_i σ q1 j2)))))) → K10 x1 x2 σ) →
    (∀ (x1 : Int32) (x2 : Int32) (σ : St), (((nI 176) ≤ x2 → Q x1 (w_i σ b 3 ((s_i σ b 3) + (nI 1)))) ∧ (¬ (nI 176) ≤ x2 → ar 0 σ (s_r σ b 1) x2 (fun q5 j6 => ar 0 σ (s_r σ b 2) (((nI 176) * (s_i σ b 3)) + x2) (fun q7 j8 => K51 x1 (x2 + nI 1) (w_i σ q7 j8 (s_i σ q5 j6)))))) → K51 x1 x2 σ) →
    (((s_i σ b 3) = (nI 4) → K10 x1 (nI 0) σ) ∧ (¬ (s_i σ b 3) = (nI 4) → K51 x1 (nI 0) σ))
abbrev rm_M_acted : Room := { frames := 0, cells := 0, slots := 0, locals := 0 }

def P_M_take (b : Nat) (x1 : Int32) (x2 : Int32) (σ : St) (Q : Int32 → St → Prop) : Prop :=
  s_s σ b = some (.inl 9) ∧ (P_M_isWorld x1 x2 σ (fun r2 σ1 => (r2 = 0 → Q (-2) σ1) ∧ (¬ r2 = 0 → ar 0 σ1 (s_r σ1 b 0) (nI 0) (fun q3 j4 => ((s_i σ1 q3 j4) = x1 → ar 0 σ1 (s_r σ1 b 0) (nI 1) (fun q14 j15 => ((s_i σ1 q14 j15) = x2 → Q (-5) σ1) ∧ (¬ (s_i σ1 q14 j15) = x2 → P_M_remember b σ1 (fun σ16 => ar 0 σ16 (s_r σ16 b 0) (nI 0) (fun q17 j18 => ar 0 (w_i σ16 q17 j18 x1) (s_r (w_i σ16 q17 j18 x1) b 0) (nI 1) (fun q19 j20 => ar 0 (w_i (w_i σ16 q17 j18 x1) q19 j20 x2) (s_r (w_i (w_i σ16 q17 j18 x1) q19 j20 x2) b 1) (nI 1) (fun q21 j22 => P_M_acted b (s_i (w_i (w_i σ16 q17 j18 x1) q19 j20 x2) q21 j22) (w_i (w_i σ16 q17 j18 x1) q19 j20 x2) (fun r24 σ23 => Q r24 σ23)))))))) ∧ (¬ (s_i σ1 q3 j4) = x1 → P_M_remember b σ1 (fun σ5 => ar 0 σ5 (s_r σ5 b 0) (nI 0) (fun q6 j7 => ar 0 (w_i σ5 q6 j7 x1) (s_r (w_i σ5 q6 j7 x1) b 0) (nI 1) (fun q8 j9 => ar 0 (w_i (w_i σ5 q6 j7 x1) q8 j9 x2) (s_r (w_i (w_i σ5 q6 j7 x1) q8 j9 x2) b 1) (nI 1) (fun q10 j11 => P_M_acted b (s_i (w_i (w_i σ5 q6 j7 x1) q8 j9 x2) q10 j11) (w_i (w_i σ5 q6 j7 x1) q8 j9 x2) (fun r13 σ12 => Q r13 σ12))))))))))
abbrev rm_M_take : Room := { frames := 3, cells := 0, slots := 0, locals := 64 }

def P_M_isThing (b : Nat) (x1 : Int32) (σ : St) (Q : Int32 → St → Prop) : Prop :=
  s_s σ b = some (.inl 9) ∧ (ar 0 σ (s_r σ b 0) (nI 0) (fun q1 j2 => P_M_in (x1.toInt64) (lN 0) (((s_i σ q1 j2).toInt64) - (lN 1)) σ (fun r4 σ3 => (r4 = 0 ∨ r4 = 1) ∧ Q r4 σ3)))
abbrev rm_M_isThing : Room := { frames := 1, cells := 0, slots := 0, locals := 25 }

def P_M_comes (x0 : Int32) (x1 : Int32) (x2 : Int32) (x3 : Int32) (σ : St) (Q : Int32 → St → Prop) : Prop :=
  (P_M_power x0 ((x0 * x2) + x3) σ (fun r2 σ1 => ¬ r2 = 0 ∧ (¬ x0 = 0 ∧ (Q (irem (x1 / r2) x0) σ1))))
abbrev rm_M_comes : Room := { frames := 1, cells := 0, slots := 0, locals := 23 }

def P_M_becomes (b : Nat) (x1 : Int32) (σ : St) (Q : Int32 → St → Prop) : Prop :=
  s_s σ b = some (.inl 9) ∧ (P_M_remember b σ (fun σ1 => ar 0 σ1 (s_r σ1 b 0) (nI 1) (fun q2 j3 => P_M_acted b x1 (w_i σ1 q2 j3 x1) (fun r5 σ4 => Q r5 σ4))))
abbrev rm_M_becomes : Room := { frames := 1, cells := 0, slots := 0, locals := 22 }

def P_M_put (b : Nat) (x1 : Int32) (x2 : Int32) (x3 : Int32) (σ : St) (Q : Int32 → St → Prop) : Prop :=
  s_s σ b = some (.inl 9) ∧ (P_M_isThing b x1 σ (fun r2 σ1 => (r2 = 0 → Q (-1) σ1) ∧ (¬ r2 = 0 → P_M_isThing b x2 σ1 (fun r4 σ3 => (r4 = 0 → Q (-1) σ3) ∧ (¬ r4 = 0 → P_M_isThing b x3 σ3 (fun r6 σ5 => (r6 = 0 → Q (-1) σ5) ∧ (¬ r6 = 0 → ar 0 σ5 (s_r σ5 b 0) (nI 0) (fun q7 j8 => ar 0 σ5 (s_r σ5 b 0) (nI 1) (fun q9 j10 => P_M_comes (s_i σ5 q7 j8) (s_i σ5 q9 j10) x1 x2 σ5 (fun r12 σ11 => (r12 = x3 → Q (-5) σ11) ∧ (¬ r12 = x3 → ar 0 σ11 (s_r σ11 b 0) (nI 1) (fun q13 j14 => ar 0 σ11 (s_r σ11 b 0) (nI 0) (fun q15 j16 => ar 0 σ11 (s_r σ11 b 0) (nI 0) (fun q17 j18 => P_M_power (s_i σ11 q15 j16) (((s_i σ11 q17 j18) * x1) + x2) σ11 (fun r20 σ19 => P_M_becomes b ((s_i σ11 q13 j14) + ((x3 - r12) * r20)) σ19 (fun r22 σ21 => Q r22 σ21))))))))))))))))
abbrev rm_M_put : Room := { frames := 2, cells := 0, slots := 0, locals := 46 }

def P_M_exchanged (x0 : Int32) (x1 : Int32) (x2 : Int32) (σ : St) (Q : Int32 → St → Prop) : Prop :=
  ((x0 = x1 → Q x2 σ) ∧ (¬ x0 = x1 → (x0 = x2 → Q x1 σ) ∧ (¬ x0 = x2 → Q x0 σ)))
abbrev rm_M_exchanged : Room := { frames := 0, cells := 0, slots := 0, locals := 0 }

def P_M_rename (b : Nat) (x1 : Int32) (x2 : Int32) (σ : St) (Q : Int32 → St → Prop) : Prop :=
  s_s σ b = some (.inl 9) ∧ ∀ (K50 : Int32 → Int32 → Int32 → Int32 → Int32 → St → Prop),
    (∀ (x1 : Int32) (x2 : Int32) (x3 : Int32) (x4 : Int32) (x5 : Int32) (σ : St), (((x3 * x3) ≤ x5 → ar 0 σ (s_r σ b 0) (nI 1) (fun q1 j2 => (x4 = (s_i σ q1 j2) → Q (-5) σ) ∧ (¬ x4 = (s_i σ q1 j2) → P_M_becomes b x4 σ (fun r4 σ3 => Q r4 σ3)))) ∧ (¬ (x3 * x3) ≤ x5 → ar 0 σ (s_r σ b 8) x5 (fun q5 j6 => P_M_exchanged (s_i σ q5 j6) x1 x2 σ (fun r8 σ7 => ¬ x3 = 0 ∧ (P_M_exchanged (x5 / x3) x1 x2 σ7 (fun r10 σ9 => ¬ x3 = 0 ∧ (P_M_exchanged (irem x5 x3) x1 x2 σ9 (fun r12 σ11 => P_M_power x3 ((x3 * r10) + r12) σ11 (fun r14 σ13 => K50 x1 x2 x3 (x4 + (r8 * r14)) (x5 + nI 1) σ13))))))))) → K50 x1 x2 x3 x4 x5 σ) →
    (P_M_isThing b x1 σ (fun r16 σ15 => (r16 = 0 → Q (-1) σ15) ∧ (¬ r16 = 0 → P_M_isThing b x2 σ15 (fun r18 σ17 => (r18 = 0 → Q (-1) σ17) ∧ (¬ r18 = 0 → (x1 = x2 → Q (-2) σ17) ∧ (¬ x1 = x2 → ar 0 σ17 (s_r σ17 b 0) (nI 0) (fun q19 j20 => ar 0 σ17 (s_r σ17 b 0) (nI 1) (fun q21 j22 => P_M_unfolds b (s_i σ17 q19 j20) (s_i σ17 q21 j22) σ17 (fun σ23 => K50 x1 x2 (s_i σ17 q19 j20) (nI 0) (nI 0) σ23)))))))))
abbrev rm_M_rename : Room := { frames := 2, cells := 0, slots := 0, locals := 46 }

def P_M_mirror (b : Nat) (σ : St) (Q : Int32 → St → Prop) : Prop :=
  s_s σ b = some (.inl 9) ∧ ∀ (K22 : Int32 → Int32 → Int32 → St → Prop),
    (∀ (x1 : Int32) (x2 : Int32) (x3 : Int32) (σ : St), (((x1 * x1) ≤ x3 → ar 0 σ (s_r σ b 0) (nI 1) (fun q1 j2 => (x2 = (s_i σ q1 j2) → Q (-5) σ) ∧ (¬ x2 = (s_i σ q1 j2) → P_M_becomes b x2 σ (fun r4 σ3 => Q r4 σ3)))) ∧ (¬ (x1 * x1) ≤ x3 → ar 0 σ (s_r σ b 8) x3 (fun q5 j6 => ¬ x1 = 0 ∧ (¬ x1 = 0 ∧ (P_M_power x1 ((x1 * (irem x3 x1)) + (x3 / x1)) σ (fun r8 σ7 => K22 x1 (x2 + ((s_i σ q5 j6) * r8)) (x3 + nI 1) σ7)))))) → K22 x1 x2 x3 σ) →
    (ar 0 σ (s_r σ b 0) (nI 0) (fun q9 j10 => ar 0 σ (s_r σ b 0) (nI 1) (fun q11 j12 => P_M_unfolds b (s_i σ q9 j10) (s_i σ q11 j12) σ (fun σ13 => K22 (s_i σ q9 j10) (nI 0) (nI 0) σ13))))
abbrev rm_M_mirror : Room := { frames := 2, cells := 0, slots := 0, locals := 43 }

def P_M_type (b : Nat) (x1 : Int32) (σ : St) (Q : Int32 → St → Prop) : Prop :=
  s_s σ b = some (.inl 9) ∧ (((s_i σ b 16) = (nI 60) → Q (-3) σ) ∧ (¬ (s_i σ b 16) = (nI 60) → ar 0 σ (s_r σ b 15) (s_i σ b 16) (fun q1 j2 => Q (s_i (w_i (w_i σ q1 j2 x1) b 16 ((s_i (w_i σ q1 j2 x1) b 16) + (nI 1))) b 16) (w_i (w_i σ q1 j2 x1) b 16 ((s_i (w_i σ q1 j2 x1) b 16) + (nI 1))))))
abbrev rm_M_type : Room := { frames := 0, cells := 0, slots := 0, locals := 0 }

def P_M_clearText (b : Nat) (σ : St) (Q : Int32 → St → Prop) : Prop :=
  s_s σ b = some (.inl 9) ∧ (Q (s_i σ b 16) (w_i σ b 16 (nI 0)))
abbrev rm_M_clearText : Room := { frames := 0, cells := 0, slots := 0, locals := 0 }

def P_M_beginsSide (b : Nat) (x1 : Int32) (σ : St) (Q : St → Prop) : Prop :=
  s_s σ b = some (.inl 9) ∧ (ar 0 (w_i σ b 19 x1) (s_r (w_i σ b 19 x1) b 17) x1 (fun q1 j2 => ar 0 (w_i (w_i (w_i (w_i σ b 19 x1) q1 j2 (nI 0)) b 20 (nI 0)) b 21 (nI 0)) (s_r (w_i (w_i (w_i (w_i σ b 19 x1) q1 j2 (nI 0)) b 20 (nI 0)) b 21 (nI 0)) b 22) (nI 0) (fun q3 j4 => Q (w_i (w_i (w_i (w_i (w_i σ b 19 x1) q1 j2 (nI 0)) b 20 (nI 0)) b 21 (nI 0)) q3 j4 (nI 0)))))
abbrev rm_M_beginsSide : Room := { frames := 0, cells := 0, slots := 0, locals := 0 }

def P_M_isWhole (b : Nat) (σ : St) (Q : Int32 → St → Prop) : Prop :=
  s_s σ b = some (.inl 9) ∧ (((s_i σ b 21) = 0 → ar 0 σ (s_r σ b 22) (nI 0) (fun q1 j2 => ((s_i σ q1 j2) = (nI 1) → Q (nI 1) σ) ∧ (¬ (s_i σ q1 j2) = (nI 1) → Q (nI 0) σ))) ∧ (¬ (s_i σ b 21) = 0 → Q (nI 0) σ))
abbrev rm_M_isWhole : Room := { frames := 0, cells := 0, slots := 0, locals := 0 }

def P_M_adds (b : Nat) (x1 : Int32) (σ : St) (Q : St → Prop) : Prop :=
  s_s σ b = some (.inl 9) ∧ (ar 0 σ (s_r σ b 17) (s_i σ b 19) (fun q1 j2 => ar 0 σ (s_r σ b 17) (s_i σ b 19) (fun q3 j4 => ar 0 (w_i σ q3 j4 ((s_i σ q1 j2) + (nI 1))) (s_r (w_i σ q3 j4 ((s_i σ q1 j2) + (nI 1))) b 17) (s_i (w_i σ q3 j4 ((s_i σ q1 j2) + (nI 1))) b 19) (fun q5 j6 => ar 0 (w_i σ q3 j4 ((s_i σ q1 j2) + (nI 1))) (s_r (w_i σ q3 j4 ((s_i σ q1 j2) + (nI 1))) b 17) ((s_i (w_i σ q3 j4 ((s_i σ q1 j2) + (nI 1))) b 19) + (s_i (w_i σ q3 j4 ((s_i σ q1 j2) + (nI 1))) q5 j6)) (fun q7 j8 => Q (w_i (w_i σ q3 j4 ((s_i σ q1 j2) + (nI 1))) q7 j8 x1))))))
abbrev rm_M_adds : Room := { frames := 0, cells := 0, slots := 0, locals := 0 }

def P_M_hasPart (b : Nat) (σ : St) (Q : St → Prop) : Prop :=
  s_s σ b = some (.inl 9) ∧ (ar 0 σ (s_r σ b 22) (s_i σ b 21) (fun q1 j2 => ((s_i σ q1 j2) = (nI 1) → P_M_adds b (nI 3) σ (fun σ5 => ar 0 σ5 (s_r σ5 b 22) (s_i σ5 b 21) (fun q6 j7 => Q (w_i σ5 q6 j7 (nI 1))))) ∧ (¬ (s_i σ q1 j2) = (nI 1) → ar 0 σ (s_r σ b 22) (s_i σ b 21) (fun q3 j4 => Q (w_i σ q3 j4 (nI 1))))))
abbrev rm_M_hasPart : Room := { frames := 1, cells := 0, slots := 0, locals := 21 }

def P_M_takesInSide (b : Nat) (x1 : Int32) (σ : St) (Q : Int32 → St → Prop) : Prop :=
  s_s σ b = some (.inl 9) ∧ (P_M_in (x1.toInt64) (lN 120) (lN 122) σ (fun r2 σ1 => (r2 = 0 → (x1 = (nI 40) → ((nI 3) ≤ (s_i σ1 b 21) → (x1 = (nI 41) → ((s_i σ1 b 21) ≤ 0 → Q (nI 0) σ1) ∧ (¬ (s_i σ1 b 21) ≤ 0 → ar 0 σ1 (s_r σ1 b 22) (s_i σ1 b 21) (fun q6 j7 => ((s_i σ1 q6 j7) = (nI 1) → P_M_hasPart b (w_i σ1 b 21 ((s_i σ1 b 21) - (nI 1))) (fun σ8 => Q (nI 1) σ8)) ∧ (¬ (s_i σ1 q6 j7) = (nI 1) → Q (nI 0) σ1)))) ∧ (¬ x1 = (nI 41) → Q (nI 0) σ1)) ∧ (¬ (nI 3) ≤ (s_i σ1 b 21) → ar 0 (w_i σ1 b 21 ((s_i σ1 b 21) + (nI 1))) (s_r (w_i σ1 b 21 ((s_i σ1 b 21) + (nI 1))) b 22) (s_i (w_i σ1 b 21 ((s_i σ1 b 21) + (nI 1))) b 21) (fun q9 j10 => Q (nI 1) (w_i (w_i σ1 b 21 ((s_i σ1 b 21) + (nI 1))) q9 j10 (nI 0))))) ∧ (¬ x1 = (nI 40) → (x1 = (nI 41) → ((s_i σ1 b 21) ≤ 0 → Q (nI 0) σ1) ∧ (¬ (s_i σ1 b 21) ≤ 0 → ar 0 σ1 (s_r σ1 b 22) (s_i σ1 b 21) (fun q3 j4 => ((s_i σ1 q3 j4) = (nI 1) → P_M_hasPart b (w_i σ1 b 21 ((s_i σ1 b 21) - (nI 1))) (fun σ5 => Q (nI 1) σ5)) ∧ (¬ (s_i σ1 q3 j4) = (nI 1) → Q (nI 0) σ1)))) ∧ (¬ x1 = (nI 41) → Q (nI 0) σ1))) ∧ (¬ r2 = 0 → ((s_i σ1 b 20) = (nI 8) → Q (nI 0) σ1) ∧ (¬ (s_i σ1 b 20) = (nI 8) → P_M_adds b (x1 - (nI 120)) (w_i σ1 b 20 ((s_i σ1 b 20) + (nI 1))) (fun σ11 => P_M_hasPart b σ11 (fun σ12 => Q (nI 1) σ12))))))
abbrev rm_M_takesInSide : Room := { frames := 2, cells := 0, slots := 0, locals := 41 }

def P_M_fault (b : Nat) (σ : St) (Q : Int32 → St → Prop) : Prop :=
  s_s σ b = some (.inl 9) ∧ ∀ (K21 : Int32 → Int32 → St → Prop) (K72 : Int32 → Int32 → Int32 → St → Prop),
    (∀ (x1 : Int32) (x2 : Int32) (σ : St), (((s_i σ b 16) ≤ x2 → (x1 = 0 → Q (s_i σ b 16) σ) ∧ (¬ x1 = 0 → P_M_isWhole b σ (fun r2 σ1 => (r2 = 0 → Q (s_i σ1 b 16) σ1) ∧ (¬ r2 = 0 → Q (-5) (w_i σ1 b 18 ((s_i σ1 b 18) + (nI 1))))))) ∧ (¬ (s_i σ b 16) ≤ x2 → ar 0 σ (s_r σ b 15) x2 (fun q3 j4 => (x1 = 0 → ((s_i σ q3 j4) = (nI 61) → P_M_isWhole b σ (fun r6 σ5 => (r6 = 0 → K72 x1 x2 (s_i σ q3 j4) σ5) ∧ (¬ r6 = 0 → P_M_beginsSide b (((nI 33) * (s_i σ5 b 18)) + (nI 17)) σ5 (fun σ7 => K21 (nI 1) (x2 + nI 1) σ7)))) ∧ (¬ (s_i σ q3 j4) = (nI 61) → K72 x1 x2 (s_i σ q3 j4) σ)) ∧ (¬ x1 = 0 → K72 x1 x2 (s_i σ q3 j4) σ)))) → K21 x1 x2 σ) →
    (∀ (x1 : Int32) (x2 : Int32) (x3 : Int32) (σ : St), ((x1 = 0 → P_M_takesInSide b x3 σ (fun r9 σ8 => (r9 = 0 → Q x2 σ8) ∧ (¬ r9 = 0 → K21 x1 (x2 + nI 1) σ8))) ∧ (¬ x1 = 0 → (x3 = (nI 59) → P_M_isWhole b σ (fun r13 σ12 => (r13 = 0 → P_M_takesInSide b x3 σ12 (fun r15 σ14 => (r15 = 0 → Q x2 σ14) ∧ (¬ r15 = 0 → K21 x1 (x2 + nI 1) σ14))) ∧ (¬ r13 = 0 → ar 0 (w_i σ12 b 18 ((s_i σ12 b 18) + (nI 1))) (s_r (w_i σ12 b 18 ((s_i σ12 b 18) + (nI 1))) b 17) ((nI 33) * (s_i (w_i σ12 b 18 ((s_i σ12 b 18) + (nI 1))) b 18)) (fun q16 j17 => P_M_beginsSide b (((nI 33) * (s_i (w_i (w_i σ12 b 18 ((s_i σ12 b 18) + (nI 1))) q16 j17 (nI 1)) b 18)) + (nI 1)) (w_i (w_i σ12 b 18 ((s_i σ12 b 18) + (nI 1))) q16 j17 (nI 1)) (fun σ18 => K21 (nI 0) (x2 + nI 1) σ18))))) ∧ (¬ x3 = (nI 59) → P_M_takesInSide b x3 σ (fun r11 σ10 => (r11 = 0 → Q x2 σ10) ∧ (¬ r11 = 0 → K21 x1 (x2 + nI 1) σ10))))) → K72 x1 x2 x3 σ) →
    (ar 0 (w_i σ b 18 (nI 0)) (s_r (w_i σ b 18 (nI 0)) b 17) (nI 0) (fun q19 j20 => P_M_beginsSide b (nI 1) (w_i (w_i σ b 18 (nI 0)) q19 j20 (nI 1)) (fun σ21 => K21 (nI 0) (nI 0) σ21)))
abbrev rm_M_fault : Room := { frames := 3, cells := 0, slots := 0, locals := 62 }

def P_M_lawAt (x0 : Int32) (σ : St) (Q : Int32 → St → Prop) : Prop :=
  (Q ((nI 3) + ((nI 33) * x0)) σ)
abbrev rm_M_lawAt : Room := { frames := 0, cells := 0, slots := 0, locals := 0 }

def P_M_addLaws (b : Nat) (σ : St) (Q : Int32 → St → Prop) : Prop :=
  s_s σ b = some (.inl 9) ∧ ∀ (K40 : Int32 → St → Prop),
    (∀ (x2 : Int32) (σ : St), ((((nI 33) * (s_i σ b 18)) ≤ x2 → ar 0 σ (s_r σ b 0) (nI 2) (fun q1 j2 => ar 0 σ (s_r σ b 0) (nI 2) (fun q3 j4 => P_M_acted b (s_i (w_i σ q3 j4 ((s_i σ q1 j2) + (s_i σ b 18))) b 18) (w_i σ q3 j4 ((s_i σ q1 j2) + (s_i σ b 18))) (fun r6 σ5 => Q r6 σ5)))) ∧ (¬ ((nI 33) * (s_i σ b 18)) ≤ x2 → ar 0 σ (s_r σ b 0) (nI 2) (fun q7 j8 => P_M_lawAt (s_i σ q7 j8) σ (fun r10 σ9 => ar 0 σ9 (s_r σ9 b 17) x2 (fun q11 j12 => ar 0 σ9 (s_r σ b 0) (r10 + x2) (fun q13 j14 => K40 (x2 + nI 1) (w_i σ9 q13 j14 (s_i σ9 q11 j12)))))))) → K40 x2 σ) →
    (P_M_fault b σ (fun r16 σ15 => (r16 = (-5) → ar 0 σ15 (s_r σ15 b 0) (nI 2) (fun q17 j18 => (((s_i σ15 q17 j18) + (s_i σ15 b 18)) ≤ (nI 5) → P_M_remember b σ15 (fun σ19 => K40 (nI 0) σ19)) ∧ (¬ ((s_i σ15 q17 j18) + (s_i σ15 b 18)) ≤ (nI 5) → Q (-3) σ15))) ∧ (¬ r16 = (-5) → Q ((-100) - r16) σ15)))
abbrev rm_M_addLaws : Room := { frames := 4, cells := 0, slots := 0, locals := 85 }

def P_M_isLaw (b : Nat) (x1 : Int32) (σ : St) (Q : Int32 → St → Prop) : Prop :=
  s_s σ b = some (.inl 9) ∧ (ar 0 σ (s_r σ b 0) (nI 2) (fun q1 j2 => P_M_in (x1.toInt64) (lN 0) (((s_i σ q1 j2).toInt64) - (lN 1)) σ (fun r4 σ3 => (r4 = 0 ∨ r4 = 1) ∧ Q r4 σ3)))
abbrev rm_M_isLaw : Room := { frames := 1, cells := 0, slots := 0, locals := 25 }

def P_M_removeLaw (b : Nat) (x1 : Int32) (σ : St) (Q : Int32 → St → Prop) : Prop :=
  s_s σ b = some (.inl 9) ∧ ∀ (K29 : Int32 → St → Prop),
    (∀ (x2 : Int32) (σ : St), (ar 0 σ (s_r σ b 0) (nI 2) (fun q1 j2 => P_M_lawAt (s_i σ q1 j2) σ (fun r4 σ3 => (r4 ≤ x2 → ar 0 σ3 (s_r σ3 b 0) (nI 2) (fun q5 j6 => P_M_acted b (s_i σ3 q5 j6) σ3 (fun r8 σ7 => Q r8 σ7))) ∧ (¬ r4 ≤ x2 → ar 0 σ3 (s_r σ3 b 0) (x2 + (nI 33)) (fun q9 j10 => ar 0 σ3 (s_r σ3 b 0) x2 (fun q11 j12 => K29 (x2 + nI 1) (w_i σ3 q11 j12 (s_i σ3 q9 j10)))))))) → K29 x2 σ) →
    (P_M_isLaw b x1 σ (fun r14 σ13 => (r14 = 0 → Q (-1) σ13) ∧ (¬ r14 = 0 → P_M_remember b σ13 (fun σ15 => ar 0 σ15 (s_r σ15 b 0) (nI 2) (fun q16 j17 => ar 0 σ15 (s_r σ15 b 0) (nI 2) (fun q18 j19 => P_M_lawAt x1 (w_i σ15 q18 j19 ((s_i σ15 q16 j17) - (nI 1))) (fun r21 σ20 => K29 r21 σ20)))))))
abbrev rm_M_removeLaw : Room := { frames := 2, cells := 0, slots := 0, locals := 46 }

def P_M_isOn (b : Nat) (x1 : Int32) (σ : St) (Q : Int32 → St → Prop) : Prop :=
  s_s σ b = some (.inl 9) ∧ (P_M_lawAt x1 σ (fun r2 σ1 => ar 0 σ1 (s_r σ b 0) r2 (fun q3 j4 => ((s_i σ1 q3 j4) = (nI 1) → Q (nI 1) σ1) ∧ (¬ (s_i σ1 q3 j4) = (nI 1) → Q (nI 0) σ1))))
abbrev rm_M_isOn : Room := { frames := 1, cells := 0, slots := 0, locals := 20 }

def P_M_lawsOn (b : Nat) (σ : St) (Q : Int32 → St → Prop) : Prop :=
  s_s σ b = some (.inl 9) ∧ ∀ (K4 : Int32 → Int32 → St → Prop),
    (∀ (x1 : Int32) (x2 : Int32) (σ : St), (ar 0 σ (s_r σ b 0) (nI 2) (fun q1 j2 => ((s_i σ q1 j2) ≤ x2 → Q x1 σ) ∧ (¬ (s_i σ q1 j2) ≤ x2 → P_M_lawAt x2 σ (fun r4 σ3 => ar 0 σ3 (s_r σ b 0) r4 (fun q5 j6 => K4 (x1 + (s_i σ3 q5 j6)) (x2 + nI 1) σ3))))) → K4 x1 x2 σ) →
    (K4 (nI 0) (nI 0) σ)
abbrev rm_M_lawsOn : Room := { frames := 1, cells := 0, slots := 0, locals := 20 }

def P_M_turnLaw (b : Nat) (x1 : Int32) (x2 : Int32) (σ : St) (Q : Int32 → St → Prop) : Prop :=
  s_s σ b = some (.inl 9) ∧ (P_M_isLaw b x1 σ (fun r2 σ1 => (r2 = 0 → Q (-1) σ1) ∧ (¬ r2 = 0 → P_M_isOn b x1 σ1 (fun r4 σ3 => (r4 = x2 → Q (-5) σ3) ∧ (¬ r4 = x2 → P_M_remember b σ3 (fun σ5 => P_M_lawAt x1 σ5 (fun r7 σ6 => (x2 = 0 → ar 0 σ6 (s_r σ5 b 0) r7 (fun q8 j9 => P_M_lawsOn b (w_i σ6 q8 j9 (nI 0)) (fun r11 σ10 => P_M_acted b r11 σ10 (fun r13 σ12 => Q r13 σ12)))) ∧ (¬ x2 = 0 → ar 0 σ6 (s_r σ5 b 0) r7 (fun q14 j15 => P_M_lawsOn b (w_i σ6 q14 j15 (nI 1)) (fun r17 σ16 => P_M_acted b r17 σ16 (fun r19 σ18 => Q r19 σ18)))))))))))
abbrev rm_M_turnLaw : Room := { frames := 2, cells := 0, slots := 0, locals := 46 }

def P_M_isKnown (b : Nat) (x1 : Int32) (σ : St) (Q : Int32 → St → Prop) : Prop :=
  s_s σ b = some (.inl 9) ∧ ∀ (K16 : Int32 → Int32 → Int32 → St → Prop),
    (∀ (x1 : Int32) (x2 : Int32) (x3 : Int32) (σ : St), (((nI 33) ≤ x3 → (x2 = 0 ∨ x2 = 1) ∧ Q x2 σ) ∧ (¬ (nI 33) ≤ x3 → (x2 = 0 → (x2 = 0 ∨ x2 = 1) ∧ Q x2 σ) ∧ (¬ x2 = 0 → ar 0 σ (s_r σ b 11) (((nI 33) * x1) + x3) (fun q1 j2 => P_M_lawAt x1 σ (fun r4 σ3 => ar 0 σ3 (s_r σ b 0) (r4 + x3) (fun q5 j6 => ((s_i σ q1 j2) = (s_i σ3 q5 j6) → K16 x1 (nI 1) (x3 + nI 1) σ3) ∧ (¬ (s_i σ q1 j2) = (s_i σ3 q5 j6) → K16 x1 (nI 0) (x3 + nI 1) σ3))))))) → K16 x1 x2 x3 σ) →
    (((s_i σ b 12) ≤ x1 → K16 x1 (nI 0) (nI 1) σ) ∧ (¬ (s_i σ b 12) ≤ x1 → K16 x1 (nI 1) (nI 1) σ))
abbrev rm_M_isKnown : Room := { frames := 1, cells := 0, slots := 0, locals := 20 }

def P_M_sizeAt (o0 : Option Nat) (x1 : Int32) (σ : St) (Q : Int32 → St → Prop) : Prop :=
  (ar 0 σ o0 (nI 2) (fun q1 j2 => ((s_i σ q1 j2) ≤ x1 → ar 0 σ o0 (nI 3) (fun q3 j4 => ((s_i σ q3 j4) ≤ x1 → Q (nI 3) σ) ∧ (¬ (s_i σ q3 j4) ≤ x1 → Q (nI 2) σ))) ∧ (¬ (s_i σ q1 j2) ≤ x1 → Q (nI 1) σ)))
abbrev rm_M_sizeAt : Room := { frames := 0, cells := 0, slots := 0, locals := 0 }

def P_M_comesOf (b : Nat) (x1 : Int32) (x2 : Int32) (x3 : Int32) (σ : St) (Q : Int32 → St → Prop) : Prop :=
  s_s σ b = some (.inl 9) ∧ ∀ (K6 : Int32 → Int32 → Int32 → Int32 → Int32 → St → Prop),
    (∀ (x1 : Int32) (x2 : Int32) (x3 : Int32) (x4 : Int32) (x5 : Int32) (σ : St), (ar 0 σ (s_r σ b 0) x2 (fun q1 j2 => ((s_i σ q1 j2) < x5 → ar 0 σ (s_r σ b 9) (nI 0) (fun q3 j4 => Q (s_i σ q3 j4) σ)) ∧ (¬ (s_i σ q1 j2) < x5 → ar 0 σ (s_r σ b 0) (x2 + x5) (fun q5 j6 => ((s_i σ q5 j6) = (nI 3) → ar 0 σ (s_r σ b 9) ((x4 + (-1)) - (nI 1)) (fun q13 j14 => ar 0 σ (s_r σ b 9) (x4 + (-1)) (fun q15 j16 => ar 0 σ (s_r σ b 8) ((x1 * (s_i σ q13 j14)) + (s_i σ q15 j16)) (fun q17 j18 => ar 0 σ (s_r σ b 9) ((x4 + (-1)) - (nI 1)) (fun q19 j20 => K6 x1 x2 x3 (x4 + (-1)) (x5 + nI 1) (w_i σ q19 j20 (s_i σ q17 j18))))))) ∧ (¬ (s_i σ q5 j6) = (nI 3) → ((s_i σ q5 j6) = 0 → ¬ x1 = 0 ∧ (ar 0 σ (s_r σ b 9) x4 (fun q11 j12 => K6 x1 x2 x3 (x4 + nI 1) (x5 + nI 1) (w_i σ q11 j12 (irem x3 x1))))) ∧ (¬ (s_i σ q5 j6) = 0 → ((s_i σ q5 j6) = (nI 1) → ¬ x1 = 0 ∧ (¬ x1 = 0 ∧ (ar 0 σ (s_r σ b 9) x4 (fun q9 j10 => K6 x1 x2 x3 (x4 + nI 1) (x5 + nI 1) (w_i σ q9 j10 (irem (x3 / x1) x1)))))) ∧ (¬ (s_i σ q5 j6) = (nI 1) → ¬ (x1 * x1) = 0 ∧ (ar 0 σ (s_r σ b 9) x4 (fun q7 j8 => K6 x1 x2 x3 (x4 + nI 1) (x5 + nI 1) (w_i σ q7 j8 (x3 / (x1 * x1)))))))))))) → K6 x1 x2 x3 x4 x5 σ) →
    (K6 x1 x2 x3 (nI 0) (nI 1) σ)
abbrev rm_M_comesOf : Room := { frames := 0, cells := 0, slots := 0, locals := 0 }

def P_M_isBroken (b : Nat) (x1 : Int32) (x2 : Int32) (x3 : Int32) (σ : St) (Q : Int32 → St → Prop) : Prop :=
  s_s σ b = some (.inl 9) ∧ (P_M_lawAt x2 σ (fun r2 σ1 => P_M_comesOf b x1 (r2 + (nI 1)) x3 σ1 (fun r4 σ3 => P_M_lawAt x2 σ3 (fun r6 σ5 => P_M_comesOf b x1 (r6 + (nI 17)) x3 σ5 (fun r8 σ7 => (r4 = r8 → Q (nI 0) σ7) ∧ (¬ r4 = r8 → Q (nI 1) σ7))))))
abbrev rm_M_isBroken : Room := { frames := 1, cells := 0, slots := 0, locals := 26 }

def P_M_brokenIn (b : Nat) (x1 : Int32) (x2 : Int32) (x3 : Int32) (σ : St) (Q : Int32 → St → Prop) : Prop :=
  s_s σ b = some (.inl 9) ∧ ∀ (K12 : Int32 → Int32 → Int32 → Int32 → St → Prop),
    (∀ (x1 : Int32) (x3 : Int32) (x4 : Int32) (x5 : Int32) (σ : St), ((((x1 * x1) * x1) ≤ x5 → Q x4 σ) ∧ (¬ ((x1 * x1) * x1) ≤ x5 → P_M_isBroken b x1 x3 x5 σ (fun r2 σ1 => (r2 = 0 → K12 x1 x3 (x4 + (nI 0)) (x5 + nI 1) σ1) ∧ (¬ r2 = 0 → K12 x1 x3 (x4 + (nI 1)) (x5 + nI 1) σ1)))) → K12 x1 x3 x4 x5 σ) →
    (P_M_unfolds b x1 x2 σ (fun σ3 => K12 x1 x3 (nI 0) (nI 0) σ3))
abbrev rm_M_brokenIn : Room := { frames := 2, cells := 0, slots := 0, locals := 49 }

def P_M_learns (b : Nat) (σ : St) (Q : St → Prop) : Prop :=
  s_s σ b = some (.inl 9) ∧ ∀ (K2 : Int32 → St → Prop) (K22 : Int32 → Int32 → St → Prop) (K68 : Int32 → Int32 → St → Prop),
    (∀ (x1 : Int32) (σ : St), (ar 0 σ (s_r σ b 0) (nI 2) (fun q1 j2 => ((s_i σ q1 j2) ≤ x1 → Q σ) ∧ (¬ (s_i σ q1 j2) ≤ x1 → P_M_isKnown b x1 σ (fun r4 σ3 => (r4 = 0 → K22 x1 (nI 0) σ3) ∧ (¬ r4 = 0 → K2 (x1 + nI 1) σ3))))) → K2 x1 σ) →
    (∀ (x1 : Int32) (x2 : Int32) (σ : St), (((nI 3341) ≤ x2 → K68 x1 (nI 0) σ) ∧ (¬ (nI 3341) ≤ x2 → P_M_sizeAt (s_r σ b 7) x2 σ (fun r6 σ5 => ar 0 σ5 (s_r σ5 b 6) x2 (fun q7 j8 => P_M_brokenIn b r6 (s_i σ5 q7 j8) x1 σ5 (fun r10 σ9 => ar 0 σ9 (s_r σ b 10) (((nI 3341) * x1) + x2) (fun q11 j12 => K22 x1 (x2 + nI 1) (w_i σ9 q11 j12 r10))))))) → K22 x1 x2 σ) →
    (∀ (x1 : Int32) (x2 : Int32) (σ : St), (((nI 33) ≤ x2 → ((s_i σ b 12) ≤ x1 → K2 (x1 + nI 1) (w_i σ b 12 (x1 + (nI 1)))) ∧ (¬ (s_i σ b 12) ≤ x1 → K2 (x1 + nI 1) (w_i σ b 12 (s_i σ b 12)))) ∧ (¬ (nI 33) ≤ x2 → P_M_lawAt x1 σ (fun r14 σ13 => ar 0 σ13 (s_r σ b 0) (r14 + x2) (fun q15 j16 => ar 0 σ13 (s_r σ b 11) (((nI 33) * x1) + x2) (fun q17 j18 => K68 x1 (x2 + nI 1) (w_i σ13 q17 j18 (s_i σ13 q15 j16))))))) → K68 x1 x2 σ) →
    (K2 (nI 0) σ)
abbrev rm_M_learns : Room := { frames := 3, cells := 0, slots := 0, locals := 74 }

def P_M_hold (b : Nat) (x1 : Int32) (x2 : Int32) (σ : St) (Q : Int32 → St → Prop) : Prop :=
  s_s σ b = some (.inl 9) ∧ ∀ (K5 : Int32 → Int32 → Int32 → Int32 → St → Prop),
    (∀ (x1 : Int32) (x2 : Int32) (x3 : Int32) (x4 : Int32) (σ : St), (ar 0 σ (s_r σ b 0) (nI 2) (fun q1 j2 => ((s_i σ q1 j2) ≤ x4 → (x3 = 0 ∨ x3 = 1) ∧ Q x3 σ) ∧ (¬ (s_i σ q1 j2) ≤ x4 → (x3 = 0 → (x3 = 0 ∨ x3 = 1) ∧ Q x3 σ) ∧ (¬ x3 = 0 → (x4 = x2 → K5 x1 x2 (nI 1) (x4 + nI 1) σ) ∧ (¬ x4 = x2 → P_M_isOn b x4 σ (fun r4 σ3 => (r4 = 0 → K5 x1 x2 (nI 1) (x4 + nI 1) σ3) ∧ (¬ r4 = 0 → ar 0 σ3 (s_r σ3 b 10) (((nI 3341) * x4) + x1) (fun q5 j6 => ((s_i σ3 q5 j6) = 0 → K5 x1 x2 (nI 1) (x4 + nI 1) σ3) ∧ (¬ (s_i σ3 q5 j6) = 0 → K5 x1 x2 (nI 0) (x4 + nI 1) σ3))))))))) → K5 x1 x2 x3 x4 σ) →
    (K5 x1 x2 (nI 1) (nI 0) σ)
abbrev rm_M_hold : Room := { frames := 2, cells := 0, slots := 0, locals := 41 }

def P_M_findsWitnesses (b : Nat) (x1 : Int32) (σ : St) (Q : St → Prop) : Prop :=
  s_s σ b = some (.inl 9) ∧ ∀ (K11 : Int32 → Int32 → St → Prop) (K28 : Int32 → Int32 → Int32 → St → Prop),
    (∀ (x1 : Int32) (x2 : Int32) (σ : St), (((nI 27) < x2 → Q σ) ∧ (¬ (nI 27) < x2 → ((nI 12) ≤ (s_i σ b 14) → Q σ) ∧ (¬ (nI 12) ≤ (s_i σ b 14) → K28 x1 x2 (nI 0) σ))) → K11 x1 x2 σ) →
    (∀ (x1 : Int32) (x2 : Int32) (x3 : Int32) (σ : St), (((nI 3341) ≤ x3 → K11 x1 (x2 + nI 1) σ) ∧ (¬ (nI 3341) ≤ x3 → ((nI 12) ≤ (s_i σ b 14) → K11 x1 (x2 + nI 1) σ) ∧ (¬ (nI 12) ≤ (s_i σ b 14) → ar 0 σ (s_r σ b 10) (((nI 3341) * x1) + x3) (fun q1 j2 => ((s_i σ q1 j2) = x2 → P_M_hold b x3 x1 σ (fun r4 σ3 => (r4 = 0 → K28 x1 x2 (x3 + nI 1) σ3) ∧ (¬ r4 = 0 → ar 0 σ3 (s_r σ3 b 13) (s_i σ3 b 14) (fun q5 j6 => K28 x1 x2 (x3 + nI 1) (w_i (w_i σ3 q5 j6 x3) b 14 ((s_i (w_i σ3 q5 j6 x3) b 14) + (nI 1))))))) ∧ (¬ (s_i σ q1 j2) = x2 → K28 x1 x2 (x3 + nI 1) σ))))) → K28 x1 x2 x3 σ) →
    (P_M_learns b σ (fun σ7 => K11 x1 (nI 1) (w_i σ7 b 14 (nI 0))))
abbrev rm_M_findsWitnesses : Room := { frames := 4, cells := 0, slots := 0, locals := 96 }

def P_M_refute (b : Nat) (x1 : Int32) (σ : St) (Q : Int32 → St → Prop) : Prop :=
  s_s σ b = some (.inl 9) ∧ (P_M_isLaw b x1 σ (fun r2 σ1 => (r2 = 0 → Q (-1) σ1) ∧ (¬ r2 = 0 → P_M_findsWitnesses b x1 σ1 (fun σ3 => ((s_i σ3 b 14) = 0 → Q (-5) σ3) ∧ (¬ (s_i σ3 b 14) = 0 → P_M_remember b σ3 (fun σ4 => ar 0 σ4 (s_r σ4 b 13) (nI 0) (fun q5 j6 => P_M_sizeAt (s_r σ4 b 7) (s_i σ4 q5 j6) σ4 (fun r8 σ7 => ar 0 σ7 (s_r σ4 b 0) (nI 0) (fun q9 j10 => ar 0 (w_i σ7 q9 j10 r8) (s_r (w_i σ7 q9 j10 r8) b 13) (nI 0) (fun q11 j12 => ar 0 (w_i σ7 q9 j10 r8) (s_r (w_i σ7 q9 j10 r8) b 6) (s_i (w_i σ7 q9 j10 r8) q11 j12) (fun q13 j14 => ar 0 (w_i σ7 q9 j10 r8) (s_r (w_i σ7 q9 j10 r8) b 0) (nI 1) (fun q15 j16 => ar 0 (w_i (w_i σ7 q9 j10 r8) q15 j16 (s_i (w_i σ7 q9 j10 r8) q13 j14)) (s_r (w_i (w_i σ7 q9 j10 r8) q15 j16 (s_i (w_i σ7 q9 j10 r8) q13 j14)) b 0) (nI 1) (fun q17 j18 => P_M_acted b (s_i (w_i (w_i σ7 q9 j10 r8) q15 j16 (s_i (w_i σ7 q9 j10 r8) q13 j14)) q17 j18) (w_i (w_i σ7 q9 j10 r8) q15 j16 (s_i (w_i σ7 q9 j10 r8) q13 j14)) (fun r20 σ19 => Q r20 σ19))))))))))))))
abbrev rm_M_refute : Room := { frames := 5, cells := 0, slots := 0, locals := 119 }

def P_M_undo (b : Nat) (σ : St) (Q : Int32 → St → Prop) : Prop :=
  s_s σ b = some (.inl 9) ∧ ∀ (K22 : Int32 → St → Prop),
    (∀ (x1 : Int32) (σ : St), (((nI 176) ≤ x1 → Q (s_i σ b 3) σ) ∧ (¬ (nI 176) ≤ x1 → ar 0 σ (s_r σ b 2) (((nI 176) * (s_i σ b 3)) + x1) (fun q1 j2 => ar 0 σ (s_r σ b 0) x1 (fun q3 j4 => K22 (x1 + nI 1) (w_i σ q3 j4 (s_i σ q1 j2)))))) → K22 x1 σ) →
    (((s_i σ b 3) = 0 → Q (-5) σ) ∧ (¬ (s_i σ b 3) = 0 → K22 (nI 0) (w_i σ b 3 ((s_i σ b 3) - (nI 1)))))
abbrev rm_M_undo : Room := { frames := 0, cells := 0, slots := 0, locals := 0 }

def P_M_keep (b : Nat) (σ : St) (Q : Int32 → St → Prop) : Prop :=
  s_s σ b = some (.inl 9) ∧ ∀ (K2 : Int32 → St → Prop),
    (∀ (x1 : Int32) (σ : St), (((nI 176) ≤ x1 → ar 0 (w_i σ b 5 (nI 1)) (s_r (w_i σ b 5 (nI 1)) b 0) (nI 2) (fun q1 j2 => Q (s_i (w_i σ b 5 (nI 1)) q1 j2) (w_i σ b 5 (nI 1)))) ∧ (¬ (nI 176) ≤ x1 → ar 0 σ (s_r σ b 0) x1 (fun q3 j4 => ar 0 σ (s_r σ b 4) x1 (fun q5 j6 => K2 (x1 + nI 1) (w_i σ q5 j6 (s_i σ q3 j4)))))) → K2 x1 σ) →
    (K2 (nI 0) σ)
abbrev rm_M_keep : Room := { frames := 0, cells := 0, slots := 0, locals := 0 }

def P_M_restore (b : Nat) (σ : St) (Q : Int32 → St → Prop) : Prop :=
  s_s σ b = some (.inl 9) ∧ ∀ (K16 : Int32 → St → Prop),
    (∀ (x1 : Int32) (σ : St), (((nI 176) ≤ x1 → ar 0 σ (s_r σ b 0) (nI 2) (fun q1 j2 => P_M_acted b (s_i σ q1 j2) σ (fun r4 σ3 => Q r4 σ3))) ∧ (¬ (nI 176) ≤ x1 → ar 0 σ (s_r σ b 4) x1 (fun q5 j6 => ar 0 σ (s_r σ b 0) x1 (fun q7 j8 => K16 (x1 + nI 1) (w_i σ q7 j8 (s_i σ q5 j6)))))) → K16 x1 σ) →
    (((s_i σ b 5) = 0 → Q (-5) σ) ∧ (¬ (s_i σ b 5) = 0 → P_M_remember b σ (fun σ9 => K16 (nI 0) σ9)))
abbrev rm_M_restore : Room := { frames := 1, cells := 0, slots := 0, locals := 22 }

def P_M_of (b : Nat) (x1 : Int32) (x2 : Int32) (σ : St) (Q : Int32 → St → Prop) : Prop :=
  s_s σ b = some (.inl 9) ∧ (P_M_isThing b x1 σ (fun r2 σ1 => (r2 = 0 → Q (-1) σ1) ∧ (¬ r2 = 0 → P_M_isThing b x2 σ1 (fun r4 σ3 => (r4 = 0 → Q (-1) σ3) ∧ (¬ r4 = 0 → ar 0 σ3 (s_r σ3 b 0) (nI 0) (fun q5 j6 => ar 0 σ3 (s_r σ3 b 0) (nI 1) (fun q7 j8 => P_M_comes (s_i σ3 q5 j6) (s_i σ3 q7 j8) x1 x2 σ3 (fun r10 σ9 => Q r10 σ9))))))))
abbrev rm_M_of : Room := { frames := 2, cells := 0, slots := 0, locals := 46 }

def P_M_alikeTo (b : Nat) (x1 : Int32) (x2 : Int32) (σ : St) (Q : Int32 → St → Prop) : Prop :=
  s_s σ b = some (.inl 9) ∧ ∀ (K11 : Int32 → Int32 → Int32 → Int32 → St → Prop),
    (∀ (x1 : Int32) (x2 : Int32) (x3 : Int32) (x4 : Int32) (σ : St), (P_M_waysOf x1 σ (fun r2 σ1 => (r2 ≤ x4 → P_M_waysOf x1 σ1 (fun r4 σ3 => ¬ x3 = 0 ∧ (Q (r4 / x3) σ3))) ∧ (¬ r2 ≤ x4 → P_M_codeBy b x1 x4 σ1 (fun r6 σ5 => (r6 = x2 → K11 x1 x2 (x3 + (nI 1)) (x4 + nI 1) σ5) ∧ (¬ r6 = x2 → K11 x1 x2 (x3 + (nI 0)) (x4 + nI 1) σ5))))) → K11 x1 x2 x3 x4 σ) →
    (P_M_unfolds b x1 x2 σ (fun σ7 => K11 x1 x2 (nI 0) (nI 0) σ7))
abbrev rm_M_alikeTo : Room := { frames := 2, cells := 0, slots := 0, locals := 48 }

def P_M_things (b : Nat) (x1 : Int32) (σ : St) (Q : Int32 → St → Prop) : Prop :=
  s_s σ b = some (.inl 9) ∧ ∀ (K23 : Int32 → Int32 → Int32 → Int32 → St → Prop) (K35 : Int32 → Int32 → Int32 → Int32 → Int32 → Int32 → St → Prop),
    (∀ (x1 : Int32) (x2 : Int32) (x3 : Int32) (x4 : Int32) (σ : St), ((x2 ≤ x4 → Q x3 σ) ∧ (¬ x2 ≤ x4 → K35 x1 x2 x3 x4 (nI 1) (nI 0) σ)) → K23 x1 x2 x3 x4 σ) →
    (∀ (x1 : Int32) (x2 : Int32) (x3 : Int32) (x4 : Int32) (x5 : Int32) (x6 : Int32) (σ : St), ((x2 ≤ x6 → (x5 = 0 → K23 x1 x2 (x3 ||| (nI 0)) (x4 + nI 1) σ) ∧ (¬ x5 = 0 → K23 x1 x2 (x3 ||| (shl (nI 1) x4)) (x4 + nI 1) σ)) ∧ (¬ x2 ≤ x6 → (x5 = 0 → K35 x1 x2 x3 x4 (nI 0) (x6 + nI 1) σ) ∧ (¬ x5 = 0 → (x1 = (nI 4) → ar 0 σ (s_r σ b 8) ((x2 * x4) + x4) (fun q5 j6 => ((s_i σ q5 j6) = x4 → K35 x1 x2 x3 x4 (nI 1) (x6 + nI 1) σ) ∧ (¬ (s_i σ q5 j6) = x4 → K35 x1 x2 x3 x4 (nI 0) (x6 + nI 1) σ))) ∧ (¬ x1 = (nI 4) → (x1 = (nI 5) → ar 0 σ (s_r σ b 8) ((x2 * x4) + x6) (fun q3 j4 => ((s_i σ q3 j4) = x6 → K35 x1 x2 x3 x4 (nI 1) (x6 + nI 1) σ) ∧ (¬ (s_i σ q3 j4) = x6 → K35 x1 x2 x3 x4 (nI 0) (x6 + nI 1) σ))) ∧ (¬ x1 = (nI 5) → ar 0 σ (s_r σ b 8) ((x2 * x6) + x4) (fun q1 j2 => ((s_i σ q1 j2) = x6 → K35 x1 x2 x3 x4 (nI 1) (x6 + nI 1) σ) ∧ (¬ (s_i σ q1 j2) = x6 → K35 x1 x2 x3 x4 (nI 0) (x6 + nI 1) σ))))))) → K35 x1 x2 x3 x4 x5 x6 σ) →
    (ar 0 σ (s_r σ b 0) (nI 0) (fun q7 j8 => ar 0 σ (s_r σ b 0) (nI 1) (fun q9 j10 => P_M_unfolds b (s_i σ q7 j8) (s_i σ q9 j10) σ (fun σ11 => K23 x1 (s_i σ q7 j8) (nI 0) (nI 0) σ11))))
abbrev rm_M_things : Room := { frames := 1, cells := 0, slots := 0, locals := 24 }

def P_M_brokenNow (b : Nat) (x1 : Int32) (σ : St) (Q : Int32 → St → Prop) : Prop :=
  s_s σ b = some (.inl 9) ∧ (ar 0 σ (s_r σ b 0) (nI 0) (fun q1 j2 => ar 0 σ (s_r σ b 0) (nI 1) (fun q3 j4 => P_M_brokenIn b (s_i σ q1 j2) (s_i σ q3 j4) x1 σ (fun r6 σ5 => Q r6 σ5))))
abbrev rm_M_brokenNow : Room := { frames := 3, cells := 0, slots := 0, locals := 74 }

def P_M_lawsThatHold (b : Nat) (x1 : Int32) (σ : St) (Q : Int32 → St → Prop) : Prop :=
  s_s σ b = some (.inl 9) ∧ ∀ (K4 : Int32 → Int32 → Int32 → St → Prop),
    (∀ (x1 : Int32) (x2 : Int32) (x3 : Int32) (σ : St), (ar 0 σ (s_r σ b 0) (nI 2) (fun q1 j2 => ((s_i σ q1 j2) ≤ x3 → Q x2 σ) ∧ (¬ (s_i σ q1 j2) ≤ x3 → (x1 = 0 → P_M_brokenNow b x3 σ (fun r4 σ3 => (r4 = 0 → K4 x1 (x2 + (nI 1)) (x3 + nI 1) σ3) ∧ (¬ r4 = 0 → K4 x1 (x2 + (nI 0)) (x3 + nI 1) σ3))) ∧ (¬ x1 = 0 → P_M_isOn b x3 σ (fun r6 σ5 => (r6 = 0 → K4 x1 (x2 + (nI 0)) (x3 + nI 1) σ5) ∧ (¬ r6 = 0 → P_M_brokenNow b x3 σ5 (fun r8 σ7 => (r8 = 0 → K4 x1 (x2 + (nI 1)) (x3 + nI 1) σ7) ∧ (¬ r8 = 0 → K4 x1 (x2 + (nI 0)) (x3 + nI 1) σ7)))))))) → K4 x1 x2 x3 σ) →
    (K4 x1 (nI 0) (nI 0) σ)
abbrev rm_M_lawsThatHold : Room := { frames := 4, cells := 0, slots := 0, locals := 95 }

def P_M_world (b : Nat) (x1 : Int32) (σ : St) (Q : Int32 → St → Prop) : Prop :=
  s_s σ b = some (.inl 9) ∧ ((x1 = nI 0 → ar 0 σ (s_r σ b 0) (nI 0) (fun q1 j2 => Q (s_i σ q1 j2) σ)) ∧ (¬ x1 = nI 0 → (x1 = nI 1 → ar 0 σ (s_r σ b 0) (nI 1) (fun q3 j4 => Q (s_i σ q3 j4) σ)) ∧ (¬ x1 = nI 1 → (x1 = nI 2 → ar 0 σ (s_r σ b 0) (nI 0) (fun q5 j6 => ar 0 σ (s_r σ b 0) (nI 1) (fun q7 j8 => P_M_plainOf b (s_i σ q5 j6) (s_i σ q7 j8) σ (fun r10 σ9 => Q r10 σ9)))) ∧ (¬ x1 = nI 2 → (x1 = nI 3 → ar 0 σ (s_r σ b 0) (nI 0) (fun q11 j12 => ar 0 σ (s_r σ b 0) (nI 1) (fun q13 j14 => P_M_alikeTo b (s_i σ q11 j12) (s_i σ q13 j14) σ (fun r16 σ15 => Q r16 σ15)))) ∧ (¬ x1 = nI 3 → (x1 = nI 4 → P_M_things b x1 σ (fun r18 σ17 => Q r18 σ17)) ∧ (¬ x1 = nI 4 → (x1 = nI 5 → P_M_things b x1 σ (fun r20 σ19 => Q r20 σ19)) ∧ (¬ x1 = nI 5 → (x1 = nI 6 → P_M_things b x1 σ (fun r22 σ21 => Q r22 σ21)) ∧ (¬ x1 = nI 6 → (x1 = nI 7 → P_M_lawsThatHold b (nI 1) σ (fun r24 σ23 => P_M_lawsOn b σ23 (fun r26 σ25 => (r24 = r26 → Q (nI 1) σ25) ∧ (¬ r24 = r26 → Q (nI 0) σ25)))) ∧ (¬ x1 = nI 7 → Q (-2) σ)))))))))
abbrev rm_M_world : Room := { frames := 5, cells := 0, slots := 0, locals := 118 }

def P_M_closed (b : Nat) (x1 : Int32) (σ : St) (Q : Int32 → St → Prop) : Prop :=
  s_s σ b = some (.inl 9) ∧ ∀ (K41 : Int32 → Int32 → Int32 → St → Prop) (K52 : Int32 → Int32 → Int32 → Int32 → St → Prop),
    (∀ (x2 : Int32) (x3 : Int32) (x4 : Int32) (σ : St), ((x4 = 0 → Q x3 σ) ∧ (¬ x4 = 0 → K52 x2 x3 x3 (nI 0) σ)) → K41 x2 x3 x4 σ) →
    (∀ (x2 : Int32) (x3 : Int32) (x5 : Int32) (x6 : Int32) (σ : St), (((x2 * x2) ≤ x6 → (x3 = x5 → K41 x2 x3 (nI 0) σ) ∧ (¬ x3 = x5 → K41 x2 x3 (nI 1) σ)) ∧ (¬ (x2 * x2) ≤ x6 → ¬ x2 = 0 ∧ ((((shr x3 (x6 / x2)) &&& (nI 1)) = (nI 1) → ¬ x2 = 0 ∧ ((((shr x3 (irem x6 x2)) &&& (nI 1)) = (nI 1) → ar 0 σ (s_r σ b 8) x6 (fun q1 j2 => K52 x2 (x3 ||| (shl (nI 1) (s_i σ q1 j2))) x5 (x6 + nI 1) σ)) ∧ (¬ ((shr x3 (irem x6 x2)) &&& (nI 1)) = (nI 1) → K52 x2 (x3 ||| (nI 0)) x5 (x6 + nI 1) σ))) ∧ (¬ ((shr x3 (x6 / x2)) &&& (nI 1)) = (nI 1) → K52 x2 (x3 ||| (nI 0)) x5 (x6 + nI 1) σ)))) → K52 x2 x3 x5 x6 σ) →
    (ar 0 σ (s_r σ b 0) (nI 0) (fun q3 j4 => P_M_in (x1.toInt64) (lN 0) (((shl (nI 1) (s_i σ q3 j4)) - (nI 1)).toInt64) σ (fun r6 σ5 => (r6 = 0 → Q (-2) σ5) ∧ (¬ r6 = 0 → ar 0 σ5 (s_r σ5 b 0) (nI 1) (fun q7 j8 => P_M_unfolds b (s_i σ q3 j4) (s_i σ5 q7 j8) σ5 (fun σ9 => K41 (s_i σ q3 j4) x1 (nI 1) σ9))))))
abbrev rm_M_closed : Room := { frames := 1, cells := 0, slots := 0, locals := 25 }

def P_M_lettersOf (b : Nat) (x1 : Int32) (x2 : Int32) (σ : St) (Q : Int32 → St → Prop) : Prop :=
  s_s σ b = some (.inl 9) ∧ ∀ (K13 : Int32 → Int32 → Int32 → Int32 → Int32 → St → Prop) (K28 : Int32 → Int32 → Int32 → Int32 → Int32 → Int32 → St → Prop) (K59 : Int32 → Int32 → Int32 → Int32 → Int32 → Int32 → Int32 → St → Prop),
    (∀ (x1 : Int32) (x2 : Int32) (x3 : Int32) (x4 : Int32) (x5 : Int32) (σ : St), (P_M_lawAt x1 σ (fun r2 σ1 => ((r2 + (nI 17)) < x5 → (x2 = 0 → Q x3 σ1) ∧ (¬ x2 = 0 → Q x4 σ1)) ∧ (¬ (r2 + (nI 17)) < x5 → K28 x1 x2 x3 x4 x5 (nI 1) σ1))) → K13 x1 x2 x3 x4 x5 σ) →
    (∀ (x1 : Int32) (x2 : Int32) (x3 : Int32) (x4 : Int32) (x5 : Int32) (x6 : Int32) (σ : St), (ar 0 σ (s_r σ b 0) x5 (fun q3 j4 => ((s_i σ q3 j4) < x6 → K13 x1 x2 x3 x4 (x5 + nI 16) σ) ∧ (¬ (s_i σ q3 j4) < x6 → ar 0 σ (s_r σ b 0) (x5 + x6) (fun q5 j6 => ((s_i σ q5 j6) = (nI 3) → K59 x1 x2 x3 x4 x5 x6 (nI 0) σ) ∧ (¬ (s_i σ q5 j6) = (nI 3) → K59 x1 x2 x3 x4 x5 x6 (nI 1) σ))))) → K28 x1 x2 x3 x4 x5 x6 σ) →
    (∀ (x1 : Int32) (x2 : Int32) (x3 : Int32) (x4 : Int32) (x5 : Int32) (x6 : Int32) (y0 : Int32) (σ : St), ((y0 = 0 → (y0 = 0 → K28 x1 x2 (x3 + (nI 0)) (x4 ||| (nI 0)) x5 (x6 + nI 1) σ) ∧ (¬ y0 = 0 → ar 0 σ (s_r σ b 0) (x5 + x6) (fun q7 j8 => K28 x1 x2 (x3 + (nI 0)) (x4 ||| (shl (nI 1) (s_i σ q7 j8))) x5 (x6 + nI 1) σ))) ∧ (¬ y0 = 0 → (y0 = 0 → K28 x1 x2 (x3 + (nI 1)) (x4 ||| (nI 0)) x5 (x6 + nI 1) σ) ∧ (¬ y0 = 0 → ar 0 σ (s_r σ b 0) (x5 + x6) (fun q9 j10 => K28 x1 x2 (x3 + (nI 1)) (x4 ||| (shl (nI 1) (s_i σ q9 j10))) x5 (x6 + nI 1) σ)))) → K59 x1 x2 x3 x4 x5 x6 y0 σ) →
    (P_M_lawAt x1 σ (fun r12 σ11 => K13 x1 x2 (nI 0) (nI 0) (r12 + (nI 1)) σ11))
abbrev rm_M_lettersOf : Room := { frames := 1, cells := 0, slots := 0, locals := 20 }

def P_M_follows (b : Nat) (x1 : Int32) (σ : St) (Q : Int32 → St → Prop) : Prop :=
  s_s σ b = some (.inl 9) ∧ (P_M_findsWitnesses b x1 σ (fun σ1 => ((s_i σ1 b 14) = 0 → Q (nI 1) σ1) ∧ (¬ (s_i σ1 b 14) = 0 → Q (nI 0) σ1)))
abbrev rm_M_follows : Room := { frames := 5, cells := 0, slots := 0, locals := 119 }

def P_M_toldWitnesses (b : Nat) (x1 : Int32) (σ : St) (Q : Int32 → St → Prop) : Prop :=
  s_s σ b = some (.inl 9) ∧ (P_M_findsWitnesses b x1 σ (fun σ1 => Q (s_i σ1 b 14) σ1))
abbrev rm_M_toldWitnesses : Room := { frames := 5, cells := 0, slots := 0, locals := 119 }

def P_M_firstBroken (b : Nat) (x1 : Int32) (σ : St) (Q : Int32 → St → Prop) : Prop :=
  s_s σ b = some (.inl 9) ∧ ∀ (K18 : Int32 → Int32 → St → Prop),
    (∀ (x1 : Int32) (x2 : Int32) (σ : St), (ar 0 σ (s_r σ b 0) (nI 0) (fun q1 j2 => ar 0 σ (s_r σ b 0) (nI 0) (fun q3 j4 => ar 0 σ (s_r σ b 0) (nI 0) (fun q5 j6 => ((((s_i σ q1 j2) * (s_i σ q3 j4)) * (s_i σ q5 j6)) ≤ x2 → Q (-5) σ) ∧ (¬ (((s_i σ q1 j2) * (s_i σ q3 j4)) * (s_i σ q5 j6)) ≤ x2 → ar 0 σ (s_r σ b 0) (nI 0) (fun q7 j8 => P_M_isBroken b (s_i σ q7 j8) x1 x2 σ (fun r10 σ9 => (r10 = 0 → K18 x1 (x2 + nI 1) σ9) ∧ (¬ r10 = 0 → Q x2 σ9)))))))) → K18 x1 x2 σ) →
    (ar 0 σ (s_r σ b 0) (nI 0) (fun q11 j12 => ar 0 σ (s_r σ b 0) (nI 1) (fun q13 j14 => P_M_unfolds b (s_i σ q11 j12) (s_i σ q13 j14) σ (fun σ15 => K18 x1 (nI 0) σ15))))
abbrev rm_M_firstBroken : Room := { frames := 2, cells := 0, slots := 0, locals := 49 }

def P_M_law (b : Nat) (x1 : Int32) (x2 : Int32) (σ : St) (Q : Int32 → St → Prop) : Prop :=
  s_s σ b = some (.inl 9) ∧ (P_M_isLaw b x1 σ (fun r2 σ1 => (r2 = 0 → Q (-1) σ1) ∧ (¬ r2 = 0 → (x2 = nI 0 → P_M_lawAt x1 σ1 (fun r4 σ3 => ar 0 σ3 (s_r σ1 b 0) r4 (fun q5 j6 => Q (s_i σ3 q5 j6) σ3))) ∧ (¬ x2 = nI 0 → (x2 = nI 1 → P_M_brokenNow b x1 σ1 (fun r8 σ7 => Q r8 σ7)) ∧ (¬ x2 = nI 1 → (x2 = nI 2 → P_M_lettersOf b x1 (nI 0) σ1 (fun r10 σ9 => Q r10 σ9)) ∧ (¬ x2 = nI 2 → (x2 = nI 3 → P_M_lettersOf b x1 (nI 1) σ1 (fun r12 σ11 => Q r12 σ11)) ∧ (¬ x2 = nI 3 → (x2 = nI 4 → P_M_follows b x1 σ1 (fun r14 σ13 => (r14 = 0 → Q (nI 0) σ13) ∧ (¬ r14 = 0 → Q (nI 1) σ13))) ∧ (¬ x2 = nI 4 → (x2 = nI 5 → P_M_toldWitnesses b x1 σ1 (fun r16 σ15 => Q r16 σ15)) ∧ (¬ x2 = nI 5 → (x2 = nI 6 → P_M_firstBroken b x1 σ1 (fun r18 σ17 => Q r18 σ17)) ∧ (¬ x2 = nI 6 → Q (-2) σ1))))))))))
abbrev rm_M_law : Room := { frames := 6, cells := 0, slots := 0, locals := 140 }

def P_M_side (b : Nat) (x1 : Int32) (x2 : Int32) (x3 : Int32) (σ : St) (Q : Int32 → St → Prop) : Prop :=
  s_s σ b = some (.inl 9) ∧ (P_M_isLaw b x1 σ (fun r2 σ1 => (r2 = 0 → Q (-1) σ1) ∧ (¬ r2 = 0 → ar 0 σ1 (s_r σ1 b 0) (nI 0) (fun q3 j4 => P_M_in (x3.toInt64) (lN 0) (((((s_i σ1 q3 j4) * (s_i σ1 q3 j4)) * (s_i σ1 q3 j4)) - (nI 1)).toInt64) σ1 (fun r6 σ5 => (r6 = 0 → Q (-2) σ5) ∧ (¬ r6 = 0 → ar 0 σ5 (s_r σ5 b 0) (nI 1) (fun q7 j8 => P_M_unfolds b (s_i σ1 q3 j4) (s_i σ5 q7 j8) σ5 (fun σ9 => P_M_lawAt x1 σ9 (fun r11 σ10 => (x2 = 0 → P_M_comesOf b (s_i σ1 q3 j4) (r11 + (nI 1)) x3 σ10 (fun r13 σ12 => Q r13 σ12)) ∧ (¬ x2 = 0 → P_M_comesOf b (s_i σ1 q3 j4) (r11 + (nI 17)) x3 σ10 (fun r15 σ14 => Q r15 σ14)))))))))))
abbrev rm_M_side : Room := { frames := 2, cells := 0, slots := 0, locals := 46 }

def P_M_witness (b : Nat) (x1 : Int32) (x2 : Int32) (x3 : Int32) (σ : St) (Q : Int32 → St → Prop) : Prop :=
  s_s σ b = some (.inl 9) ∧ (P_M_isLaw b x1 σ (fun r2 σ1 => (r2 = 0 → Q (-1) σ1) ∧ (¬ r2 = 0 → (x2 < 0 → Q (-2) σ1) ∧ (¬ x2 < 0 → P_M_in (x3.toInt64) (lN 0) (lN 2) σ1 (fun r4 σ3 => (r4 = 0 → Q (-2) σ3) ∧ (¬ r4 = 0 → P_M_findsWitnesses b x1 σ3 (fun σ5 => (x2 < (s_i σ5 b 14) → ar 0 σ5 (s_r σ5 b 13) x2 (fun q6 j7 => (x3 = 0 → P_M_sizeAt (s_r σ5 b 7) (s_i σ5 q6 j7) σ5 (fun r13 σ12 => Q r13 σ12)) ∧ (¬ x3 = 0 → (x3 = (nI 1) → ar 0 σ5 (s_r σ5 b 6) (s_i σ5 q6 j7) (fun q10 j11 => Q (s_i σ5 q10 j11) σ5)) ∧ (¬ x3 = (nI 1) → ar 0 σ5 (s_r σ5 b 10) (((nI 3341) * x1) + (s_i σ5 q6 j7)) (fun q8 j9 => Q (s_i σ5 q8 j9) σ5))))) ∧ (¬ x2 < (s_i σ5 b 14) → Q (-5) σ5))))))))
abbrev rm_M_witness : Room := { frames := 5, cells := 0, slots := 0, locals := 119 }

def P_M_model (b : Nat) (x1 : Int32) (x2 : Int32) (σ : St) (Q : Int32 → St → Prop) : Prop :=
  s_s σ b = some (.inl 9) ∧ ∀ (K33 : Int32 → Int32 → Int32 → St → Prop),
    (∀ (x1 : Int32) (x3 : Int32) (x4 : Int32) (σ : St), (ar 0 σ (s_r σ b 7) (x1 + (nI 1)) (fun q1 j2 => ((s_i σ q1 j2) ≤ x4 → Q (-5) σ) ∧ (¬ (s_i σ q1 j2) ≤ x4 → P_M_hold b x4 (-5) σ (fun r4 σ3 => (r4 = 0 → K33 x1 x3 (x4 + nI 1) σ3) ∧ (¬ r4 = 0 → (x3 = 0 → ar 0 σ3 (s_r σ3 b 6) x4 (fun q5 j6 => Q (s_i σ3 q5 j6) σ3)) ∧ (¬ x3 = 0 → K33 x1 (x3 + (-1)) (x4 + nI 1) σ3)))))) → K33 x1 x3 x4 σ) →
    (P_M_in (x1.toInt64) (lN 1) (lN 3) σ (fun r8 σ7 => (r8 = 0 → Q (-2) σ7) ∧ (¬ r8 = 0 → (0 ≤ x2 → P_M_learns b σ7 (fun σ9 => ar 0 σ9 (s_r σ9 b 7) x1 (fun q10 j11 => K33 x1 x2 (s_i σ9 q10 j11) σ9))) ∧ (¬ 0 ≤ x2 → Q (-2) σ7))))
abbrev rm_M_model : Room := { frames := 4, cells := 0, slots := 0, locals := 96 }

def P_M_models (b : Nat) (x1 : Int32) (x2 : Int32) (σ : St) (Q : Int32 → St → Prop) : Prop :=
  s_s σ b = some (.inl 9) ∧ ∀ (K29 : Int32 → Int32 → Int32 → Int32 → St → Prop),
    (∀ (x1 : Int32) (x2 : Int32) (x3 : Int32) (x4 : Int32) (σ : St), (ar 0 σ (s_r σ b 7) (x1 + (nI 1)) (fun q1 j2 => ((s_i σ q1 j2) ≤ x4 → Q x3 σ) ∧ (¬ (s_i σ q1 j2) ≤ x4 → P_M_hold b x4 (-5) σ (fun r4 σ3 => (r4 = 0 → K29 x1 x2 (x3 + (nI 0)) (x4 + nI 1) σ3) ∧ (¬ r4 = 0 → (x2 = 0 → K29 x1 x2 (x3 + (nI 1)) (x4 + nI 1) σ3) ∧ (¬ x2 = 0 → ar 0 σ3 (s_r σ3 b 6) x4 (fun q5 j6 => P_M_alikeTo b x1 (s_i σ3 q5 j6) σ3 (fun r8 σ7 => K29 x1 x2 (x3 + r8) (x4 + nI 1) σ7)))))))) → K29 x1 x2 x3 x4 σ) →
    (P_M_in (x1.toInt64) (lN 1) (lN 3) σ (fun r10 σ9 => (r10 = 0 → Q (-2) σ9) ∧ (¬ r10 = 0 → P_M_learns b σ9 (fun σ11 => ar 0 σ11 (s_r σ11 b 7) x1 (fun q12 j13 => K29 x1 x2 (nI 0) (s_i σ11 q12 j13) σ11)))))
abbrev rm_M_models : Room := { frames := 4, cells := 0, slots := 0, locals := 96 }

def P_M_paired (b : Nat) (x1 : Int32) (x2 : Int32) (x3 : Int32) (σ : St) (Q : Int32 → St → Prop) : Prop :=
  s_s σ b = some (.inl 9) ∧ (P_M_isWorld x1 x2 σ (fun r2 σ1 => (r2 = 0 → Q (-2) σ1) ∧ (¬ r2 = 0 → P_M_isLaw b x3 σ1 (fun r4 σ3 => (r4 = 0 → Q (-1) σ3) ∧ (¬ r4 = 0 → ar 0 σ3 (s_r σ3 b 0) (nI 0) (fun q5 j6 => ar 0 σ3 (s_r σ3 b 0) (nI 0) (fun q7 j8 => ar 0 σ3 (s_r σ3 b 0) (nI 0) (fun q9 j10 => P_M_brokenNow b x3 σ3 (fun r12 σ11 => P_M_brokenIn b x1 x2 x3 σ11 (fun r14 σ13 => Q (((((s_i σ3 q5 j6) * (s_i σ3 q7 j8)) * (s_i σ3 q9 j10)) * ((x1 * x1) * x1)) - (((((s_i σ3 q5 j6) * (s_i σ3 q7 j8)) * (s_i σ3 q9 j10)) - r12) * (((x1 * x1) * x1) - r14))) σ13))))))))))
abbrev rm_M_paired : Room := { frames := 4, cells := 0, slots := 0, locals := 95 }

def P_M_alike (b : Nat) (x1 : Int32) (x2 : Int32) (x3 : Int32) (σ : St) (Q : Int32 → St → Prop) : Prop :=
  s_s σ b = some (.inl 9) ∧ (P_M_isWorld x1 x2 σ (fun r2 σ1 => (r2 = 0 → Q (-2) σ1) ∧ (¬ r2 = 0 → P_M_isWorld x1 x3 σ1 (fun r4 σ3 => (r4 = 0 → Q (-2) σ3) ∧ (¬ r4 = 0 → P_M_plainOf b x1 x2 σ3 (fun r6 σ5 => P_M_plainOf b x1 x3 σ5 (fun r8 σ7 => (r6 = r8 → Q (nI 1) σ7) ∧ (¬ r6 = r8 → Q (nI 0) σ7))))))))
abbrev rm_M_alike : Room := { frames := 3, cells := 0, slots := 0, locals := 73 }

def P_M_lawsThatFollow (b : Nat) (σ : St) (Q : Int32 → St → Prop) : Prop :=
  s_s σ b = some (.inl 9) ∧ ∀ (K4 : Int32 → Int32 → St → Prop),
    (∀ (x1 : Int32) (x2 : Int32) (σ : St), (ar 0 σ (s_r σ b 0) (nI 2) (fun q1 j2 => ((s_i σ q1 j2) ≤ x2 → Q x1 σ) ∧ (¬ (s_i σ q1 j2) ≤ x2 → P_M_follows b x2 σ (fun r4 σ3 => (r4 = 0 → K4 (x1 + (nI 0)) (x2 + nI 1) σ3) ∧ (¬ r4 = 0 → K4 (x1 + (nI 1)) (x2 + nI 1) σ3))))) → K4 x1 x2 σ) →
    (K4 (nI 0) (nI 0) σ)
abbrev rm_M_lawsThatFollow : Room := { frames := 6, cells := 0, slots := 0, locals := 140 }

def P_M_count (b : Nat) (x1 : Int32) (σ : St) (Q : Int32 → St → Prop) : Prop :=
  s_s σ b = some (.inl 9) ∧ ((x1 = nI 0 → ar 0 σ (s_r σ b 0) (nI 2) (fun q1 j2 => Q (s_i σ q1 j2) σ)) ∧ (¬ x1 = nI 0 → (x1 = nI 1 → P_M_lawsOn b σ (fun r4 σ3 => Q r4 σ3)) ∧ (¬ x1 = nI 1 → (x1 = nI 2 → P_M_lawsThatHold b (nI 0) σ (fun r6 σ5 => Q r6 σ5)) ∧ (¬ x1 = nI 2 → (x1 = nI 3 → P_M_lawsThatFollow b σ (fun r8 σ7 => Q r8 σ7)) ∧ (¬ x1 = nI 3 → (x1 = nI 4 → Q (s_i σ b 3) σ) ∧ (¬ x1 = nI 4 → (x1 = nI 5 → Q (s_i σ b 16) σ) ∧ (¬ x1 = nI 5 → Q (-2) σ)))))))
abbrev rm_M_count : Room := { frames := 7, cells := 0, slots := 0, locals := 162 }
