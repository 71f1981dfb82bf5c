set_option maxHeartbeats 4000000 in
set_option maxRecDepth 100000 in
theorem c_M_power (l : Launch) (D : va_G) (B : Nat) (x0 : Int32) (x1 : Int32) (σ : St) (Q : Int32 → St → Prop) (h : P_M_power x0 x1 σ Q) : zM l y_M_power b_M_power 4 (some (.int)) (rm_M_power) D B [.int x0, .int x1] σ (zQi Q) := by
  refine zM.ofW (own := "LawWorldsModel") (by decide +kernel) rfl (Nat.le_of_ble_eq_true rfl) ?_
  intro p e s m args below meth c ls hx hb hml hr hlocks hname hC hwk hw hS hl
  obtain ⟨σ0, eσ⟩ : ∃ z, z = σ := ⟨_, rfl⟩
  have hg : gr σ0 σ := by rw [eσ]; exact gr.rf
  have hl : lv_has ls 4 [(0, .int x0), (1, .int x1)] := hl
  have hB := h
  rw [← eσ]
  skip
  obtain ⟨K4, hK4⟩ : ∃ K : Int32 → Int32 → Int32 → Int32 → St → Prop, K = (fun (x0 : Int32) (x1 : Int32) (x2 : Int32) (x3 : Int32) (σ : St) => ∀ (H : Heap) (locs : List Loc) (ls : Array Slot), gr σ0 σ → wh D B σ s H → va_S (zA B) s.heap H locs → lv_has ls 4 [(0, .int x0), (1, .int x1), (2, .int x2), (3, .int x3)] → W p l e (rm_M_power) s m args below meth c H locs 0 0 (MQ below (zQ D B σ0 (zQi Q)) args s (rm_M_power).cells (rm_M_power).slots (zA B)) (F0 m 4 ls [])) := ⟨_, rfl⟩
  refine (fun hB => ?_) (hB K4 ?_)
  · skip
    refine lv_iconst (v := nI 1) hx hb d_M_power_0 (by decide) ?_
    refine lv_istore_n (lv' := [(2, .int (nI 1)), (0, .int x0), (1, .int x1)]) hx hb d_M_power_1 rfl hl (by decide) rfl (fun ls hl => ?_)
    refine lv_iconst (v := nI 0) hx hb d_M_power_2 (by decide) ?_
    refine lv_istore_n (lv' := [(3, .int (nI 0)), (2, .int (nI 1)), (0, .int x0), (1, .int x1)]) hx hb d_M_power_3 rfl hl (by decide) rfl (fun ls hl => ?_)
    rw [hK4] at hB
    exact hB _ _ _ hg hw hS (lv_sub hl [2, 3, 1, 0] rfl)
  · intro x0 x1 x2 x3 σ hB
    rw [hK4]
    intro H locs ls hg hw hS hl
    refine lv_iload_n hx hb d_M_power_4 rfl (lv_at hl 3 rfl) ?_
    refine lv_iload_n hx hb d_M_power_5 rfl (lv_at hl 1 rfl) ?_
    refine lv_icmp_ge (tgt := 19) hx hb d_M_power_6 (by decide) (fun cd => ?_) (fun cd => ?_)
    · have hB := hB.1 cd
      refine lv_iload_n hx hb d_M_power_19 rfl (lv_at hl 2 rfl) ?_
      exact zr_iret hx hb hr hlocks hB hg hw hS d_M_power_20
    · have hB := hB.2 cd
      refine lv_iload_n hx hb d_M_power_9 rfl (lv_at hl 2 rfl) ?_
      refine lv_iload_n hx hb d_M_power_10 rfl (lv_at hl 0 rfl) ?_
      refine lv_imul hx hb d_M_power_11 ?_
      refine lv_istore_n (lv' := [(2, .int (x2 * x0)), (0, .int x0), (1, .int x1), (3, .int x3)]) hx hb d_M_power_12 rfl hl (by decide) rfl (fun ls hl => ?_)
      refine lv_iinc (v := x3 + nI 1) (lv' := [(3, .int (x3 + nI 1)), (2, .int (x2 * x0)), (0, .int x0), (1, .int x1)]) hx hb d_M_power_13 hl (k := 3) rfl rfl (by decide) rfl (fun ls hl => ?_)
      refine lv_goto (tgt := 4) hx hb d_M_power_16 (by decide) ?_
      rw [hK4] at hB
      exact hB _ _ _ hg hw hS (lv_sub hl [2, 3, 1, 0] rfl)

set_option maxHeartbeats 4000000 in
set_option maxRecDepth 100000 in
theorem c_M_codes (l : Launch) (D : va_G) (B : Nat) (x0 : Int32) (σ : St) (Q : Int32 → St → Prop) (h : P_M_codes x0 σ Q) : zM l y_M_codes b_M_codes 1 (some (.int)) (rm_M_codes) D B [.int x0] σ (zQi Q) := by
  refine zM.ofW (own := "LawWorldsModel") (by decide +kernel) rfl (Nat.le_of_ble_eq_true rfl) ?_
  intro p e s m args below meth c ls hx hb hml hr hlocks hname hC hwk hw hS hl
  obtain ⟨σ0, eσ⟩ : ∃ z, z = σ := ⟨_, rfl⟩
  have hg : gr σ0 σ := by rw [eσ]; exact gr.rf
  have hl : lv_has ls 1 [(0, .int x0)] := hl
  have hB := h
  rw [← eσ]
  skip
  refine lv_iload_n hx hb d_M_codes_0 rfl (lv_at hl 0 rfl) ?_
  refine lv_iload_n hx hb d_M_codes_1 rfl (lv_at hl 0 rfl) ?_
  refine lv_iload_n hx hb d_M_codes_2 rfl (lv_at hl 0 rfl) ?_
  refine lv_imul hx hb d_M_codes_3 ?_
  refine zr_callS (As := [.int x0, .int (x0 * x0)]) (rest := []) hx hb hml hC hwk hw hS hl.1 (c_M_power l D B x0 (x0 * x0) σ _ hB) mk_M_power mt_M_power ml_M_64 ⟨Nat.le_of_ble_eq_true rfl, Nat.le_of_ble_eq_true rfl⟩ rfl (cat_8 cat_n (Nat.le_of_ble_eq_true rfl)) d_M_codes_4 ⟨Nat.le_refl _, Nat.le_refl _⟩ rfl (fun v σ1 H locs hp hgn hw hS => ?_)
  have hg := hg.tr hgn
  obtain ⟨r2, rfl, hB⟩ := hp
  refine W.eq (g2 := F0 m 7 ls [.int r2]) rfl ?_
  exact zr_iret hx hb hr hlocks hB hg hw hS d_M_codes_7

set_option maxHeartbeats 4000000 in
set_option maxRecDepth 100000 in
theorem c_M_unfolds (l : Launch) (D : va_G) (B : Nat) (b : Nat) (x1 : Int32) (x2 : Int32) (σ : St) (Q : St → Prop) (h : P_M_unfolds b x1 x2 σ Q) : zM l y_M_unfolds b_M_unfolds 5 none (rm_M_unfolds) D B [.ref b, .int x1, .int x2] σ (zQv Q) := by
  refine zM.ofW (own := "LawWorldsModel") (by decide +kernel) rfl (Nat.le_of_ble_eq_true rfl) ?_
  intro p e s m args below meth c ls hx hb hml hr hlocks hname hC hwk hw hS hl
  obtain ⟨σ0, eσ⟩ : ∃ z, z = σ := ⟨_, rfl⟩
  have hg : gr σ0 σ := by rw [eσ]; exact gr.rf
  have hl : lv_has ls 5 [(0, va_rf (some b)), (1, .int x1), (2, .int x2)] := hl
  obtain ⟨hsb, hB⟩ := h
  have hsb0 : s_s σ0 b = some (.inl 9) := by rw [eσ]; exact hsb
  rw [← eσ]
  skip
  obtain ⟨K5, hK5⟩ : ∃ K : Int32 → Int32 → Int32 → St → Prop, K = (fun (x1 : Int32) (x3 : Int32) (x4 : Int32) (σ : St) => ∀ (H : Heap) (locs : List Loc) (ls : Array Slot), gr σ0 σ → wh D B σ s H → va_S (zA B) s.heap H locs → lv_has ls 5 [(0, va_rf (some b)), (1, .int x1), (3, .int x3), (4, .int x4)] → W p l e (rm_M_unfolds) s m args below meth c H locs 0 0 (MQ below (zQ D B σ0 (zQv Q)) args s (rm_M_unfolds).cells (rm_M_unfolds).slots (zA B)) (F0 m 5 ls [])) := ⟨_, rfl⟩
  refine (fun hB => ?_) (hB K5 ?_)
  · skip
    refine lv_iload_n hx hb d_M_unfolds_0 rfl (lv_at hl 2 rfl) ?_
    refine lv_istore_n (lv' := [(3, .int x2), (0, va_rf (some b)), (1, .int x1), (2, .int x2)]) hx hb d_M_unfolds_1 rfl hl (by decide) rfl (fun ls hl => ?_)
    refine lv_iconst (v := nI 0) hx hb d_M_unfolds_2 (by decide) ?_
    refine lv_istore (lv' := [(4, .int (nI 0)), (3, .int x2), (0, va_rf (some b)), (1, .int x1), (2, .int x2)]) hx hb d_M_unfolds_3 hl (by decide) rfl (fun ls hl => ?_)
    rw [hK5] at hB
    exact hB _ _ _ hg hw hS (lv_sub hl [2, 3, 1, 0] rfl)
  · intro x1 x3 x4 σ hB
    rw [hK5]
    intro H locs ls hg hw hS hl
    have hsb := hg _ _ hsb0
    refine lv_iload hx hb d_M_unfolds_5 (lv_at hl 3 rfl) ?_
    refine lv_iload_n hx hb d_M_unfolds_7 rfl (lv_at hl 1 rfl) ?_
    refine lv_iload_n hx hb d_M_unfolds_8 rfl (lv_at hl 1 rfl) ?_
    refine lv_imul hx hb d_M_unfolds_9 ?_
    refine lv_icmp_ge (tgt := 33) hx hb d_M_unfolds_10 (by decide) (fun cd => ?_) (fun cd => ?_)
    · have hB := hB.1 cd
      exact zr_vret hx hb hr hlocks hB hg hw hS d_M_unfolds_33
    · have hB := hB.2 cd
      refine zr_aload_n (o := some b) hx hb d_M_unfolds_13 rfl (lv_at hl 0 rfl) ?_
      refine zr_get (v := va_rf (s_r σ b 8)) hx hb hC hw rfl hsb fl_M_28 rfl d_M_unfolds_14 ?_
      refine lv_iload hx hb d_M_unfolds_17 (lv_at hl 3 rfl) ?_
      refine lv_iload_n hx hb d_M_unfolds_19 rfl (lv_at hl 2 rfl) ?_
      refine lv_iload_n hx hb d_M_unfolds_20 rfl (lv_at hl 1 rfl) ?_
      refine zr_irem hx hb d_M_unfolds_21 hB.1 ?_
      have hB := hB.2
      obtain ⟨q1, n1, j2, ho, hs, hin, hj, hB⟩ := hB
      refine zr_iast hx hb hw hS ho hs hin hj d_M_unfolds_22 (fun H locs hw hS => ?_)
      refine lv_iload_n hx hb d_M_unfolds_23 rfl (lv_at hl 2 rfl) ?_
      refine lv_iload_n hx hb d_M_unfolds_24 rfl (lv_at hl 1 rfl) ?_
      refine lv_idiv hx hb d_M_unfolds_25 hB.1 ?_
      have hB := hB.2
      refine lv_istore_n (lv' := [(3, .int (x3 / x1)), (0, va_rf (some b)), (1, .int x1), (4, .int x4)]) hx hb d_M_unfolds_26 rfl hl (by decide) rfl (fun ls hl => ?_)
      refine lv_iinc (v := x4 + nI 1) (lv' := [(4, .int (x4 + nI 1)), (3, .int (x3 / x1)), (0, va_rf (some b)), (1, .int x1)]) hx hb d_M_unfolds_27 hl (k := 3) rfl rfl (by decide) rfl (fun ls hl => ?_)
      refine lv_goto (tgt := 5) hx hb d_M_unfolds_30 (by decide) ?_
      rw [hK5] at hB
      exact hB _ _ _ hg hw hS (lv_sub hl [2, 3, 1, 0] rfl)

set_option maxHeartbeats 4000000 in
set_option maxRecDepth 100000 in
theorem c_M_waysOf (l : Launch) (D : va_G) (B : Nat) (x0 : Int32) (σ : St) (Q : Int32 → St → Prop) (h : P_M_waysOf x0 σ Q) : zM l y_M_waysOf b_M_waysOf 1 (some (.int)) (rm_M_waysOf) D B [.int x0] σ (zQi Q) := by
  refine zM.ofW (own := "LawWorldsModel") (by decide +kernel) rfl (Nat.le_of_ble_eq_true rfl) ?_
  intro p e s m args below meth c ls hx hb hml hr hlocks hname hC hwk hw hS hl
  obtain ⟨σ0, eσ⟩ : ∃ z, z = σ := ⟨_, rfl⟩
  have hg : gr σ0 σ := by rw [eσ]; exact gr.rf
  have hl : lv_has ls 1 [(0, .int x0)] := hl
  have hB := h
  rw [← eσ]
  skip
  refine lv_iload_n hx hb d_M_waysOf_0 rfl (lv_at hl 0 rfl) ?_
  refine lv_iconst (v := nI 1) hx hb d_M_waysOf_1 (by decide) ?_
  refine lv_icmp_ne (tgt := 9) hx hb d_M_waysOf_2 (by decide) (fun cd => ?_) (fun cd => ?_)
  · have hB := hB.2 cd
    refine lv_iload_n hx hb d_M_waysOf_9 rfl (lv_at hl 0 rfl) ?_
    refine lv_iconst (v := nI 2) hx hb d_M_waysOf_10 (by decide) ?_
    refine lv_icmp_ne (tgt := 18) hx hb d_M_waysOf_11 (by decide) (fun cd => ?_) (fun cd => ?_)
    · have hB := hB.2 cd
      refine lv_bipush (v := nI 6) hx hb d_M_waysOf_18 (by decide) ?_
      exact zr_iret hx hb hr hlocks hB hg hw hS d_M_waysOf_20
    · have hB := hB.1 cd
      refine lv_iconst (v := nI 2) hx hb d_M_waysOf_14 (by decide) ?_
      refine lv_goto (tgt := 20) hx hb d_M_waysOf_15 (by decide) ?_
      exact zr_iret hx hb hr hlocks hB hg hw hS d_M_waysOf_20
  · have hB := hB.1 cd
    refine lv_iconst (v := nI 1) hx hb d_M_waysOf_5 (by decide) ?_
    refine lv_goto (tgt := 20) hx hb d_M_waysOf_6 (by decide) ?_
    exact zr_iret hx hb hr hlocks hB hg hw hS d_M_waysOf_20

set_option maxHeartbeats 4000000 in
set_option maxRecDepth 100000 in
theorem c_M_renamed (l : Launch) (D : va_G) (B : Nat) (x0 : Int32) (x1 : Int32) (σ : St) (Q : Int32 → St → Prop) (h : P_M_renamed x0 x1 σ Q) : zM l y_M_renamed b_M_renamed 2 (some (.int)) (rm_M_renamed) D B [.int x0, .int x1] σ (zQi Q) := by
  refine zM.ofW (own := "LawWorldsModel") (by decide +kernel) rfl (Nat.le_of_ble_eq_true rfl) ?_
  intro p e s m args below meth c ls hx hb hml hr hlocks hname hC hwk hw hS hl
  obtain ⟨σ0, eσ⟩ : ∃ z, z = σ := ⟨_, rfl⟩
  have hg : gr σ0 σ := by rw [eσ]; exact gr.rf
  have hl : lv_has ls 2 [(0, .int x0), (1, .int x1)] := hl
  have hB := h
  rw [← eσ]
  skip
  refine lv_iload_n hx hb d_M_renamed_0 rfl (lv_at hl 0 rfl) ?_
  by_cases c0 : x0 = nI 0
  · have hB := hB.1 c0
    refine lv_tableIn (tgt := 36) (off := 35) hx hb d_M_renamed_1 (by rw [c0]; decide) (by rw [c0]; decide) (by rw [c0]; decide) (by decide) ?_
    refine lv_iload_n hx hb d_M_renamed_36 rfl (lv_at hl 1 rfl) ?_
    exact zr_iret hx hb hr hlocks hB hg hw hS d_M_renamed_37
  · have hB := hB.2 c0
    by_cases c1 : x0 = nI 1
    · have hB := hB.1 c1
      refine lv_tableIn (tgt := 38) (off := 37) hx hb d_M_renamed_1 (by rw [c1]; decide) (by rw [c1]; decide) (by rw [c1]; decide) (by decide) ?_
      refine lv_iload_n hx hb d_M_renamed_38 rfl (lv_at hl 1 rfl) ?_
      refine lv_iconst (v := nI 2) hx hb d_M_renamed_39 (by decide) ?_
      refine lv_icmp_ge (tgt := 49) hx hb d_M_renamed_40 (by decide) (fun cd => ?_) (fun cd => ?_)
      · have hB := hB.1 cd
        refine lv_iconst (v := nI 2) hx hb d_M_renamed_49 (by decide) ?_
        exact zr_iret hx hb hr hlocks hB hg hw hS d_M_renamed_50
      · have hB := hB.2 cd
        refine lv_iconst (v := nI 1) hx hb d_M_renamed_43 (by decide) ?_
        refine lv_iload_n hx hb d_M_renamed_44 rfl (lv_at hl 1 rfl) ?_
        refine lv_isub hx hb d_M_renamed_45 ?_
        refine lv_goto (tgt := 50) hx hb d_M_renamed_46 (by decide) ?_
        exact zr_iret hx hb hr hlocks hB hg hw hS d_M_renamed_50
    · have hB := hB.2 c1
      by_cases c2 : x0 = nI 2
      · have hB := hB.1 c2
        refine lv_tableIn (tgt := 51) (off := 50) hx hb d_M_renamed_1 (by rw [c2]; decide) (by rw [c2]; decide) (by rw [c2]; decide) (by decide) ?_
        refine lv_iload_n hx hb d_M_renamed_51 rfl (lv_at hl 1 rfl) ?_
        refine lv_if_ne (tgt := 59) hx hb d_M_renamed_52 (by decide) (fun cd => ?_) (fun cd => ?_)
        · have hB := hB.2 cd
          refine lv_iload_n hx hb d_M_renamed_59 rfl (lv_at hl 1 rfl) ?_
          refine lv_iconst (v := nI 2) hx hb d_M_renamed_60 (by decide) ?_
          refine lv_icmp_ne (tgt := 68) hx hb d_M_renamed_61 (by decide) (fun cd => ?_) (fun cd => ?_)
          · have hB := hB.2 cd
            refine lv_iconst (v := nI 1) hx hb d_M_renamed_68 (by decide) ?_
            exact zr_iret hx hb hr hlocks hB hg hw hS d_M_renamed_69
          · have hB := hB.1 cd
            refine lv_iconst (v := nI 0) hx hb d_M_renamed_64 (by decide) ?_
            refine lv_goto (tgt := 69) hx hb d_M_renamed_65 (by decide) ?_
            exact zr_iret hx hb hr hlocks hB hg hw hS d_M_renamed_69
        · have hB := hB.1 cd
          refine lv_iconst (v := nI 2) hx hb d_M_renamed_55 (by decide) ?_
          refine lv_goto (tgt := 69) hx hb d_M_renamed_56 (by decide) ?_
          exact zr_iret hx hb hr hlocks hB hg hw hS d_M_renamed_69
      · have hB := hB.2 c2
        by_cases c3 : x0 = nI 3
        · have hB := hB.1 c3
          refine lv_tableIn (tgt := 70) (off := 69) hx hb d_M_renamed_1 (by rw [c3]; decide) (by rw [c3]; decide) (by rw [c3]; decide) (by decide) ?_
          refine lv_iload_n hx hb d_M_renamed_70 rfl (lv_at hl 1 rfl) ?_
          refine lv_if_ne (tgt := 78) hx hb d_M_renamed_71 (by decide) (fun cd => ?_) (fun cd => ?_)
          · have hB := hB.2 cd
            refine lv_iconst (v := nI 3) hx hb d_M_renamed_78 (by decide) ?_
            refine lv_iload_n hx hb d_M_renamed_79 rfl (lv_at hl 1 rfl) ?_
            refine lv_isub hx hb d_M_renamed_80 ?_
            exact zr_iret hx hb hr hlocks hB hg hw hS d_M_renamed_81
          · have hB := hB.1 cd
            refine lv_iconst (v := nI 0) hx hb d_M_renamed_74 (by decide) ?_
            refine lv_goto (tgt := 81) hx hb d_M_renamed_75 (by decide) ?_
            exact zr_iret hx hb hr hlocks hB hg hw hS d_M_renamed_81
        · have hB := hB.2 c3
          by_cases c4 : x0 = nI 4
          · have hB := hB.1 c4
            refine lv_tableIn (tgt := 82) (off := 81) hx hb d_M_renamed_1 (by rw [c4]; decide) (by rw [c4]; decide) (by rw [c4]; decide) (by decide) ?_
            refine lv_iload_n hx hb d_M_renamed_82 rfl (lv_at hl 1 rfl) ?_
            refine lv_iconst (v := nI 1) hx hb d_M_renamed_83 (by decide) ?_
            refine lv_iadd hx hb d_M_renamed_84 ?_
            refine lv_iconst (v := nI 3) hx hb d_M_renamed_85 (by decide) ?_
            refine zr_irem hx hb d_M_renamed_86 (by decide) ?_
            exact zr_iret hx hb hr hlocks hB hg hw hS d_M_renamed_87
          · have hB := hB.2 c4
            refine lv_tableOut (tgt := 88) hx hb d_M_renamed_1 (sw_out (n := 5) (by decide) (fun k hk => ?_)) (by decide) ?_
            · match k, hk with
              | 0, _ => exact c0
              | 1, _ => exact c1
              | 2, _ => exact c2
              | 3, _ => exact c3
              | 4, _ => exact c4
              | k + 5, h => exact absurd h (by omega)
            · skip
              refine lv_iload_n hx hb d_M_renamed_88 rfl (lv_at hl 1 rfl) ?_
              refine lv_iconst (v := nI 2) hx hb d_M_renamed_89 (by decide) ?_
              refine lv_iadd hx hb d_M_renamed_90 ?_
              refine lv_iconst (v := nI 3) hx hb d_M_renamed_91 (by decide) ?_
              refine zr_irem hx hb d_M_renamed_92 (by decide) ?_
              exact zr_iret hx hb hr hlocks hB hg hw hS d_M_renamed_93

set_option maxHeartbeats 4000000 in
set_option maxRecDepth 100000 in
theorem c_M_codeBy (l : Launch) (D : va_G) (B : Nat) (b : Nat) (x1 : Int32) (x2 : Int32) (σ : St) (Q : Int32 → St → Prop) (h : P_M_codeBy b x1 x2 σ Q) : zM l y_M_codeBy b_M_codeBy 6 (some (.int)) (rm_M_codeBy) D B [.ref b, .int x1, .int x2] σ (zQi Q) := by
  refine zM.ofW (own := "LawWorldsModel") (by decide +kernel) rfl (Nat.le_of_ble_eq_true rfl) ?_
  intro p e s m args below meth c ls hx hb hml hr hlocks hname hC hwk hw hS hl
  obtain ⟨σ0, eσ⟩ : ∃ z, z = σ := ⟨_, rfl⟩
  have hg : gr σ0 σ := by rw [eσ]; exact gr.rf
  have hl : lv_has ls 6 [(0, va_rf (some b)), (1, .int x1), (2, .int x2)] := hl
  obtain ⟨hsb, hB⟩ := h
  have hsb0 : s_s σ0 b = some (.inl 9) := by rw [eσ]; exact hsb
  rw [← eσ]
  skip
  obtain ⟨K5, hK5⟩ : ∃ K : Int32 → Int32 → Int32 → Int32 → St → Prop, K = (fun (x1 : Int32) (x2 : Int32) (x3 : Int32) (x4 : Int32) (σ : St) => ∀ (H : Heap) (locs : List Loc) (ls : Array Slot), gr σ0 σ → wh D B σ s H → va_S (zA B) s.heap H locs → lv_has ls 6 [(0, va_rf (some b)), (1, .int x1), (2, .int x2), (3, .int x3), (4, .int x4)] → W p l e (rm_M_codeBy) s m args below meth c H locs 0 0 (MQ below (zQ D B σ0 (zQi Q)) args s (rm_M_codeBy).cells (rm_M_codeBy).slots (zA B)) (F0 m 5 ls [])) := ⟨_, rfl⟩
  obtain ⟨K14, hK14⟩ : ∃ K : Int32 → Int32 → Int32 → Int32 → Int32 → St → Prop, K = (fun (x1 : Int32) (x2 : Int32) (x3 : Int32) (x4 : Int32) (x5 : Int32) (σ : St) => ∀ (H : Heap) (locs : List Loc) (ls : Array Slot), gr σ0 σ → wh D B σ s H → va_S (zA B) s.heap H locs → lv_has ls 6 [(0, va_rf (some b)), (1, .int x1), (2, .int x2), (3, .int x3), (4, .int x4), (5, .int x5)] → W p l e (rm_M_codeBy) s m args below meth c H locs 0 0 (MQ below (zQ D B σ0 (zQi Q)) args s (rm_M_codeBy).cells (rm_M_codeBy).slots (zA B)) (F0 m 14 ls [])) := ⟨_, rfl⟩
  refine (fun hB => ?_) (hB K5 K14 ?_ ?_)
  · skip
    refine lv_iconst (v := nI 0) hx hb d_M_codeBy_0 (by decide) ?_
    refine lv_istore_n (lv' := [(3, .int (nI 0)), (0, va_rf (some b)), (1, .int x1), (2, .int x2)]) hx hb d_M_codeBy_1 rfl hl (by decide) rfl (fun ls hl => ?_)
    refine lv_iconst (v := nI 0) hx hb d_M_codeBy_2 (by decide) ?_
    refine lv_istore (lv' := [(4, .int (nI 0)), (3, .int (nI 0)), (0, va_rf (some b)), (1, .int x1), (2, .int x2)]) hx hb d_M_codeBy_3 hl (by decide) rfl (fun ls hl => ?_)
    rw [hK5] at hB
    exact hB _ _ _ hg hw hS (lv_sub hl [2, 3, 4, 1, 0] rfl)
  · intro x1 x2 x3 x4 σ hB
    rw [hK5]
    intro H locs ls hg hw hS hl
    have hsb := hg _ _ hsb0
    refine lv_iload hx hb d_M_codeBy_5 (lv_at hl 4 rfl) ?_
    refine lv_iload_n hx hb d_M_codeBy_7 rfl (lv_at hl 1 rfl) ?_
    refine lv_icmp_ge (tgt := 71) hx hb d_M_codeBy_8 (by decide) (fun cd => ?_) (fun cd => ?_)
    · have hB := hB.1 cd
      refine lv_iload_n hx hb d_M_codeBy_71 rfl (lv_at hl 3 rfl) ?_
      exact zr_iret hx hb hr hlocks hB hg hw hS d_M_codeBy_72
    · have hB := hB.2 cd
      refine lv_iconst (v := nI 0) hx hb d_M_codeBy_11 (by decide) ?_
      refine lv_istore (lv' := [(5, .int (nI 0)), (0, va_rf (some b)), (1, .int x1), (2, .int x2), (3, .int x3), (4, .int x4)]) hx hb d_M_codeBy_12 hl (by decide) rfl (fun ls hl => ?_)
      rw [hK14] at hB
      exact hB _ _ _ hg hw hS (lv_sub hl [1, 2, 3, 4, 5, 0] rfl)
  · intro x1 x2 x3 x4 x5 σ hB
    rw [hK14]
    intro H locs ls hg hw hS hl
    have hsb := hg _ _ hsb0
    refine lv_iload hx hb d_M_codeBy_14 (lv_at hl 5 rfl) ?_
    refine lv_iload_n hx hb d_M_codeBy_16 rfl (lv_at hl 1 rfl) ?_
    refine lv_icmp_ge (tgt := 65) hx hb d_M_codeBy_17 (by decide) (fun cd => ?_) (fun cd => ?_)
    · have hB := hB.1 cd
      refine lv_iinc (v := x4 + nI 1) (lv' := [(4, .int (x4 + nI 1)), (0, va_rf (some b)), (1, .int x1), (2, .int x2), (3, .int x3), (5, .int x5)]) hx hb d_M_codeBy_65 hl (k := 4) rfl rfl (by decide) rfl (fun ls hl => ?_)
      refine lv_goto (tgt := 5) hx hb d_M_codeBy_68 (by decide) ?_
      rw [hK5] at hB
      exact hB _ _ _ hg hw hS (lv_sub hl [1, 2, 3, 4, 0] rfl)
    · have hB := hB.2 cd
      refine lv_iload_n hx hb d_M_codeBy_20 rfl (lv_at hl 3 rfl) ?_
      refine lv_iload_n hx hb d_M_codeBy_21 rfl (lv_at hl 2 rfl) ?_
      refine zr_aload_n (o := some b) hx hb d_M_codeBy_22 rfl (lv_at hl 0 rfl) ?_
      refine zr_get (v := va_rf (s_r σ b 8)) hx hb hC hw rfl hsb fl_M_28 rfl d_M_codeBy_23 ?_
      refine lv_iload_n hx hb d_M_codeBy_26 rfl (lv_at hl 1 rfl) ?_
      refine lv_iload hx hb d_M_codeBy_27 (lv_at hl 4 rfl) ?_
      refine lv_imul hx hb d_M_codeBy_29 ?_
      refine lv_iload hx hb d_M_codeBy_30 (lv_at hl 5 rfl) ?_
      refine lv_iadd hx hb d_M_codeBy_32 ?_
      obtain ⟨q1, n1, j2, ho, hs, hin, hj, hB⟩ := hB
      refine zr_iald hx hb hw ho hs hin hj d_M_codeBy_33 ?_
      refine zr_callS (As := [.int x2, .int (s_i σ q1 j2)]) (rest := [.int x3]) hx hb hml hC hwk hw hS hl.1 (c_M_renamed l D B x2 (s_i σ q1 j2) σ _ hB) mk_M_renamed mt_M_renamed ml_M_73 ⟨Nat.le_of_ble_eq_true rfl, Nat.le_of_ble_eq_true rfl⟩ rfl (cat_8 (cat_c rfl cat_n) (Nat.le_of_ble_eq_true rfl)) d_M_codeBy_34 ⟨Nat.le_refl _, Nat.le_refl _⟩ rfl (fun v σ3 H locs hp hgn hw hS => ?_)
      have hg := hg.tr hgn
      have hsb := hgn _ _ hsb
      obtain ⟨r4, rfl, hB⟩ := hp
      refine W.eq (g2 := F0 m 37 ls [.int r4, .int x3]) rfl ?_
      refine lv_iload_n hx hb d_M_codeBy_37 rfl (lv_at hl 1 rfl) ?_
      refine lv_iload_n hx hb d_M_codeBy_38 rfl (lv_at hl 1 rfl) ?_
      refine lv_iload_n hx hb d_M_codeBy_39 rfl (lv_at hl 2 rfl) ?_
      refine lv_iload hx hb d_M_codeBy_40 (lv_at hl 4 rfl) ?_
      refine zr_callS (As := [.int x2, .int x4]) (rest := [.int x1, .int x1, .int r4, .int x3]) hx hb hml hC hwk hw hS hl.1 (c_M_renamed l D B x2 x4 σ3 _ hB) mk_M_renamed mt_M_renamed ml_M_73 ⟨Nat.le_of_ble_eq_true rfl, Nat.le_of_ble_eq_true rfl⟩ rfl (cat_8 (cat_c rfl (cat_c rfl (cat_c rfl (cat_c rfl cat_n)))) (Nat.le_of_ble_eq_true rfl)) d_M_codeBy_42 ⟨Nat.le_refl _, Nat.le_refl _⟩ rfl (fun v σ5 H locs hp hgn hw hS => ?_)
      have hg := hg.tr hgn
      have hsb := hgn _ _ hsb
      obtain ⟨r6, rfl, hB⟩ := hp
      refine W.eq (g2 := F0 m 45 ls [.int r6, .int x1, .int x1, .int r4, .int x3]) rfl ?_
      refine lv_imul hx hb d_M_codeBy_45 ?_
      refine lv_iload_n hx hb d_M_codeBy_46 rfl (lv_at hl 2 rfl) ?_
      refine lv_iload hx hb d_M_codeBy_47 (lv_at hl 5 rfl) ?_
      refine zr_callS (As := [.int x2, .int x5]) (rest := [.int (x1 * r6), .int x1, .int r4, .int x3]) hx hb hml hC hwk hw hS hl.1 (c_M_renamed l D B x2 x5 σ5 _ hB) mk_M_renamed mt_M_renamed ml_M_73 ⟨Nat.le_of_ble_eq_true rfl, Nat.le_of_ble_eq_true rfl⟩ rfl (cat_8 (cat_c rfl (cat_c rfl (cat_c rfl (cat_c rfl cat_n)))) (Nat.le_of_ble_eq_true rfl)) d_M_codeBy_49 ⟨Nat.le_refl _, Nat.le_refl _⟩ rfl (fun v σ7 H locs hp hgn hw hS => ?_)
      have hg := hg.tr hgn
      have hsb := hgn _ _ hsb
      obtain ⟨r8, rfl, hB⟩ := hp
      refine W.eq (g2 := F0 m 52 ls [.int r8, .int (x1 * r6), .int x1, .int r4, .int x3]) rfl ?_
      refine lv_iadd hx hb d_M_codeBy_52 ?_
      refine zr_callS (As := [.int x1, .int ((x1 * r6) + r8)]) (rest := [.int r4, .int x3]) hx hb hml hC hwk hw hS hl.1 (c_M_power l D B x1 ((x1 * r6) + r8) σ7 _ hB) mk_M_power mt_M_power ml_M_64 ⟨Nat.le_of_ble_eq_true rfl, Nat.le_of_ble_eq_true rfl⟩ rfl (cat_8 (cat_c rfl (cat_c rfl cat_n)) (Nat.le_of_ble_eq_true rfl)) d_M_codeBy_53 ⟨Nat.le_refl _, Nat.le_refl _⟩ rfl (fun v σ9 H locs hp hgn hw hS => ?_)
      have hg := hg.tr hgn
      have hsb := hgn _ _ hsb
      obtain ⟨r10, rfl, hB⟩ := hp
      refine W.eq (g2 := F0 m 56 ls [.int r10, .int r4, .int x3]) rfl ?_
      refine lv_imul hx hb d_M_codeBy_56 ?_
      refine lv_iadd hx hb d_M_codeBy_57 ?_
      refine lv_istore_n (lv' := [(3, .int (x3 + (r4 * r10))), (0, va_rf (some b)), (1, .int x1), (2, .int x2), (4, .int x4), (5, .int x5)]) hx hb d_M_codeBy_58 rfl hl (by decide) rfl (fun ls hl => ?_)
      refine lv_iinc (v := x5 + nI 1) (lv' := [(5, .int (x5 + nI 1)), (3, .int (x3 + (r4 * r10))), (0, va_rf (some b)), (1, .int x1), (2, .int x2), (4, .int x4)]) hx hb d_M_codeBy_59 hl (k := 5) rfl rfl (by decide) rfl (fun ls hl => ?_)
      refine lv_goto (tgt := 14) hx hb d_M_codeBy_62 (by decide) ?_
      rw [hK14] at hB
      exact hB _ _ _ hg hw hS (lv_sub hl [2, 3, 4, 1, 5, 0] rfl)

set_option maxHeartbeats 4000000 in
set_option maxRecDepth 100000 in
theorem c_M_plainOf (l : Launch) (D : va_G) (B : Nat) (b : Nat) (x1 : Int32) (x2 : Int32) (σ : St) (Q : Int32 → St → Prop) (h : P_M_plainOf b x1 x2 σ Q) : zM l y_M_plainOf b_M_plainOf 6 (some (.int)) (rm_M_plainOf) D B [.ref b, .int x1, .int x2] σ (zQi Q) := by
  refine zM.ofW (own := "LawWorldsModel") (by decide +kernel) rfl (Nat.le_of_ble_eq_true rfl) ?_
  intro p e s m args below meth c ls hx hb hml hr hlocks hname hC hwk hw hS hl
  obtain ⟨σ0, eσ⟩ : ∃ z, z = σ := ⟨_, rfl⟩
  have hg : gr σ0 σ := by rw [eσ]; exact gr.rf
  have hl : lv_has ls 6 [(0, va_rf (some b)), (1, .int x1), (2, .int x2)] := hl
  obtain ⟨hsb, hB⟩ := h
  have hsb0 : s_s σ0 b = some (.inl 9) := by rw [eσ]; exact hsb
  rw [← eσ]
  skip
  obtain ⟨K11, hK11⟩ : ∃ K : Int32 → Int32 → Int32 → St → Prop, K = (fun (x1 : Int32) (x3 : Int32) (x4 : Int32) (σ : St) => ∀ (H : Heap) (locs : List Loc) (ls : Array Slot), gr σ0 σ → wh D B σ s H → va_S (zA B) s.heap H locs → lv_has ls 6 [(0, va_rf (some b)), (1, .int x1), (3, .int x3), (4, .int x4)] → W p l e (rm_M_plainOf) s m args below meth c H locs 0 0 (MQ below (zQ D B σ0 (zQi Q)) args s (rm_M_plainOf).cells (rm_M_plainOf).slots (zA B)) (F0 m 11 ls [])) := ⟨_, rfl⟩
  refine (fun hB => ?_) (hB K11 ?_)
  · skip
    refine zr_aload_n (o := some b) hx hb d_M_plainOf_0 rfl (lv_at hl 0 rfl) ?_
    refine lv_iload_n hx hb d_M_plainOf_1 rfl (lv_at hl 1 rfl) ?_
    refine lv_iload_n hx hb d_M_plainOf_2 rfl (lv_at hl 2 rfl) ?_
    have hsr := And.left hB
    refine zr_callV (ci := 9) (As := [.int x1, .int x2]) (rest := []) hx hb hml hC hwk hw hS hl.1 (c_M_unfolds l D B b x1 x2 σ _ hB) mk_M_unfolds mi_M_unfolds ms_M_unfolds ml_M_76 ⟨Nat.le_of_ble_eq_true rfl, Nat.le_of_ble_eq_true rfl⟩ rfl hsr rfl (cat_8 cat_n (Nat.le_of_ble_eq_true rfl)) d_M_plainOf_3 ⟨Nat.le_refl _, Nat.le_refl _⟩ rfl (fun v σ5 H locs hp hgn hw hS => ?_)
    have hg := hg.tr hgn
    have hsb := hgn _ _ hsb
    obtain ⟨rfl, hB⟩ := hp
    refine W.eq (g2 := F0 m 6 ls []) rfl ?_
    refine lv_iload_n hx hb d_M_plainOf_6 rfl (lv_at hl 2 rfl) ?_
    refine lv_istore_n (lv' := [(3, .int x2), (0, va_rf (some b)), (1, .int x1), (2, .int x2)]) hx hb d_M_plainOf_7 rfl hl (by decide) rfl (fun ls hl => ?_)
    refine lv_iconst (v := nI 1) hx hb d_M_plainOf_8 (by decide) ?_
    refine lv_istore (lv' := [(4, .int (nI 1)), (3, .int x2), (0, va_rf (some b)), (1, .int x1), (2, .int x2)]) hx hb d_M_plainOf_9 hl (by decide) rfl (fun ls hl => ?_)
    rw [hK11] at hB
    exact hB _ _ _ hg hw hS (lv_sub hl [2, 3, 1, 0] rfl)
  · intro x1 x3 x4 σ hB
    rw [hK11]
    intro H locs ls hg hw hS hl
    have hsb := hg _ _ hsb0
    refine lv_iload hx hb d_M_plainOf_11 (lv_at hl 3 rfl) ?_
    refine lv_iload_n hx hb d_M_plainOf_13 rfl (lv_at hl 1 rfl) ?_
    refine zr_callS (As := [.int x1]) (rest := [.int x4]) hx hb hml hC hwk hw hS hl.1 (c_M_waysOf l D B x1 σ _ hB) mk_M_waysOf mt_M_waysOf ml_M_80 ⟨Nat.le_of_ble_eq_true rfl, Nat.le_of_ble_eq_true rfl⟩ rfl (cat_8 (cat_c rfl cat_n) (Nat.le_of_ble_eq_true rfl)) d_M_plainOf_14 ⟨Nat.le_refl _, Nat.le_refl _⟩ rfl (fun v σ1 H locs hp hgn hw hS => ?_)
    have hg := hg.tr hgn
    have hsb := hgn _ _ hsb
    obtain ⟨r2, rfl, hB⟩ := hp
    refine W.eq (g2 := F0 m 17 ls [.int r2, .int x4]) rfl ?_
    refine lv_icmp_ge (tgt := 48) hx hb d_M_plainOf_17 (by decide) (fun cd => ?_) (fun cd => ?_)
    · have hB := hB.1 cd
      refine lv_iload_n hx hb d_M_plainOf_48 rfl (lv_at hl 2 rfl) ?_
      exact zr_iret hx hb hr hlocks hB hg hw hS d_M_plainOf_49
    · have hB := hB.2 cd
      refine zr_aload_n (o := some b) hx hb d_M_plainOf_20 rfl (lv_at hl 0 rfl) ?_
      refine lv_iload_n hx hb d_M_plainOf_21 rfl (lv_at hl 1 rfl) ?_
      refine lv_iload hx hb d_M_plainOf_22 (lv_at hl 3 rfl) ?_
      have hsr := And.left hB
      refine zr_callV (ci := 9) (As := [.int x1, .int x4]) (rest := []) hx hb hml hC hwk hw hS hl.1 (c_M_codeBy l D B b x1 x4 σ1 _ hB) mk_M_codeBy mi_M_codeBy ms_M_codeBy ml_M_83 ⟨Nat.le_of_ble_eq_true rfl, Nat.le_of_ble_eq_true rfl⟩ rfl hsr rfl (cat_8 cat_n (Nat.le_of_ble_eq_true rfl)) d_M_plainOf_24 ⟨Nat.le_refl _, Nat.le_refl _⟩ rfl (fun v σ3 H locs hp hgn hw hS => ?_)
      have hg := hg.tr hgn
      have hsb := hgn _ _ hsb
      obtain ⟨r4, rfl, hB⟩ := hp
      refine W.eq (g2 := F0 m 27 ls [.int r4]) rfl ?_
      refine lv_istore (lv' := [(5, .int r4), (0, va_rf (some b)), (1, .int x1), (3, .int x3), (4, .int x4)]) hx hb d_M_plainOf_27 hl (by decide) rfl (fun ls hl => ?_)
      refine lv_iload hx hb d_M_plainOf_29 (lv_at hl 0 rfl) ?_
      refine lv_iload_n hx hb d_M_plainOf_31 rfl (lv_at hl 3 rfl) ?_
      refine lv_icmp_ge (tgt := 40) hx hb d_M_plainOf_32 (by decide) (fun cd => ?_) (fun cd => ?_)
      · have hB := hB.1 cd
        refine lv_iload_n hx hb d_M_plainOf_40 rfl (lv_at hl 3 rfl) ?_
        refine lv_istore_n (lv' := [(3, .int x3), (5, .int r4), (0, va_rf (some b)), (1, .int x1), (4, .int x4)]) hx hb d_M_plainOf_41 rfl hl (by decide) rfl (fun ls hl => ?_)
        refine lv_iinc (v := x4 + nI 1) (lv' := [(4, .int (x4 + nI 1)), (3, .int x3), (5, .int r4), (0, va_rf (some b)), (1, .int x1)]) hx hb d_M_plainOf_42 hl (k := 4) rfl rfl (by decide) rfl (fun ls hl => ?_)
        refine lv_goto (tgt := 11) hx hb d_M_plainOf_45 (by decide) ?_
        rw [hK11] at hB
        exact hB _ _ _ hg hw hS (lv_sub hl [3, 4, 1, 0] rfl)
      · have hB := hB.2 cd
        refine lv_iload hx hb d_M_plainOf_35 (lv_at hl 0 rfl) ?_
        refine lv_goto (tgt := 41) hx hb d_M_plainOf_37 (by decide) ?_
        refine lv_istore_n (lv' := [(3, .int r4), (5, .int r4), (0, va_rf (some b)), (1, .int x1), (4, .int x4)]) hx hb d_M_plainOf_41 rfl hl (by decide) rfl (fun ls hl => ?_)
        refine lv_iinc (v := x4 + nI 1) (lv' := [(4, .int (x4 + nI 1)), (3, .int r4), (5, .int r4), (0, va_rf (some b)), (1, .int x1)]) hx hb d_M_plainOf_42 hl (k := 4) rfl rfl (by decide) rfl (fun ls hl => ?_)
        refine lv_goto (tgt := 11) hx hb d_M_plainOf_45 (by decide) ?_
        rw [hK11] at hB
        exact hB _ _ _ hg hw hS (lv_sub hl [3, 4, 1, 0] rfl)

set_option maxHeartbeats 4000000 in
set_option maxRecDepth 100000 in
theorem c_M_init (l : Launch) (D : va_G) (B : Nat) (b : Nat) (σ : St) (mc : Nat) (ms : Nat) (Q : St → Prop) (h : P_M_init b σ mc ms Q) : zM l y_M_init b_M_init 4 none (rm_M_init mc ms) D B [.ref b] σ (zQv Q) := by
  refine zM.ofW (own := "LawWorldsModel") (by decide +kernel) rfl (Nat.le_of_ble_eq_true rfl) ?_
  intro p e s m args below meth c ls hx hb hml hr hlocks hname hC hwk hw hS hl
  obtain ⟨σ0, eσ⟩ : ∃ z, z = σ := ⟨_, rfl⟩
  have hg : gr σ0 σ := by rw [eσ]; exact gr.rf
  have hl : lv_has ls 4 [(0, va_rf (some b))] := hl
  have ha1 : 0 ≤ mc := Nat.zero_le _
  have ha2 : 0 ≤ ms := Nat.zero_le _
  obtain ⟨hsb, hB⟩ := h
  have hsb0 : s_s σ0 b = some (.inl 9) := by rw [eσ]; exact hsb
  rw [← eσ]
  skip
  obtain ⟨K133, hK133⟩ : ∃ K : Int32 → Int32 → St → Nat → Nat → Prop, K = (fun (x1 : Int32) (x2 : Int32) (σ : St) (ca : Nat) (cb : Nat) => ∀ (H : Heap) (locs : List Loc) (ls : Array Slot), gr σ0 σ → wh D B σ s H → va_S (zA B) s.heap H locs → lv_has ls 4 [(0, va_rf (some b)), (1, .int x1), (2, .int x2)] → ca ≤ mc → cb ≤ ms → W p l e (rm_M_init mc ms) s m args below meth c H locs ca cb (MQ below (zQ D B σ0 (zQv Q)) args s (rm_M_init mc ms).cells (rm_M_init mc ms).slots (zA B)) (F0 m 133 ls [])) := ⟨_, rfl⟩
  obtain ⟨K147, hK147⟩ : ∃ K : Int32 → Int32 → Int32 → St → Nat → Nat → Prop, K = (fun (x1 : Int32) (x2 : Int32) (x3 : Int32) (σ : St) (ca : Nat) (cb : Nat) => ∀ (H : Heap) (locs : List Loc) (ls : Array Slot), gr σ0 σ → wh D B σ s H → va_S (zA B) s.heap H locs → lv_has ls 4 [(0, va_rf (some b)), (1, .int x1), (2, .int x2), (3, .int x3)] → ca ≤ mc → cb ≤ ms → W p l e (rm_M_init mc ms) s m args below meth c H locs ca cb (MQ below (zQ D B σ0 (zQv Q)) args s (rm_M_init mc ms).cells (rm_M_init mc ms).slots (zA B)) (F0 m 147 ls [])) := ⟨_, rfl⟩
  refine (fun hB => ?_) (hB K133 K147 ?_ ?_)
  · skip
    refine zr_aload_n (o := some b) hx hb d_M_init_0 rfl (lv_at hl 0 rfl) ?_
    refine W.objInit hx hb hC.1 (hC.2.1 _ ml_M_1) (hC.2.1 _ k_oi) (hC.2.1 _ k_oc) rfl (by rw [hml]; exact hl.1) rfl d_M_init_1 (Nat.le_of_ble_eq_true rfl) (Nat.le_of_ble_eq_true rfl) ?_
    refine W.eq (g2 := F0 m 4 ls []) rfl ?_
    refine zr_aload_n (o := some b) hx hb d_M_init_4 rfl (lv_at hl 0 rfl) ?_
    refine lv_sipush (v := nI 176) hx hb d_M_init_5 (by decide) ?_
    obtain ⟨hc1, hc2, hB⟩ := hB
    obtain ⟨q11, eqq11⟩ : ∃ z, z = s_n σ := ⟨_, rfl⟩
    obtain ⟨σ12, eσ12⟩ : ∃ z, z = w_new σ (.inr (0, 176)) := ⟨_, rfl⟩
    have hB := hB q11 σ12 eqq11 eσ12
    have hgn := hw.gnew (.inr (0, 176))
    refine zr_newa (t := 0) (atype := .int) (N := 176) hx hb hC hwk.1 hw hS ac_int rfl rfl rfl (Nat.le_of_ble_eq_true rfl) hc1 hc2 d_M_init_8 (fun H hw hS => ?_)
    rw [← eσ12] at hw hgn
    rw [← eqq11]
    have hg := hg.tr hgn
    have hsb := hgn _ _ hsb
    have ha1 := hc1
    have ha2 := hc2
    refine zr_putRF hx hb hC hname hw hS rfl hsb fl_M_7 rfl rfl (Or.inr ⟨_, rfl⟩) d_M_init_10 (fun H locs hw hS => ?_)
    refine zr_aload_n (o := some b) hx hb d_M_init_13 rfl (lv_at hl 0 rfl) ?_
    refine lv_sipush (v := nI 176) hx hb d_M_init_14 (by decide) ?_
    obtain ⟨hc1, hc2, hB⟩ := hB
    obtain ⟨q13, eqq13⟩ : ∃ z, z = s_n (w_r σ12 b 0 (some q11)) := ⟨_, rfl⟩
    obtain ⟨σ14, eσ14⟩ : ∃ z, z = w_new (w_r σ12 b 0 (some q11)) (.inr (0, 176)) := ⟨_, rfl⟩
    have hB := hB q13 σ14 eqq13 eσ14
    have hgn := hw.gnew (.inr (0, 176))
    refine zr_newa (t := 0) (atype := .int) (N := 176) hx hb hC hwk.1 hw hS ac_int rfl rfl rfl (Nat.le_of_ble_eq_true rfl) hc1 hc2 d_M_init_17 (fun H hw hS => ?_)
    rw [← eσ14] at hw hgn
    rw [← eqq13]
    have hg := hg.tr hgn
    have hsb := hgn _ _ hsb
    have ha1 := hc1
    have ha2 := hc2
    refine zr_putRF hx hb hC hname hw hS rfl hsb fl_M_13 rfl rfl (Or.inr ⟨_, rfl⟩) d_M_init_19 (fun H locs hw hS => ?_)
    refine zr_aload_n (o := some b) hx hb d_M_init_22 rfl (lv_at hl 0 rfl) ?_
    refine lv_sipush (v := nI 704) hx hb d_M_init_23 (by decide) ?_
    obtain ⟨hc1, hc2, hB⟩ := hB
    obtain ⟨q15, eqq15⟩ : ∃ z, z = s_n (w_r σ14 b 1 (some q13)) := ⟨_, rfl⟩
    obtain ⟨σ16, eσ16⟩ : ∃ z, z = w_new (w_r σ14 b 1 (some q13)) (.inr (0, 704)) := ⟨_, rfl⟩
    have hB := hB q15 σ16 eqq15 eσ16
    have hgn := hw.gnew (.inr (0, 704))
    refine zr_newa (t := 0) (atype := .int) (N := 704) hx hb hC hwk.1 hw hS ac_int rfl rfl rfl (Nat.le_of_ble_eq_true rfl) hc1 hc2 d_M_init_26 (fun H hw hS => ?_)
    rw [← eσ16] at hw hgn
    rw [← eqq15]
    have hg := hg.tr hgn
    have hsb := hgn _ _ hsb
    have ha1 := hc1
    have ha2 := hc2
    refine zr_putRF hx hb hC hname hw hS rfl hsb fl_M_16 rfl rfl (Or.inr ⟨_, rfl⟩) d_M_init_28 (fun H locs hw hS => ?_)
    refine zr_aload_n (o := some b) hx hb d_M_init_31 rfl (lv_at hl 0 rfl) ?_
    refine lv_sipush (v := nI 176) hx hb d_M_init_32 (by decide) ?_
    obtain ⟨hc1, hc2, hB⟩ := hB
    obtain ⟨q17, eqq17⟩ : ∃ z, z = s_n (w_r σ16 b 2 (some q15)) := ⟨_, rfl⟩
    obtain ⟨σ18, eσ18⟩ : ∃ z, z = w_new (w_r σ16 b 2 (some q15)) (.inr (0, 176)) := ⟨_, rfl⟩
    have hB := hB q17 σ18 eqq17 eσ18
    have hgn := hw.gnew (.inr (0, 176))
    refine zr_newa (t := 0) (atype := .int) (N := 176) hx hb hC hwk.1 hw hS ac_int rfl rfl rfl (Nat.le_of_ble_eq_true rfl) hc1 hc2 d_M_init_35 (fun H hw hS => ?_)
    rw [← eσ18] at hw hgn
    rw [← eqq17]
    have hg := hg.tr hgn
    have hsb := hgn _ _ hsb
    have ha1 := hc1
    have ha2 := hc2
    refine zr_putRF hx hb hC hname hw hS rfl hsb fl_M_19 rfl rfl (Or.inr ⟨_, rfl⟩) d_M_init_37 (fun H locs hw hS => ?_)
    refine zr_aload_n (o := some b) hx hb d_M_init_40 rfl (lv_at hl 0 rfl) ?_
    refine lv_sipush (v := nI 3341) hx hb d_M_init_41 (by decide) ?_
    obtain ⟨hc1, hc2, hB⟩ := hB
    obtain ⟨q19, eqq19⟩ : ∃ z, z = s_n (w_r σ18 b 4 (some q17)) := ⟨_, rfl⟩
    obtain ⟨σ20, eσ20⟩ : ∃ z, z = w_new (w_r σ18 b 4 (some q17)) (.inr (0, 3341)) := ⟨_, rfl⟩
    have hB := hB q19 σ20 eqq19 eσ20
    have hgn := hw.gnew (.inr (0, 3341))
    refine zr_newa (t := 0) (atype := .int) (N := 3341) hx hb hC hwk.1 hw hS ac_int rfl rfl rfl (Nat.le_of_ble_eq_true rfl) hc1 hc2 d_M_init_44 (fun H hw hS => ?_)
    rw [← eσ20] at hw hgn
    rw [← eqq19]
    have hg := hg.tr hgn
    have hsb := hgn _ _ hsb
    have ha1 := hc1
    have ha2 := hc2
    refine zr_putRF hx hb hC hname hw hS rfl hsb fl_M_22 rfl rfl (Or.inr ⟨_, rfl⟩) d_M_init_46 (fun H locs hw hS => ?_)
    refine zr_aload_n (o := some b) hx hb d_M_init_49 rfl (lv_at hl 0 rfl) ?_
    refine lv_iconst (v := nI 5) hx hb d_M_init_50 (by decide) ?_
    obtain ⟨hc1, hc2, hB⟩ := hB
    obtain ⟨q21, eqq21⟩ : ∃ z, z = s_n (w_r σ20 b 6 (some q19)) := ⟨_, rfl⟩
    obtain ⟨σ22, eσ22⟩ : ∃ z, z = w_new (w_r σ20 b 6 (some q19)) (.inr (0, 5)) := ⟨_, rfl⟩
    have hB := hB q21 σ22 eqq21 eσ22
    have hgn := hw.gnew (.inr (0, 5))
    refine zr_newa (t := 0) (atype := .int) (N := 5) hx hb hC hwk.1 hw hS ac_int rfl rfl rfl (Nat.le_of_ble_eq_true rfl) hc1 hc2 d_M_init_51 (fun H hw hS => ?_)
    rw [← eσ22] at hw hgn
    rw [← eqq21]
    have hg := hg.tr hgn
    have hsb := hgn _ _ hsb
    have ha1 := hc1
    have ha2 := hc2
    refine zr_putRF hx hb hC hname hw hS rfl hsb fl_M_25 rfl rfl (Or.inr ⟨_, rfl⟩) d_M_init_53 (fun H locs hw hS => ?_)
    refine zr_aload_n (o := some b) hx hb d_M_init_56 rfl (lv_at hl 0 rfl) ?_
    refine lv_bipush (v := nI 9) hx hb d_M_init_57 (by decide) ?_
    obtain ⟨hc1, hc2, hB⟩ := hB
    obtain ⟨q23, eqq23⟩ : ∃ z, z = s_n (w_r σ22 b 7 (some q21)) := ⟨_, rfl⟩
    obtain ⟨σ24, eσ24⟩ : ∃ z, z = w_new (w_r σ22 b 7 (some q21)) (.inr (0, 9)) := ⟨_, rfl⟩
    have hB := hB q23 σ24 eqq23 eσ24
    have hgn := hw.gnew (.inr (0, 9))
    refine zr_newa (t := 0) (atype := .int) (N := 9) hx hb hC hwk.1 hw hS ac_int rfl rfl rfl (Nat.le_of_ble_eq_true rfl) hc1 hc2 d_M_init_59 (fun H hw hS => ?_)
    rw [← eσ24] at hw hgn
    rw [← eqq23]
    have hg := hg.tr hgn
    have hsb := hgn _ _ hsb
    have ha1 := hc1
    have ha2 := hc2
    refine zr_putRF hx hb hC hname hw hS rfl hsb fl_M_28 rfl rfl (Or.inr ⟨_, rfl⟩) d_M_init_61 (fun H locs hw hS => ?_)
    refine zr_aload_n (o := some b) hx hb d_M_init_64 rfl (lv_at hl 0 rfl) ?_
    refine lv_bipush (v := nI 16) hx hb d_M_init_65 (by decide) ?_
    obtain ⟨hc1, hc2, hB⟩ := hB
    obtain ⟨q25, eqq25⟩ : ∃ z, z = s_n (w_r σ24 b 8 (some q23)) := ⟨_, rfl⟩
    obtain ⟨σ26, eσ26⟩ : ∃ z, z = w_new (w_r σ24 b 8 (some q23)) (.inr (0, 16)) := ⟨_, rfl⟩
    have hB := hB q25 σ26 eqq25 eσ26
    have hgn := hw.gnew (.inr (0, 16))
    refine zr_newa (t := 0) (atype := .int) (N := 16) hx hb hC hwk.1 hw hS ac_int rfl rfl rfl (Nat.le_of_ble_eq_true rfl) hc1 hc2 d_M_init_67 (fun H hw hS => ?_)
    rw [← eσ26] at hw hgn
    rw [← eqq25]
    have hg := hg.tr hgn
    have hsb := hgn _ _ hsb
    have ha1 := hc1
    have ha2 := hc2
    refine zr_putRF hx hb hC hname hw hS rfl hsb fl_M_31 rfl rfl (Or.inr ⟨_, rfl⟩) d_M_init_69 (fun H locs hw hS => ?_)
    refine zr_aload_n (o := some b) hx hb d_M_init_72 rfl (lv_at hl 0 rfl) ?_
    refine lv_sipush (v := nI 16705) hx hb d_M_init_73 (by decide) ?_
    obtain ⟨hc1, hc2, hB⟩ := hB
    obtain ⟨q27, eqq27⟩ : ∃ z, z = s_n (w_r σ26 b 9 (some q25)) := ⟨_, rfl⟩
    obtain ⟨σ28, eσ28⟩ : ∃ z, z = w_new (w_r σ26 b 9 (some q25)) (.inr (0, 16705)) := ⟨_, rfl⟩
    have hB := hB q27 σ28 eqq27 eσ28
    have hgn := hw.gnew (.inr (0, 16705))
    refine zr_newa (t := 0) (atype := .int) (N := 16705) hx hb hC hwk.1 hw hS ac_int rfl rfl rfl (Nat.le_of_ble_eq_true rfl) hc1 hc2 d_M_init_76 (fun H hw hS => ?_)
    rw [← eσ28] at hw hgn
    rw [← eqq27]
    have hg := hg.tr hgn
    have hsb := hgn _ _ hsb
    have ha1 := hc1
    have ha2 := hc2
    refine zr_putRF hx hb hC hname hw hS rfl hsb fl_M_34 rfl rfl (Or.inr ⟨_, rfl⟩) d_M_init_78 (fun H locs hw hS => ?_)
    refine zr_aload_n (o := some b) hx hb d_M_init_81 rfl (lv_at hl 0 rfl) ?_
    refine lv_sipush (v := nI 165) hx hb d_M_init_82 (by decide) ?_
    obtain ⟨hc1, hc2, hB⟩ := hB
    obtain ⟨q29, eqq29⟩ : ∃ z, z = s_n (w_r σ28 b 10 (some q27)) := ⟨_, rfl⟩
    obtain ⟨σ30, eσ30⟩ : ∃ z, z = w_new (w_r σ28 b 10 (some q27)) (.inr (0, 165)) := ⟨_, rfl⟩
    have hB := hB q29 σ30 eqq29 eσ30
    have hgn := hw.gnew (.inr (0, 165))
    refine zr_newa (t := 0) (atype := .int) (N := 165) hx hb hC hwk.1 hw hS ac_int rfl rfl rfl (Nat.le_of_ble_eq_true rfl) hc1 hc2 d_M_init_85 (fun H hw hS => ?_)
    rw [← eσ30] at hw hgn
    rw [← eqq29]
    have hg := hg.tr hgn
    have hsb := hgn _ _ hsb
    have ha1 := hc1
    have ha2 := hc2
    refine zr_putRF hx hb hC hname hw hS rfl hsb fl_M_37 rfl rfl (Or.inr ⟨_, rfl⟩) d_M_init_87 (fun H locs hw hS => ?_)
    refine zr_aload_n (o := some b) hx hb d_M_init_90 rfl (lv_at hl 0 rfl) ?_
    refine lv_bipush (v := nI 12) hx hb d_M_init_91 (by decide) ?_
    obtain ⟨hc1, hc2, hB⟩ := hB
    obtain ⟨q31, eqq31⟩ : ∃ z, z = s_n (w_r σ30 b 11 (some q29)) := ⟨_, rfl⟩
    obtain ⟨σ32, eσ32⟩ : ∃ z, z = w_new (w_r σ30 b 11 (some q29)) (.inr (0, 12)) := ⟨_, rfl⟩
    have hB := hB q31 σ32 eqq31 eσ32
    have hgn := hw.gnew (.inr (0, 12))
    refine zr_newa (t := 0) (atype := .int) (N := 12) hx hb hC hwk.1 hw hS ac_int rfl rfl rfl (Nat.le_of_ble_eq_true rfl) hc1 hc2 d_M_init_93 (fun H hw hS => ?_)
    rw [← eσ32] at hw hgn
    rw [← eqq31]
    have hg := hg.tr hgn
    have hsb := hgn _ _ hsb
    have ha1 := hc1
    have ha2 := hc2
    refine zr_putRF hx hb hC hname hw hS rfl hsb fl_M_40 rfl rfl (Or.inr ⟨_, rfl⟩) d_M_init_95 (fun H locs hw hS => ?_)
    refine zr_aload_n (o := some b) hx hb d_M_init_98 rfl (lv_at hl 0 rfl) ?_
    refine lv_bipush (v := nI 60) hx hb d_M_init_99 (by decide) ?_
    obtain ⟨hc1, hc2, hB⟩ := hB
    obtain ⟨q33, eqq33⟩ : ∃ z, z = s_n (w_r σ32 b 13 (some q31)) := ⟨_, rfl⟩
    obtain ⟨σ34, eσ34⟩ : ∃ z, z = w_new (w_r σ32 b 13 (some q31)) (.inr (0, 60)) := ⟨_, rfl⟩
    have hB := hB q33 σ34 eqq33 eσ34
    have hgn := hw.gnew (.inr (0, 60))
    refine zr_newa (t := 0) (atype := .int) (N := 60) hx hb hC hwk.1 hw hS ac_int rfl rfl rfl (Nat.le_of_ble_eq_true rfl) hc1 hc2 d_M_init_101 (fun H hw hS => ?_)
    rw [← eσ34] at hw hgn
    rw [← eqq33]
    have hg := hg.tr hgn
    have hsb := hgn _ _ hsb
    have ha1 := hc1
    have ha2 := hc2
    refine zr_putRF hx hb hC hname hw hS rfl hsb fl_M_43 rfl rfl (Or.inr ⟨_, rfl⟩) d_M_init_103 (fun H locs hw hS => ?_)
    refine zr_aload_n (o := some b) hx hb d_M_init_106 rfl (lv_at hl 0 rfl) ?_
    refine lv_sipush (v := nI 660) hx hb d_M_init_107 (by decide) ?_
    obtain ⟨hc1, hc2, hB⟩ := hB
    obtain ⟨q35, eqq35⟩ : ∃ z, z = s_n (w_r σ34 b 15 (some q33)) := ⟨_, rfl⟩
    obtain ⟨σ36, eσ36⟩ : ∃ z, z = w_new (w_r σ34 b 15 (some q33)) (.inr (0, 660)) := ⟨_, rfl⟩
    have hB := hB q35 σ36 eqq35 eσ36
    have hgn := hw.gnew (.inr (0, 660))
    refine zr_newa (t := 0) (atype := .int) (N := 660) hx hb hC hwk.1 hw hS ac_int rfl rfl rfl (Nat.le_of_ble_eq_true rfl) hc1 hc2 d_M_init_110 (fun H hw hS => ?_)
    rw [← eσ36] at hw hgn
    rw [← eqq35]
    have hg := hg.tr hgn
    have hsb := hgn _ _ hsb
    have ha1 := hc1
    have ha2 := hc2
    refine zr_putRF hx hb hC hname hw hS rfl hsb fl_M_46 rfl rfl (Or.inr ⟨_, rfl⟩) d_M_init_112 (fun H locs hw hS => ?_)
    refine zr_aload_n (o := some b) hx hb d_M_init_115 rfl (lv_at hl 0 rfl) ?_
    refine lv_iconst (v := nI 5) hx hb d_M_init_116 (by decide) ?_
    obtain ⟨hc1, hc2, hB⟩ := hB
    obtain ⟨q37, eqq37⟩ : ∃ z, z = s_n (w_r σ36 b 17 (some q35)) := ⟨_, rfl⟩
    obtain ⟨σ38, eσ38⟩ : ∃ z, z = w_new (w_r σ36 b 17 (some q35)) (.inr (0, 5)) := ⟨_, rfl⟩
    have hB := hB q37 σ38 eqq37 eσ38
    have hgn := hw.gnew (.inr (0, 5))
    refine zr_newa (t := 0) (atype := .int) (N := 5) hx hb hC hwk.1 hw hS ac_int rfl rfl rfl (Nat.le_of_ble_eq_true rfl) hc1 hc2 d_M_init_117 (fun H hw hS => ?_)
    rw [← eσ38] at hw hgn
    rw [← eqq37]
    have hg := hg.tr hgn
    have hsb := hgn _ _ hsb
    have ha1 := hc1
    have ha2 := hc2
    refine zr_putRF hx hb hC hname hw hS rfl hsb fl_M_49 rfl rfl (Or.inr ⟨_, rfl⟩) d_M_init_119 (fun H locs hw hS => ?_)
    refine zr_aload_n (o := some b) hx hb d_M_init_122 rfl (lv_at hl 0 rfl) ?_
    refine zr_get (v := va_rf (s_r (w_r σ38 b 22 (some q37)) b 0)) hx hb hC hw rfl hsb fl_M_7 rfl d_M_init_123 ?_
    refine lv_iconst (v := nI 0) hx hb d_M_init_126 (by decide) ?_
    refine lv_iconst (v := nI 2) hx hb d_M_init_127 (by decide) ?_
    obtain ⟨q39, n39, j40, ho, hs, hin, hj, hB⟩ := hB
    refine zr_iast hx hb hw hS ho hs hin hj d_M_init_128 (fun H locs hw hS => ?_)
    refine lv_iconst (v := nI 0) hx hb d_M_init_129 (by decide) ?_
    refine lv_istore_n (lv' := [(1, .int (nI 0)), (0, va_rf (some b))]) hx hb d_M_init_130 rfl hl (by decide) rfl (fun ls hl => ?_)
    refine lv_iconst (v := nI 1) hx hb d_M_init_131 (by decide) ?_
    refine lv_istore_n (lv' := [(2, .int (nI 1)), (1, .int (nI 0)), (0, va_rf (some b))]) hx hb d_M_init_132 rfl hl (by decide) rfl (fun ls hl => ?_)
    rw [hK133] at hB
    exact hB _ _ _ hg hw hS (lv_sub hl [2, 1, 0] rfl) ha1 ha2
  · intro x1 x2 σ ca cb hB
    rw [hK133]
    intro H locs ls hg hw hS hl ha1 ha2
    have hsb := hg _ _ hsb0
    refine lv_iload_n hx hb d_M_init_133 rfl (lv_at hl 2 rfl) ?_
    refine lv_iconst (v := nI 3) hx hb d_M_init_134 (by decide) ?_
    refine lv_icmp_gt (tgt := 187) hx hb d_M_init_135 (by decide) (fun cd => ?_) (fun cd => ?_)
    · have hB := hB.1 cd
      refine zr_aload_n (o := some b) hx hb d_M_init_187 rfl (lv_at hl 0 rfl) ?_
      refine zr_get (v := va_rf (s_r σ b 7)) hx hb hC hw rfl hsb fl_M_25 rfl d_M_init_188 ?_
      refine lv_iconst (v := nI 4) hx hb d_M_init_191 (by decide) ?_
      refine lv_iload_n hx hb d_M_init_192 rfl (lv_at hl 1 rfl) ?_
      obtain ⟨q1, n1, j2, ho, hs, hin, hj, hB⟩ := hB
      refine zr_iast hx hb hw hS ho hs hin hj d_M_init_193 (fun H locs hw hS => ?_)
      refine W.widen (k := mc) (n := ms) ha1 ha2 ?_
      exact zr_vret hx hb hr hlocks hB hg hw hS d_M_init_194
    · have hB := hB.2 cd
      refine zr_aload_n (o := some b) hx hb d_M_init_138 rfl (lv_at hl 0 rfl) ?_
      refine zr_get (v := va_rf (s_r σ b 7)) hx hb hC hw rfl hsb fl_M_25 rfl d_M_init_139 ?_
      refine lv_iload_n hx hb d_M_init_142 rfl (lv_at hl 2 rfl) ?_
      refine lv_iload_n hx hb d_M_init_143 rfl (lv_at hl 1 rfl) ?_
      obtain ⟨q3, n3, j4, ho, hs, hin, hj, hB⟩ := hB
      refine zr_iast hx hb hw hS ho hs hin hj d_M_init_144 (fun H locs hw hS => ?_)
      refine lv_iconst (v := nI 0) hx hb d_M_init_145 (by decide) ?_
      refine lv_istore_n (lv' := [(3, .int (nI 0)), (0, va_rf (some b)), (1, .int x1), (2, .int x2)]) hx hb d_M_init_146 rfl hl (by decide) rfl (fun ls hl => ?_)
      rw [hK147] at hB
      exact hB _ _ _ hg hw hS (lv_sub hl [1, 2, 3, 0] rfl) ha1 ha2
  · intro x1 x2 x3 σ ca cb hB
    rw [hK147]
    intro H locs ls hg hw hS hl ha1 ha2
    have hsb := hg _ _ hsb0
    refine lv_iload_n hx hb d_M_init_147 rfl (lv_at hl 3 rfl) ?_
    refine lv_iload_n hx hb d_M_init_148 rfl (lv_at hl 2 rfl) ?_
    refine zr_callS (As := [.int x2]) (rest := [.int x3]) hx hb hml hC hwk hw hS hl.1 (c_M_codes l D B x2 σ _ hB) mk_M_codes mt_M_codes ml_M_52 ⟨Nat.le_of_ble_eq_true rfl, Nat.le_of_ble_eq_true rfl⟩ rfl (cat_8 (cat_c rfl cat_n) (Nat.le_of_ble_eq_true rfl)) d_M_init_149 ⟨ha1, ha2⟩ rfl (fun v σ5 H locs hp hgn hw hS => ?_)
    have hg := hg.tr hgn
    have hsb := hgn _ _ hsb
    obtain ⟨r6, rfl, hB⟩ := hp
    refine W.eq (g2 := F0 m 152 ls [.int r6, .int x3]) rfl ?_
    refine lv_icmp_ge (tgt := 181) hx hb d_M_init_152 (by decide) (fun cd => ?_) (fun cd => ?_)
    · have hB := hB.1 cd
      refine lv_iinc (v := x2 + nI 1) (lv' := [(2, .int (x2 + nI 1)), (0, va_rf (some b)), (1, .int x1), (3, .int x3)]) hx hb d_M_init_181 hl (k := 2) rfl rfl (by decide) rfl (fun ls hl => ?_)
      refine lv_goto (tgt := 133) hx hb d_M_init_184 (by decide) ?_
      rw [hK133] at hB
      exact hB _ _ _ hg hw hS (lv_sub hl [1, 2, 0] rfl) ha1 ha2
    · have hB := hB.2 cd
      refine zr_aload_n (o := some b) hx hb d_M_init_155 rfl (lv_at hl 0 rfl) ?_
      refine lv_iload_n hx hb d_M_init_156 rfl (lv_at hl 2 rfl) ?_
      refine lv_iload_n hx hb d_M_init_157 rfl (lv_at hl 3 rfl) ?_
      have hsr := And.left hB
      refine zr_callV (ci := 9) (As := [.int x2, .int x3]) (rest := []) hx hb hml hC hwk hw hS hl.1 (c_M_plainOf l D B b x2 x3 σ5 _ hB) mk_M_plainOf mi_M_plainOf ms_M_plainOf ml_M_56 ⟨Nat.le_of_ble_eq_true rfl, Nat.le_of_ble_eq_true rfl⟩ rfl hsr rfl (cat_8 cat_n (Nat.le_of_ble_eq_true rfl)) d_M_init_158 ⟨ha1, ha2⟩ rfl (fun v σ7 H locs hp hgn hw hS => ?_)
      have hg := hg.tr hgn
      have hsb := hgn _ _ hsb
      obtain ⟨r8, rfl, hB⟩ := hp
      refine W.eq (g2 := F0 m 161 ls [.int r8]) rfl ?_
      refine lv_iload_n hx hb d_M_init_161 rfl (lv_at hl 3 rfl) ?_
      refine lv_icmp_ne (tgt := 175) hx hb d_M_init_162 (by decide) (fun cd => ?_) (fun cd => ?_)
      · have hB := hB.2 cd
        refine lv_iinc (v := x3 + nI 1) (lv' := [(3, .int (x3 + nI 1)), (0, va_rf (some b)), (1, .int x1), (2, .int x2)]) hx hb d_M_init_175 hl (k := 3) rfl rfl (by decide) rfl (fun ls hl => ?_)
        refine lv_goto (tgt := 147) hx hb d_M_init_178 (by decide) ?_
        rw [hK147] at hB
        exact hB _ _ _ hg hw hS (lv_sub hl [1, 2, 3, 0] rfl) ha1 ha2
      · have hB := hB.1 cd
        refine zr_aload_n (o := some b) hx hb d_M_init_165 rfl (lv_at hl 0 rfl) ?_
        refine zr_get (v := va_rf (s_r σ7 b 6)) hx hb hC hw rfl hsb fl_M_22 rfl d_M_init_166 ?_
        refine lv_iload_n hx hb d_M_init_169 rfl (lv_at hl 1 rfl) ?_
        refine lv_iload_n hx hb d_M_init_170 rfl (lv_at hl 3 rfl) ?_
        obtain ⟨q9, n9, j10, ho, hs, hin, hj, hB⟩ := hB
        refine zr_iast hx hb hw hS ho hs hin hj d_M_init_171 (fun H locs hw hS => ?_)
        refine lv_iinc (v := x1 + nI 1) (lv' := [(1, .int (x1 + nI 1)), (0, va_rf (some b)), (2, .int x2), (3, .int x3)]) hx hb d_M_init_172 hl (k := 1) rfl rfl (by decide) rfl (fun ls hl => ?_)
        refine lv_iinc (v := x3 + nI 1) (lv' := [(3, .int (x3 + nI 1)), (1, .int (x1 + nI 1)), (0, va_rf (some b)), (2, .int x2)]) hx hb d_M_init_175 hl (k := 3) rfl rfl (by decide) rfl (fun ls hl => ?_)
        refine lv_goto (tgt := 147) hx hb d_M_init_178 (by decide) ?_
        rw [hK147] at hB
        exact hB _ _ _ hg hw hS (lv_sub hl [2, 1, 3, 0] rfl) ha1 ha2

set_option maxHeartbeats 4000000 in
set_option maxRecDepth 100000 in
theorem c_M_in (l : Launch) (D : va_G) (B : Nat) (l0 : Int64) (l2 : Int64) (l4 : Int64) (σ : St) (Q : Int32 → St → Prop) (h : P_M_in l0 l2 l4 σ Q) : zM l y_M_in b_M_in 6 (some (.boolean)) (rm_M_in) D B [.long l0, .long l2, .long l4] σ (zQi Q) := by
  refine zM.ofW (own := "LawWorldsModel") (by decide +kernel) rfl (Nat.le_of_ble_eq_true rfl) ?_
  intro p e s m args below meth c ls hx hb hml hr hlocks hname hC hwk hw hS hl
  obtain ⟨σ0, eσ⟩ : ∃ z, z = σ := ⟨_, rfl⟩
  have hg : gr σ0 σ := by rw [eσ]; exact gr.rf
  have hl : lv_has ls 6 [(0, .long l0), (2, .long l2), (4, .long l4)] := hl
  have hB := h
  rw [← eσ]
  skip
  refine lv_lload_n hx hb d_M_in_0 rfl (lv_at hl 0 rfl) ?_
  refine lv_lload_n hx hb d_M_in_1 rfl (lv_at hl 1 rfl) ?_
  refine W.lcmp hx hb d_M_in_2 ?_
  refine lv_if_lt (tgt := 17) hx hb d_M_in_3 (by decide) (fun cd => ?_) (fun cd => ?_)
  · have hB := hB.1 cd
    refine lv_iconst (v := nI 0) hx hb d_M_in_17 (by decide) ?_
    exact zr_zret hx hb hr hlocks (Or.inl rfl) hB hg hw hS d_M_in_18
  · have hB := hB.2 cd
    refine lv_lload_n hx hb d_M_in_6 rfl (lv_at hl 0 rfl) ?_
    refine lv_lload hx hb d_M_in_7 (lv_at hl 2 rfl) ?_
    refine W.lcmp hx hb d_M_in_9 ?_
    refine lv_if_gt (tgt := 17) hx hb d_M_in_10 (by decide) (fun cd => ?_) (fun cd => ?_)
    · have hB := hB.1 cd
      refine lv_iconst (v := nI 0) hx hb d_M_in_17 (by decide) ?_
      exact zr_zret hx hb hr hlocks (Or.inl rfl) hB hg hw hS d_M_in_18
    · have hB := hB.2 cd
      refine lv_iconst (v := nI 1) hx hb d_M_in_13 (by decide) ?_
      refine lv_goto (tgt := 18) hx hb d_M_in_14 (by decide) ?_
      exact zr_zret hx hb hr hlocks (Or.inr rfl) hB hg hw hS d_M_in_18

set_option maxHeartbeats 4000000 in
set_option maxRecDepth 100000 in
theorem c_M_isWorld (l : Launch) (D : va_G) (B : Nat) (x0 : Int32) (x1 : Int32) (σ : St) (Q : Int32 → St → Prop) (h : P_M_isWorld x0 x1 σ Q) : zM l y_M_isWorld b_M_isWorld 2 (some (.boolean)) (rm_M_isWorld) D B [.int x0, .int x1] σ (zQi Q) := by
  refine zM.ofW (own := "LawWorldsModel") (by decide +kernel) rfl (Nat.le_of_ble_eq_true rfl) ?_
  intro p e s m args below meth c ls hx hb hml hr hlocks hname hC hwk hw hS hl
  obtain ⟨σ0, eσ⟩ : ∃ z, z = σ := ⟨_, rfl⟩
  have hg : gr σ0 σ := by rw [eσ]; exact gr.rf
  have hl : lv_has ls 2 [(0, .int x0), (1, .int x1)] := hl
  have hB := h
  rw [← eσ]
  skip
  refine lv_iload_n hx hb d_M_isWorld_0 rfl (lv_at hl 0 rfl) ?_
  refine lv_i2l hx hb d_M_isWorld_1 rfl ?_
  refine lv_lconst (v := lN 1) hx hb d_M_isWorld_2 (by decide) ?_
  refine lv_ldc2 (v := lN 3) hx hb hC.1 (hC.2.1 _ kc_M_67) d_M_isWorld_3 ?_
  refine zr_callS (As := [.long (x0.toInt64), .long (lN 1), .long (lN 3)]) (rest := []) hx hb hml hC hwk hw hS hl.1 (c_M_in l D B (x0.toInt64) (lN 1) (lN 3) σ _ hB) mk_M_in mt_M_in ml_M_69 ⟨Nat.le_of_ble_eq_true rfl, Nat.le_of_ble_eq_true rfl⟩ rfl (cat_8 cat_n (Nat.le_of_ble_eq_true rfl)) d_M_isWorld_6 ⟨Nat.le_refl _, Nat.le_refl _⟩ rfl (fun v σ1 H locs hp hgn hw hS => ?_)
  have hg := hg.tr hgn
  obtain ⟨r2, rfl, hB⟩ := hp
  refine W.eq (g2 := F0 m 9 ls [.int r2]) rfl ?_
  refine lv_if_eq (tgt := 32) hx hb d_M_isWorld_9 (by decide) (fun cd => ?_) (fun cd => ?_)
  · have hB := hB.1 cd
    refine lv_iconst (v := nI 0) hx hb d_M_isWorld_32 (by decide) ?_
    exact zr_zret hx hb hr hlocks (Or.inl rfl) hB hg hw hS d_M_isWorld_33
  · have hB := hB.2 cd
    refine lv_iload_n hx hb d_M_isWorld_12 rfl (lv_at hl 1 rfl) ?_
    refine lv_i2l hx hb d_M_isWorld_13 rfl ?_
    refine lv_lconst (v := lN 0) hx hb d_M_isWorld_14 (by decide) ?_
    refine lv_iload_n hx hb d_M_isWorld_15 rfl (lv_at hl 0 rfl) ?_
    refine zr_callS (As := [.int x0]) (rest := [.long (lN 0), .long (x1.toInt64)]) hx hb hml hC hwk hw hS hl.1 (c_M_codes l D B x0 σ1 _ hB) mk_M_codes mt_M_codes ml_M_52 ⟨Nat.le_of_ble_eq_true rfl, Nat.le_of_ble_eq_true rfl⟩ rfl (cat_8 (cat_d rfl (cat_d rfl cat_n)) (Nat.le_of_ble_eq_true rfl)) d_M_isWorld_16 ⟨Nat.le_refl _, Nat.le_refl _⟩ rfl (fun v σ3 H locs hp hgn hw hS => ?_)
    have hg := hg.tr hgn
    obtain ⟨r4, rfl, hB⟩ := hp
    refine W.eq (g2 := F0 m 19 ls [.int r4, .long (lN 0), .long (x1.toInt64)]) rfl ?_
    refine lv_i2l hx hb d_M_isWorld_19 rfl ?_
    refine lv_lconst (v := lN 1) hx hb d_M_isWorld_20 (by decide) ?_
    refine lv_lsub hx hb d_M_isWorld_21 ?_
    refine zr_callS (As := [.long (x1.toInt64), .long (lN 0), .long ((r4.toInt64) - (lN 1))]) (rest := []) hx hb hml hC hwk hw hS hl.1 (c_M_in l D B (x1.toInt64) (lN 0) ((r4.toInt64) - (lN 1)) σ3 _ hB) mk_M_in mt_M_in ml_M_69 ⟨Nat.le_of_ble_eq_true rfl, Nat.le_of_ble_eq_true rfl⟩ rfl (cat_8 cat_n (Nat.le_of_ble_eq_true rfl)) d_M_isWorld_22 ⟨Nat.le_refl _, Nat.le_refl _⟩ rfl (fun v σ5 H locs hp hgn hw hS => ?_)
    have hg := hg.tr hgn
    obtain ⟨r6, rfl, hB⟩ := hp
    refine W.eq (g2 := F0 m 25 ls [.int r6]) rfl ?_
    refine lv_if_eq (tgt := 32) hx hb d_M_isWorld_25 (by decide) (fun cd => ?_) (fun cd => ?_)
    · have hB := hB.1 cd
      refine lv_iconst (v := nI 0) hx hb d_M_isWorld_32 (by decide) ?_
      exact zr_zret hx hb hr hlocks (Or.inl rfl) hB hg hw hS d_M_isWorld_33
    · have hB := hB.2 cd
      refine lv_iconst (v := nI 1) hx hb d_M_isWorld_28 (by decide) ?_
      refine lv_goto (tgt := 33) hx hb d_M_isWorld_29 (by decide) ?_
      exact zr_zret hx hb hr hlocks (Or.inr rfl) hB hg hw hS d_M_isWorld_33

set_option maxHeartbeats 4000000 in
set_option maxRecDepth 100000 in
theorem c_M_remember (l : Launch) (D : va_G) (B : Nat) (b : Nat) (σ : St) (Q : St → Prop) (h : P_M_remember b σ Q) : zM l y_M_remember b_M_remember 2 none (rm_M_remember) D B [.ref b] σ (zQv Q) := by
  refine zM.ofW (own := "LawWorldsModel") (by decide +kernel) rfl (Nat.le_of_ble_eq_true rfl) ?_
  intro p e s m args below meth c ls hx hb hml hr hlocks hname hC hwk hw hS hl
  obtain ⟨σ0, eσ⟩ : ∃ z, z = σ := ⟨_, rfl⟩
  have hg : gr σ0 σ := by rw [eσ]; exact gr.rf
  have hl : lv_has ls 2 [(0, va_rf (some b))] := hl
  obtain ⟨hsb, hB⟩ := h
  have hsb0 : s_s σ0 b = some (.inl 9) := by rw [eσ]; exact hsb
  rw [← eσ]
  skip
  obtain ⟨K2, hK2⟩ : ∃ K : Int32 → St → Prop, K = (fun (x1 : Int32) (σ : St) => ∀ (H : Heap) (locs : List Loc) (ls : Array Slot), gr σ0 σ → wh D B σ s H → va_S (zA B) s.heap H locs → lv_has ls 2 [(0, va_rf (some b)), (1, .int x1)] → W p l e (rm_M_remember) s m args below meth c H locs 0 0 (MQ below (zQ D B σ0 (zQv Q)) args s (rm_M_remember).cells (rm_M_remember).slots (zA B)) (F0 m 2 ls [])) := ⟨_, rfl⟩
  refine (fun hB => ?_) (hB K2 ?_)
  · skip
    refine lv_iconst (v := nI 0) hx hb d_M_remember_0 (by decide) ?_
    refine lv_istore_n (lv' := [(1, .int (nI 0)), (0, va_rf (some b))]) hx hb d_M_remember_1 rfl hl (by decide) rfl (fun ls hl => ?_)
    rw [hK2] at hB
    exact hB _ _ _ hg hw hS (lv_sub hl [1, 0] rfl)
  · intro x1 σ hB
    rw [hK2]
    intro H locs ls hg hw hS hl
    have hsb := hg _ _ hsb0
    refine lv_iload_n hx hb d_M_remember_2 rfl (lv_at hl 1 rfl) ?_
    refine lv_sipush (v := nI 176) hx hb d_M_remember_3 (by decide) ?_
    refine lv_icmp_ge (tgt := 27) hx hb d_M_remember_6 (by decide) (fun cd => ?_) (fun cd => ?_)
    · have hB := hB.1 cd
      exact zr_vret hx hb hr hlocks hB hg hw hS d_M_remember_27
    · have hB := hB.2 cd
      refine zr_aload_n (o := some b) hx hb d_M_remember_9 rfl (lv_at hl 0 rfl) ?_
      refine zr_get (v := va_rf (s_r σ b 1)) hx hb hC hw rfl hsb fl_M_13 rfl d_M_remember_10 ?_
      refine lv_iload_n hx hb d_M_remember_13 rfl (lv_at hl 1 rfl) ?_
      refine zr_aload_n (o := some b) hx hb d_M_remember_14 rfl (lv_at hl 0 rfl) ?_
      refine zr_get (v := va_rf (s_r σ b 0)) hx hb hC hw rfl hsb fl_M_7 rfl d_M_remember_15 ?_
      refine lv_iload_n hx hb d_M_remember_18 rfl (lv_at hl 1 rfl) ?_
      obtain ⟨q1, n1, j2, ho, hs, hin, hj, hB⟩ := hB
      refine zr_iald hx hb hw ho hs hin hj d_M_remember_19 ?_
      obtain ⟨q3, n3, j4, ho, hs, hin, hj, hB⟩ := hB
      refine zr_iast hx hb hw hS ho hs hin hj d_M_remember_20 (fun H locs hw hS => ?_)
      refine lv_iinc (v := x1 + nI 1) (lv' := [(1, .int (x1 + nI 1)), (0, va_rf (some b))]) hx hb d_M_remember_21 hl (k := 1) rfl rfl (by decide) rfl (fun ls hl => ?_)
      refine lv_goto (tgt := 2) hx hb d_M_remember_24 (by decide) ?_
      rw [hK2] at hB
      exact hB _ _ _ hg hw hS (lv_sub hl [1, 0] rfl)

set_option maxHeartbeats 4000000 in
set_option maxRecDepth 100000 in
theorem c_M_acted (l : Launch) (D : va_G) (B : Nat) (b : Nat) (x1 : Int32) (σ : St) (Q : Int32 → St → Prop) (h : P_M_acted b x1 σ Q) : zM l y_M_acted b_M_acted 3 (some (.int)) (rm_M_acted) D B [.ref b, .int x1] σ (zQi Q) := by
  refine zM.ofW (own := "LawWorldsModel") (by decide +kernel) rfl (Nat.le_of_ble_eq_true rfl) ?_
  intro p e s m args below meth c ls hx hb hml hr hlocks hname hC hwk hw hS hl
  obtain ⟨σ0, eσ⟩ : ∃ z, z = σ := ⟨_, rfl⟩
  have hg : gr σ0 σ := by rw [eσ]; exact gr.rf
  have hl : lv_has ls 3 [(0, va_rf (some b)), (1, .int x1)] := hl
  obtain ⟨hsb, hB⟩ := h
  have hsb0 : s_s σ0 b = some (.inl 9) := by rw [eσ]; exact hsb
  rw [← eσ]
  skip
  obtain ⟨K10, hK10⟩ : ∃ K : Int32 → Int32 → St → Prop, K = (fun (x1 : Int32) (x2 : Int32) (σ : St) => ∀ (H : Heap) (locs : List Loc) (ls : Array Slot), gr σ0 σ → wh D B σ s H → va_S (zA B) s.heap H locs → lv_has ls 3 [(0, va_rf (some b)), (1, .int x1), (2, .int x2)] → W p l e (rm_M_acted) s m args below meth c H locs 0 0 (MQ below (zQ D B σ0 (zQi Q)) args s (rm_M_acted).cells (rm_M_acted).slots (zA B)) (F0 m 10 ls [])) := ⟨_, rfl⟩
  obtain ⟨K51, hK51⟩ : ∃ K : Int32 → Int32 → St → Prop, K = (fun (x1 : Int32) (x2 : Int32) (σ : St) => ∀ (H : Heap) (locs : List Loc) (ls : Array Slot), gr σ0 σ → wh D B σ s H → va_S (zA B) s.heap H locs → lv_has ls 3 [(0, va_rf (some b)), (1, .int x1), (2, .int x2)] → W p l e (rm_M_acted) s m args below meth c H locs 0 0 (MQ below (zQ D B σ0 (zQi Q)) args s (rm_M_acted).cells (rm_M_acted).slots (zA B)) (F0 m 51 ls [])) := ⟨_, rfl⟩
  refine (fun hB => ?_) (hB K10 K51 ?_ ?_)
  · skip
    refine zr_aload_n (o := some b) hx hb d_M_acted_0 rfl (lv_at hl 0 rfl) ?_
    refine zr_get (v := .int (s_i σ b 3)) hx hb hC hw rfl hsb fl_M_60 rfl d_M_acted_1 ?_
    refine lv_iconst (v := nI 4) hx hb d_M_acted_4 (by decide) ?_
    refine lv_icmp_ne (tgt := 49) hx hb d_M_acted_5 (by decide) (fun cd => ?_) (fun cd => ?_)
    · have hB := hB.2 cd
      refine lv_iconst (v := nI 0) hx hb d_M_acted_49 (by decide) ?_
      refine lv_istore_n (lv' := [(2, .int (nI 0)), (0, va_rf (some b)), (1, .int x1)]) hx hb d_M_acted_50 rfl hl (by decide) rfl (fun ls hl => ?_)
      rw [hK51] at hB
      exact hB _ _ _ hg hw hS (lv_sub hl [1, 2, 0] rfl)
    · have hB := hB.1 cd
      refine lv_iconst (v := nI 0) hx hb d_M_acted_8 (by decide) ?_
      refine lv_istore_n (lv' := [(2, .int (nI 0)), (0, va_rf (some b)), (1, .int x1)]) hx hb d_M_acted_9 rfl hl (by decide) rfl (fun ls hl => ?_)
      rw [hK10] at hB
      exact hB _ _ _ hg hw hS (lv_sub hl [1, 2, 0] rfl)
  · intro x1 x2 σ hB
    rw [hK10]
    intro H locs ls hg hw hS hl
    have hsb := hg _ _ hsb0
    refine lv_iload_n hx hb d_M_acted_10 rfl (lv_at hl 2 rfl) ?_
    refine lv_sipush (v := nI 528) hx hb d_M_acted_11 (by decide) ?_
    refine lv_icmp_ge (tgt := 39) hx hb d_M_acted_14 (by decide) (fun cd => ?_) (fun cd => ?_)
    · have hB := hB.1 cd
      refine zr_aload_n (o := some b) hx hb d_M_acted_39 rfl (lv_at hl 0 rfl) ?_
      refine lv_dup hx hb d_M_acted_40 (va_rf_cat _) ?_
      refine zr_get (v := .int (s_i σ b 3)) hx hb hC hw rfl hsb fl_M_60 rfl d_M_acted_41 ?_
      refine lv_iconst (v := nI 1) hx hb d_M_acted_44 (by decide) ?_
      refine lv_isub hx hb d_M_acted_45 ?_
      refine zr_putI hx hb hC hw hS rfl hsb fl_M_60 rfl rfl d_M_acted_46 (fun H locs hw hS => ?_)
      refine lv_iconst (v := nI 0) hx hb d_M_acted_49 (by decide) ?_
      refine lv_istore_n (lv' := [(2, .int (nI 0)), (0, va_rf (some b)), (1, .int x1)]) hx hb d_M_acted_50 rfl hl (by decide) rfl (fun ls hl => ?_)
      rw [hK51] at hB
      exact hB _ _ _ hg hw hS (lv_sub hl [1, 2, 0] rfl)
    · have hB := hB.2 cd
      refine zr_aload_n (o := some b) hx hb d_M_acted_17 rfl (lv_at hl 0 rfl) ?_
      refine zr_get (v := va_rf (s_r σ b 2)) hx hb hC hw rfl hsb fl_M_16 rfl d_M_acted_18 ?_
      refine lv_iload_n hx hb d_M_acted_21 rfl (lv_at hl 2 rfl) ?_
      refine zr_aload_n (o := some b) hx hb d_M_acted_22 rfl (lv_at hl 0 rfl) ?_
      refine zr_get (v := va_rf (s_r σ b 2)) hx hb hC hw rfl hsb fl_M_16 rfl d_M_acted_23 ?_
      refine lv_iload_n hx hb d_M_acted_26 rfl (lv_at hl 2 rfl) ?_
      refine lv_sipush (v := nI 176) hx hb d_M_acted_27 (by decide) ?_
      refine lv_iadd hx hb d_M_acted_30 ?_
      obtain ⟨q1, n1, j2, ho, hs, hin, hj, hB⟩ := hB
      refine zr_iald hx hb hw ho hs hin hj d_M_acted_31 ?_
      obtain ⟨q3, n3, j4, ho, hs, hin, hj, hB⟩ := hB
      refine zr_iast hx hb hw hS ho hs hin hj d_M_acted_32 (fun H locs hw hS => ?_)
      refine lv_iinc (v := x2 + nI 1) (lv' := [(2, .int (x2 + nI 1)), (0, va_rf (some b)), (1, .int x1)]) hx hb d_M_acted_33 hl (k := 2) rfl rfl (by decide) rfl (fun ls hl => ?_)
      refine lv_goto (tgt := 10) hx hb d_M_acted_36 (by decide) ?_
      rw [hK10] at hB
      exact hB _ _ _ hg hw hS (lv_sub hl [1, 2, 0] rfl)
  · intro x1 x2 σ hB
    rw [hK51]
    intro H locs ls hg hw hS hl
    have hsb := hg _ _ hsb0
    refine lv_iload_n hx hb d_M_acted_51 rfl (lv_at hl 2 rfl) ?_
    refine lv_sipush (v := nI 176) hx hb d_M_acted_52 (by decide) ?_
    refine lv_icmp_ge (tgt := 85) hx hb d_M_acted_55 (by decide) (fun cd => ?_) (fun cd => ?_)
    · have hB := hB.1 cd
      refine zr_aload_n (o := some b) hx hb d_M_acted_85 rfl (lv_at hl 0 rfl) ?_
      refine lv_dup hx hb d_M_acted_86 (va_rf_cat _) ?_
      refine zr_get (v := .int (s_i σ b 3)) hx hb hC hw rfl hsb fl_M_60 rfl d_M_acted_87 ?_
      refine lv_iconst (v := nI 1) hx hb d_M_acted_90 (by decide) ?_
      refine lv_iadd hx hb d_M_acted_91 ?_
      refine zr_putI hx hb hC hw hS rfl hsb fl_M_60 rfl rfl d_M_acted_92 (fun H locs hw hS => ?_)
      refine lv_iload_n hx hb d_M_acted_95 rfl (lv_at hl 1 rfl) ?_
      exact zr_iret hx hb hr hlocks hB hg hw hS d_M_acted_96
    · have hB := hB.2 cd
      refine zr_aload_n (o := some b) hx hb d_M_acted_58 rfl (lv_at hl 0 rfl) ?_
      refine zr_get (v := va_rf (s_r σ b 2)) hx hb hC hw rfl hsb fl_M_16 rfl d_M_acted_59 ?_
      refine lv_sipush (v := nI 176) hx hb d_M_acted_62 (by decide) ?_
      refine zr_aload_n (o := some b) hx hb d_M_acted_65 rfl (lv_at hl 0 rfl) ?_
      refine zr_get (v := .int (s_i σ b 3)) hx hb hC hw rfl hsb fl_M_60 rfl d_M_acted_66 ?_
      refine lv_imul hx hb d_M_acted_69 ?_
      refine lv_iload_n hx hb d_M_acted_70 rfl (lv_at hl 2 rfl) ?_
      refine lv_iadd hx hb d_M_acted_71 ?_
      refine zr_aload_n (o := some b) hx hb d_M_acted_72 rfl (lv_at hl 0 rfl) ?_
      refine zr_get (v := va_rf (s_r σ b 1)) hx hb hC hw rfl hsb fl_M_13 rfl d_M_acted_73 ?_
      refine lv_iload_n hx hb d_M_acted_76 rfl (lv_at hl 2 rfl) ?_
      obtain ⟨q5, n5, j6, ho, hs, hin, hj, hB⟩ := hB
      refine zr_iald hx hb hw ho hs hin hj d_M_acted_77 ?_
      obtain ⟨q7, n7, j8, ho, hs, hin, hj, hB⟩ := hB
      refine zr_iast hx hb hw hS ho hs hin hj d_M_acted_78 (fun H locs hw hS => ?_)
      refine lv_iinc (v := x2 + nI 1) (lv' := [(2, .int (x2 + nI 1)), (0, va_rf (some b)), (1, .int x1)]) hx hb d_M_acted_79 hl (k := 2) rfl rfl (by decide) rfl (fun ls hl => ?_)
      refine lv_goto (tgt := 51) hx hb d_M_acted_82 (by decide) ?_
      rw [hK51] at hB
      exact hB _ _ _ hg hw hS (lv_sub hl [1, 2, 0] rfl)

set_option maxHeartbeats 4000000 in
set_option maxRecDepth 100000 in
theorem c_M_take (l : Launch) (D : va_G) (B : Nat) (b : Nat) (x1 : Int32) (x2 : Int32) (σ : St) (Q : Int32 → St → Prop) (h : P_M_take b x1 x2 σ Q) : zM l y_M_take b_M_take 3 (some (.int)) (rm_M_take) D B [.ref b, .int x1, .int x2] σ (zQi Q) := by
  refine zM.ofW (own := "LawWorldsModel") (by decide +kernel) rfl (Nat.le_of_ble_eq_true rfl) ?_
  intro p e s m args below meth c ls hx hb hml hr hlocks hname hC hwk hw hS hl
  obtain ⟨σ0, eσ⟩ : ∃ z, z = σ := ⟨_, rfl⟩
  have hg : gr σ0 σ := by rw [eσ]; exact gr.rf
  have hl : lv_has ls 3 [(0, va_rf (some b)), (1, .int x1), (2, .int x2)] := hl
  obtain ⟨hsb, hB⟩ := h
  have hsb0 : s_s σ0 b = some (.inl 9) := by rw [eσ]; exact hsb
  rw [← eσ]
  skip
  refine lv_iload_n hx hb d_M_take_0 rfl (lv_at hl 1 rfl) ?_
  refine lv_iload_n hx hb d_M_take_1 rfl (lv_at hl 2 rfl) ?_
  refine zr_callS (As := [.int x1, .int x2]) (rest := []) hx hb hml hC hwk hw hS hl.1 (c_M_isWorld l D B x1 x2 σ _ hB) mk_M_isWorld mt_M_isWorld ml_M_134 ⟨Nat.le_of_ble_eq_true rfl, Nat.le_of_ble_eq_true rfl⟩ rfl (cat_8 cat_n (Nat.le_of_ble_eq_true rfl)) d_M_take_2 ⟨Nat.le_refl _, Nat.le_refl _⟩ rfl (fun v σ1 H locs hp hgn hw hS => ?_)
  have hg := hg.tr hgn
  have hsb := hgn _ _ hsb
  obtain ⟨r2, rfl, hB⟩ := hp
  refine W.eq (g2 := F0 m 5 ls [.int r2]) rfl ?_
  refine lv_if_ne (tgt := 11) hx hb d_M_take_5 (by decide) (fun cd => ?_) (fun cd => ?_)
  · have hB := hB.2 cd
    refine zr_aload_n (o := some b) hx hb d_M_take_11 rfl (lv_at hl 0 rfl) ?_
    refine zr_get (v := va_rf (s_r σ1 b 0)) hx hb hC hw rfl hsb fl_M_7 rfl d_M_take_12 ?_
    refine lv_iconst (v := nI 0) hx hb d_M_take_15 (by decide) ?_
    obtain ⟨q3, n3, j4, ho, hs, hin, hj, hB⟩ := hB
    refine zr_iald hx hb hw ho hs hin hj d_M_take_16 ?_
    refine lv_iload_n hx hb d_M_take_17 rfl (lv_at hl 1 rfl) ?_
    refine lv_icmp_ne (tgt := 34) hx hb d_M_take_18 (by decide) (fun cd => ?_) (fun cd => ?_)
    · have hB := hB.2 cd
      refine zr_aload_n (o := some b) hx hb d_M_take_34 rfl (lv_at hl 0 rfl) ?_
      have hsr := And.left hB
      refine zr_callV (ci := 9) (As := []) (rest := []) hx hb hml hC hwk hw hS hl.1 (c_M_remember l D B b σ1 _ hB) mk_M_remember mi_M_remember ms_M_remember ml_M_128 ⟨Nat.le_of_ble_eq_true rfl, Nat.le_of_ble_eq_true rfl⟩ rfl hsr rfl (cat_8 cat_n (Nat.le_of_ble_eq_true rfl)) d_M_take_35 ⟨Nat.le_refl _, Nat.le_refl _⟩ rfl (fun v σ5 H locs hp hgn hw hS => ?_)
      have hg := hg.tr hgn
      have hsb := hgn _ _ hsb
      obtain ⟨rfl, hB⟩ := hp
      refine W.eq (g2 := F0 m 38 ls []) rfl ?_
      refine zr_aload_n (o := some b) hx hb d_M_take_38 rfl (lv_at hl 0 rfl) ?_
      refine zr_get (v := va_rf (s_r σ5 b 0)) hx hb hC hw rfl hsb fl_M_7 rfl d_M_take_39 ?_
      refine lv_iconst (v := nI 0) hx hb d_M_take_42 (by decide) ?_
      refine lv_iload_n hx hb d_M_take_43 rfl (lv_at hl 1 rfl) ?_
      obtain ⟨q6, n6, j7, ho, hs, hin, hj, hB⟩ := hB
      refine zr_iast hx hb hw hS ho hs hin hj d_M_take_44 (fun H locs hw hS => ?_)
      refine zr_aload_n (o := some b) hx hb d_M_take_45 rfl (lv_at hl 0 rfl) ?_
      refine zr_get (v := va_rf (s_r (w_i σ5 q6 j7 x1) b 0)) hx hb hC hw rfl hsb fl_M_7 rfl d_M_take_46 ?_
      refine lv_iconst (v := nI 1) hx hb d_M_take_49 (by decide) ?_
      refine lv_iload_n hx hb d_M_take_50 rfl (lv_at hl 2 rfl) ?_
      obtain ⟨q8, n8, j9, ho, hs, hin, hj, hB⟩ := hB
      refine zr_iast hx hb hw hS ho hs hin hj d_M_take_51 (fun H locs hw hS => ?_)
      refine zr_aload_n (o := some b) hx hb d_M_take_52 rfl (lv_at hl 0 rfl) ?_
      refine zr_aload_n (o := some b) hx hb d_M_take_53 rfl (lv_at hl 0 rfl) ?_
      refine zr_get (v := va_rf (s_r (w_i (w_i σ5 q6 j7 x1) q8 j9 x2) b 1)) hx hb hC hw rfl hsb fl_M_13 rfl d_M_take_54 ?_
      refine lv_iconst (v := nI 1) hx hb d_M_take_57 (by decide) ?_
      obtain ⟨q10, n10, j11, ho, hs, hin, hj, hB⟩ := hB
      refine zr_iald hx hb hw ho hs hin hj d_M_take_58 ?_
      have hsr := And.left hB
      refine zr_callV (ci := 9) (As := [.int (s_i (w_i (w_i σ5 q6 j7 x1) q8 j9 x2) q10 j11)]) (rest := []) hx hb hml hC hwk hw hS hl.1 (c_M_acted l D B b (s_i (w_i (w_i σ5 q6 j7 x1) q8 j9 x2) q10 j11) (w_i (w_i σ5 q6 j7 x1) q8 j9 x2) _ hB) mk_M_acted mi_M_acted ms_M_acted ml_M_131 ⟨Nat.le_of_ble_eq_true rfl, Nat.le_of_ble_eq_true rfl⟩ rfl hsr rfl (cat_8 cat_n (Nat.le_of_ble_eq_true rfl)) d_M_take_59 ⟨Nat.le_refl _, Nat.le_refl _⟩ rfl (fun v σ12 H locs hp hgn hw hS => ?_)
      have hg := hg.tr hgn
      have hsb := hgn _ _ hsb
      obtain ⟨r13, rfl, hB⟩ := hp
      refine W.eq (g2 := F0 m 62 ls [.int r13]) rfl ?_
      exact zr_iret hx hb hr hlocks hB hg hw hS d_M_take_62
    · have hB := hB.1 cd
      refine zr_aload_n (o := some b) hx hb d_M_take_21 rfl (lv_at hl 0 rfl) ?_
      refine zr_get (v := va_rf (s_r σ1 b 0)) hx hb hC hw rfl hsb fl_M_7 rfl d_M_take_22 ?_
      refine lv_iconst (v := nI 1) hx hb d_M_take_25 (by decide) ?_
      obtain ⟨q14, n14, j15, ho, hs, hin, hj, hB⟩ := hB
      refine zr_iald hx hb hw ho hs hin hj d_M_take_26 ?_
      refine lv_iload_n hx hb d_M_take_27 rfl (lv_at hl 2 rfl) ?_
      refine lv_icmp_ne (tgt := 34) hx hb d_M_take_28 (by decide) (fun cd => ?_) (fun cd => ?_)
      · have hB := hB.2 cd
        refine zr_aload_n (o := some b) hx hb d_M_take_34 rfl (lv_at hl 0 rfl) ?_
        have hsr := And.left hB
        refine zr_callV (ci := 9) (As := []) (rest := []) hx hb hml hC hwk hw hS hl.1 (c_M_remember l D B b σ1 _ hB) mk_M_remember mi_M_remember ms_M_remember ml_M_128 ⟨Nat.le_of_ble_eq_true rfl, Nat.le_of_ble_eq_true rfl⟩ rfl hsr rfl (cat_8 cat_n (Nat.le_of_ble_eq_true rfl)) d_M_take_35 ⟨Nat.le_refl _, Nat.le_refl _⟩ rfl (fun v σ16 H locs hp hgn hw hS => ?_)
        have hg := hg.tr hgn
        have hsb := hgn _ _ hsb
        obtain ⟨rfl, hB⟩ := hp
        refine W.eq (g2 := F0 m 38 ls []) rfl ?_
        refine zr_aload_n (o := some b) hx hb d_M_take_38 rfl (lv_at hl 0 rfl) ?_
        refine zr_get (v := va_rf (s_r σ16 b 0)) hx hb hC hw rfl hsb fl_M_7 rfl d_M_take_39 ?_
        refine lv_iconst (v := nI 0) hx hb d_M_take_42 (by decide) ?_
        refine lv_iload_n hx hb d_M_take_43 rfl (lv_at hl 1 rfl) ?_
        obtain ⟨q17, n17, j18, ho, hs, hin, hj, hB⟩ := hB
        refine zr_iast hx hb hw hS ho hs hin hj d_M_take_44 (fun H locs hw hS => ?_)
        refine zr_aload_n (o := some b) hx hb d_M_take_45 rfl (lv_at hl 0 rfl) ?_
        refine zr_get (v := va_rf (s_r (w_i σ16 q17 j18 x1) b 0)) hx hb hC hw rfl hsb fl_M_7 rfl d_M_take_46 ?_
        refine lv_iconst (v := nI 1) hx hb d_M_take_49 (by decide) ?_
        refine lv_iload_n hx hb d_M_take_50 rfl (lv_at hl 2 rfl) ?_
        obtain ⟨q19, n19, j20, ho, hs, hin, hj, hB⟩ := hB
        refine zr_iast hx hb hw hS ho hs hin hj d_M_take_51 (fun H locs hw hS => ?_)
        refine zr_aload_n (o := some b) hx hb d_M_take_52 rfl (lv_at hl 0 rfl) ?_
        refine zr_aload_n (o := some b) hx hb d_M_take_53 rfl (lv_at hl 0 rfl) ?_
        refine zr_get (v := va_rf (s_r (w_i (w_i σ16 q17 j18 x1) q19 j20 x2) b 1)) hx hb hC hw rfl hsb fl_M_13 rfl d_M_take_54 ?_
        refine lv_iconst (v := nI 1) hx hb d_M_take_57 (by decide) ?_
        obtain ⟨q21, n21, j22, ho, hs, hin, hj, hB⟩ := hB
        refine zr_iald hx hb hw ho hs hin hj d_M_take_58 ?_
        have hsr := And.left hB
        refine zr_callV (ci := 9) (As := [.int (s_i (w_i (w_i σ16 q17 j18 x1) q19 j20 x2) q21 j22)]) (rest := []) hx hb hml hC hwk hw hS hl.1 (c_M_acted l D B b (s_i (w_i (w_i σ16 q17 j18 x1) q19 j20 x2) q21 j22) (w_i (w_i σ16 q17 j18 x1) q19 j20 x2) _ hB) mk_M_acted mi_M_acted ms_M_acted ml_M_131 ⟨Nat.le_of_ble_eq_true rfl, Nat.le_of_ble_eq_true rfl⟩ rfl hsr rfl (cat_8 cat_n (Nat.le_of_ble_eq_true rfl)) d_M_take_59 ⟨Nat.le_refl _, Nat.le_refl _⟩ rfl (fun v σ23 H locs hp hgn hw hS => ?_)
        have hg := hg.tr hgn
        have hsb := hgn _ _ hsb
        obtain ⟨r24, rfl, hB⟩ := hp
        refine W.eq (g2 := F0 m 62 ls [.int r24]) rfl ?_
        exact zr_iret hx hb hr hlocks hB hg hw hS d_M_take_62
      · have hB := hB.1 cd
        refine lv_bipush (v := (-5)) hx hb d_M_take_31 (by decide) ?_
        exact zr_iret hx hb hr hlocks hB hg hw hS d_M_take_33
  · have hB := hB.1 cd
    refine lv_bipush (v := (-2)) hx hb d_M_take_8 (by decide) ?_
    exact zr_iret hx hb hr hlocks hB hg hw hS d_M_take_10

set_option maxHeartbeats 4000000 in
set_option maxRecDepth 100000 in
theorem c_M_isThing (l : Launch) (D : va_G) (B : Nat) (b : Nat) (x1 : Int32) (σ : St) (Q : Int32 → St → Prop) (h : P_M_isThing b x1 σ Q) : zM l y_M_isThing b_M_isThing 2 (some (.boolean)) (rm_M_isThing) D B [.ref b, .int x1] σ (zQi Q) := by
  refine zM.ofW (own := "LawWorldsModel") (by decide +kernel) rfl (Nat.le_of_ble_eq_true rfl) ?_
  intro p e s m args below meth c ls hx hb hml hr hlocks hname hC hwk hw hS hl
  obtain ⟨σ0, eσ⟩ : ∃ z, z = σ := ⟨_, rfl⟩
  have hg : gr σ0 σ := by rw [eσ]; exact gr.rf
  have hl : lv_has ls 2 [(0, va_rf (some b)), (1, .int x1)] := hl
  obtain ⟨hsb, hB⟩ := h
  have hsb0 : s_s σ0 b = some (.inl 9) := by rw [eσ]; exact hsb
  rw [← eσ]
  skip
  refine lv_iload_n hx hb d_M_isThing_0 rfl (lv_at hl 1 rfl) ?_
  refine lv_i2l hx hb d_M_isThing_1 rfl ?_
  refine lv_lconst (v := lN 0) hx hb d_M_isThing_2 (by decide) ?_
  refine zr_aload_n (o := some b) hx hb d_M_isThing_3 rfl (lv_at hl 0 rfl) ?_
  refine zr_get (v := va_rf (s_r σ b 0)) hx hb hC hw rfl hsb fl_M_7 rfl d_M_isThing_4 ?_
  refine lv_iconst (v := nI 0) hx hb d_M_isThing_7 (by decide) ?_
  obtain ⟨q1, n1, j2, ho, hs, hin, hj, hB⟩ := hB
  refine zr_iald hx hb hw ho hs hin hj d_M_isThing_8 ?_
  refine lv_i2l hx hb d_M_isThing_9 rfl ?_
  refine lv_lconst (v := lN 1) hx hb d_M_isThing_10 (by decide) ?_
  refine lv_lsub hx hb d_M_isThing_11 ?_
  refine zr_callS (As := [.long (x1.toInt64), .long (lN 0), .long (((s_i σ q1 j2).toInt64) - (lN 1))]) (rest := []) hx hb hml hC hwk hw hS hl.1 (c_M_in l D B (x1.toInt64) (lN 0) (((s_i σ q1 j2).toInt64) - (lN 1)) σ _ hB) mk_M_in mt_M_in ml_M_69 ⟨Nat.le_of_ble_eq_true rfl, Nat.le_of_ble_eq_true rfl⟩ rfl (cat_8 cat_n (Nat.le_of_ble_eq_true rfl)) d_M_isThing_12 ⟨Nat.le_refl _, Nat.le_refl _⟩ rfl (fun v σ3 H locs hp hgn hw hS => ?_)
  have hg := hg.tr hgn
  have hsb := hgn _ _ hsb
  obtain ⟨r4, rfl, hB⟩ := hp
  refine W.eq (g2 := F0 m 15 ls [.int r4]) rfl ?_
  exact zr_zret hx hb hr hlocks hB.1 hB.2 hg hw hS d_M_isThing_15

set_option maxHeartbeats 4000000 in
set_option maxRecDepth 100000 in
theorem c_M_comes (l : Launch) (D : va_G) (B : Nat) (x0 : Int32) (x1 : Int32) (x2 : Int32) (x3 : Int32) (σ : St) (Q : Int32 → St → Prop) (h : P_M_comes x0 x1 x2 x3 σ Q) : zM l y_M_comes b_M_comes 4 (some (.int)) (rm_M_comes) D B [.int x0, .int x1, .int x2, .int x3] σ (zQi Q) := by
  refine zM.ofW (own := "LawWorldsModel") (by decide +kernel) rfl (Nat.le_of_ble_eq_true rfl) ?_
  intro p e s m args below meth c ls hx hb hml hr hlocks hname hC hwk hw hS hl
  obtain ⟨σ0, eσ⟩ : ∃ z, z = σ := ⟨_, rfl⟩
  have hg : gr σ0 σ := by rw [eσ]; exact gr.rf
  have hl : lv_has ls 4 [(0, .int x0), (1, .int x1), (2, .int x2), (3, .int x3)] := hl
  have hB := h
  rw [← eσ]
  skip
  refine lv_iload_n hx hb d_M_comes_0 rfl (lv_at hl 1 rfl) ?_
  refine lv_iload_n hx hb d_M_comes_1 rfl (lv_at hl 0 rfl) ?_
  refine lv_iload_n hx hb d_M_comes_2 rfl (lv_at hl 0 rfl) ?_
  refine lv_iload_n hx hb d_M_comes_3 rfl (lv_at hl 2 rfl) ?_
  refine lv_imul hx hb d_M_comes_4 ?_
  refine lv_iload_n hx hb d_M_comes_5 rfl (lv_at hl 3 rfl) ?_
  refine lv_iadd hx hb d_M_comes_6 ?_
  refine zr_callS (As := [.int x0, .int ((x0 * x2) + x3)]) (rest := [.int x1]) hx hb hml hC hwk hw hS hl.1 (c_M_power l D B x0 ((x0 * x2) + x3) σ _ hB) mk_M_power mt_M_power ml_M_64 ⟨Nat.le_of_ble_eq_true rfl, Nat.le_of_ble_eq_true rfl⟩ rfl (cat_8 (cat_c rfl cat_n) (Nat.le_of_ble_eq_true rfl)) d_M_comes_7 ⟨Nat.le_refl _, Nat.le_refl _⟩ rfl (fun v σ1 H locs hp hgn hw hS => ?_)
  have hg := hg.tr hgn
  obtain ⟨r2, rfl, hB⟩ := hp
  refine W.eq (g2 := F0 m 10 ls [.int r2, .int x1]) rfl ?_
  refine lv_idiv hx hb d_M_comes_10 hB.1 ?_
  have hB := hB.2
  refine lv_iload_n hx hb d_M_comes_11 rfl (lv_at hl 0 rfl) ?_
  refine zr_irem hx hb d_M_comes_12 hB.1 ?_
  have hB := hB.2
  exact zr_iret hx hb hr hlocks hB hg hw hS d_M_comes_13

set_option maxHeartbeats 4000000 in
set_option maxRecDepth 100000 in
theorem c_M_becomes (l : Launch) (D : va_G) (B : Nat) (b : Nat) (x1 : Int32) (σ : St) (Q : Int32 → St → Prop) (h : P_M_becomes b x1 σ Q) : zM l y_M_becomes b_M_becomes 2 (some (.int)) (rm_M_becomes) D B [.ref b, .int x1] σ (zQi Q) := by
  refine zM.ofW (own := "LawWorldsModel") (by decide +kernel) rfl (Nat.le_of_ble_eq_true rfl) ?_
  intro p e s m args below meth c ls hx hb hml hr hlocks hname hC hwk hw hS hl
  obtain ⟨σ0, eσ⟩ : ∃ z, z = σ := ⟨_, rfl⟩
  have hg : gr σ0 σ := by rw [eσ]; exact gr.rf
  have hl : lv_has ls 2 [(0, va_rf (some b)), (1, .int x1)] := hl
  obtain ⟨hsb, hB⟩ := h
  have hsb0 : s_s σ0 b = some (.inl 9) := by rw [eσ]; exact hsb
  rw [← eσ]
  skip
  refine zr_aload_n (o := some b) hx hb d_M_becomes_0 rfl (lv_at hl 0 rfl) ?_
  have hsr := And.left hB
  refine zr_callV (ci := 9) (As := []) (rest := []) hx hb hml hC hwk hw hS hl.1 (c_M_remember l D B b σ _ hB) mk_M_remember mi_M_remember ms_M_remember ml_M_128 ⟨Nat.le_of_ble_eq_true rfl, Nat.le_of_ble_eq_true rfl⟩ rfl hsr rfl (cat_8 cat_n (Nat.le_of_ble_eq_true rfl)) d_M_becomes_1 ⟨Nat.le_refl _, Nat.le_refl _⟩ rfl (fun v σ1 H locs hp hgn hw hS => ?_)
  have hg := hg.tr hgn
  have hsb := hgn _ _ hsb
  obtain ⟨rfl, hB⟩ := hp
  refine W.eq (g2 := F0 m 4 ls []) rfl ?_
  refine zr_aload_n (o := some b) hx hb d_M_becomes_4 rfl (lv_at hl 0 rfl) ?_
  refine zr_get (v := va_rf (s_r σ1 b 0)) hx hb hC hw rfl hsb fl_M_7 rfl d_M_becomes_5 ?_
  refine lv_iconst (v := nI 1) hx hb d_M_becomes_8 (by decide) ?_
  refine lv_iload_n hx hb d_M_becomes_9 rfl (lv_at hl 1 rfl) ?_
  obtain ⟨q2, n2, j3, ho, hs, hin, hj, hB⟩ := hB
  refine zr_iast hx hb hw hS ho hs hin hj d_M_becomes_10 (fun H locs hw hS => ?_)
  refine zr_aload_n (o := some b) hx hb d_M_becomes_11 rfl (lv_at hl 0 rfl) ?_
  refine lv_iload_n hx hb d_M_becomes_12 rfl (lv_at hl 1 rfl) ?_
  have hsr := And.left hB
  refine zr_callV (ci := 9) (As := [.int x1]) (rest := []) hx hb hml hC hwk hw hS hl.1 (c_M_acted l D B b x1 (w_i σ1 q2 j3 x1) _ hB) mk_M_acted mi_M_acted ms_M_acted ml_M_131 ⟨Nat.le_of_ble_eq_true rfl, Nat.le_of_ble_eq_true rfl⟩ rfl hsr rfl (cat_8 cat_n (Nat.le_of_ble_eq_true rfl)) d_M_becomes_13 ⟨Nat.le_refl _, Nat.le_refl _⟩ rfl (fun v σ4 H locs hp hgn hw hS => ?_)
  have hg := hg.tr hgn
  have hsb := hgn _ _ hsb
  obtain ⟨r5, rfl, hB⟩ := hp
  refine W.eq (g2 := F0 m 16 ls [.int r5]) rfl ?_
  exact zr_iret hx hb hr hlocks hB hg hw hS d_M_becomes_16

set_option maxHeartbeats 4000000 in
set_option maxRecDepth 100000 in
theorem c_M_put (l : Launch) (D : va_G) (B : Nat) (b : Nat) (x1 : Int32) (x2 : Int32) (x3 : Int32) (σ : St) (Q : Int32 → St → Prop) (h : P_M_put b x1 x2 x3 σ Q) : zM l y_M_put b_M_put 5 (some (.int)) (rm_M_put) D B [.ref b, .int x1, .int x2, .int x3] σ (zQi Q) := by
  refine zM.ofW (own := "LawWorldsModel") (by decide +kernel) rfl (Nat.le_of_ble_eq_true rfl) ?_
  intro p e s m args below meth c ls hx hb hml hr hlocks hname hC hwk hw hS hl
  obtain ⟨σ0, eσ⟩ : ∃ z, z = σ := ⟨_, rfl⟩
  have hg : gr σ0 σ := by rw [eσ]; exact gr.rf
  have hl : lv_has ls 5 [(0, va_rf (some b)), (1, .int x1), (2, .int x2), (3, .int x3)] := hl
  obtain ⟨hsb, hB⟩ := h
  have hsb0 : s_s σ0 b = some (.inl 9) := by rw [eσ]; exact hsb
  rw [← eσ]
  skip
  refine zr_aload_n (o := some b) hx hb d_M_put_0 rfl (lv_at hl 0 rfl) ?_
  refine lv_iload_n hx hb d_M_put_1 rfl (lv_at hl 1 rfl) ?_
  have hsr := And.left hB
  refine zr_callV (ci := 9) (As := [.int x1]) (rest := []) hx hb hml hC hwk hw hS hl.1 (c_M_isThing l D B b x1 σ _ hB) mk_M_isThing mi_M_isThing ms_M_isThing ml_M_137 ⟨Nat.le_of_ble_eq_true rfl, Nat.le_of_ble_eq_true rfl⟩ rfl hsr rfl (cat_8 cat_n (Nat.le_of_ble_eq_true rfl)) d_M_put_2 ⟨Nat.le_refl _, Nat.le_refl _⟩ rfl (fun v σ1 H locs hp hgn hw hS => ?_)
  have hg := hg.tr hgn
  have hsb := hgn _ _ hsb
  obtain ⟨r2, rfl, hB⟩ := hp
  refine W.eq (g2 := F0 m 5 ls [.int r2]) rfl ?_
  refine lv_if_eq (tgt := 24) hx hb d_M_put_5 (by decide) (fun cd => ?_) (fun cd => ?_)
  · have hB := hB.1 cd
    refine lv_iconst (v := (-1)) hx hb d_M_put_24 (by decide) ?_
    exact zr_iret hx hb hr hlocks hB hg hw hS d_M_put_25
  · have hB := hB.2 cd
    refine zr_aload_n (o := some b) hx hb d_M_put_8 rfl (lv_at hl 0 rfl) ?_
    refine lv_iload_n hx hb d_M_put_9 rfl (lv_at hl 2 rfl) ?_
    have hsr := And.left hB
    refine zr_callV (ci := 9) (As := [.int x2]) (rest := []) hx hb hml hC hwk hw hS hl.1 (c_M_isThing l D B b x2 σ1 _ hB) mk_M_isThing mi_M_isThing ms_M_isThing ml_M_137 ⟨Nat.le_of_ble_eq_true rfl, Nat.le_of_ble_eq_true rfl⟩ rfl hsr rfl (cat_8 cat_n (Nat.le_of_ble_eq_true rfl)) d_M_put_10 ⟨Nat.le_refl _, Nat.le_refl _⟩ rfl (fun v σ3 H locs hp hgn hw hS => ?_)
    have hg := hg.tr hgn
    have hsb := hgn _ _ hsb
    obtain ⟨r4, rfl, hB⟩ := hp
    refine W.eq (g2 := F0 m 13 ls [.int r4]) rfl ?_
    refine lv_if_eq (tgt := 24) hx hb d_M_put_13 (by decide) (fun cd => ?_) (fun cd => ?_)
    · have hB := hB.1 cd
      refine lv_iconst (v := (-1)) hx hb d_M_put_24 (by decide) ?_
      exact zr_iret hx hb hr hlocks hB hg hw hS d_M_put_25
    · have hB := hB.2 cd
      refine zr_aload_n (o := some b) hx hb d_M_put_16 rfl (lv_at hl 0 rfl) ?_
      refine lv_iload_n hx hb d_M_put_17 rfl (lv_at hl 3 rfl) ?_
      have hsr := And.left hB
      refine zr_callV (ci := 9) (As := [.int x3]) (rest := []) hx hb hml hC hwk hw hS hl.1 (c_M_isThing l D B b x3 σ3 _ hB) mk_M_isThing mi_M_isThing ms_M_isThing ml_M_137 ⟨Nat.le_of_ble_eq_true rfl, Nat.le_of_ble_eq_true rfl⟩ rfl hsr rfl (cat_8 cat_n (Nat.le_of_ble_eq_true rfl)) d_M_put_18 ⟨Nat.le_refl _, Nat.le_refl _⟩ rfl (fun v σ5 H locs hp hgn hw hS => ?_)
      have hg := hg.tr hgn
      have hsb := hgn _ _ hsb
      obtain ⟨r6, rfl, hB⟩ := hp
      refine W.eq (g2 := F0 m 21 ls [.int r6]) rfl ?_
      refine lv_if_ne (tgt := 26) hx hb d_M_put_21 (by decide) (fun cd => ?_) (fun cd => ?_)
      · have hB := hB.2 cd
        refine zr_aload_n (o := some b) hx hb d_M_put_26 rfl (lv_at hl 0 rfl) ?_
        refine zr_get (v := va_rf (s_r σ5 b 0)) hx hb hC hw rfl hsb fl_M_7 rfl d_M_put_27 ?_
        refine lv_iconst (v := nI 0) hx hb d_M_put_30 (by decide) ?_
        obtain ⟨q7, n7, j8, ho, hs, hin, hj, hB⟩ := hB
        refine zr_iald hx hb hw ho hs hin hj d_M_put_31 ?_
        refine zr_aload_n (o := some b) hx hb d_M_put_32 rfl (lv_at hl 0 rfl) ?_
        refine zr_get (v := va_rf (s_r σ5 b 0)) hx hb hC hw rfl hsb fl_M_7 rfl d_M_put_33 ?_
        refine lv_iconst (v := nI 1) hx hb d_M_put_36 (by decide) ?_
        obtain ⟨q9, n9, j10, ho, hs, hin, hj, hB⟩ := hB
        refine zr_iald hx hb hw ho hs hin hj d_M_put_37 ?_
        refine lv_iload_n hx hb d_M_put_38 rfl (lv_at hl 1 rfl) ?_
        refine lv_iload_n hx hb d_M_put_39 rfl (lv_at hl 2 rfl) ?_
        refine zr_callS (As := [.int (s_i σ5 q7 j8), .int (s_i σ5 q9 j10), .int x1, .int x2]) (rest := []) hx hb hml hC hwk hw hS hl.1 (c_M_comes l D B (s_i σ5 q7 j8) (s_i σ5 q9 j10) x1 x2 σ5 _ hB) mk_M_comes mt_M_comes ml_M_140 ⟨Nat.le_of_ble_eq_true rfl, Nat.le_of_ble_eq_true rfl⟩ rfl (cat_8 cat_n (Nat.le_of_ble_eq_true rfl)) d_M_put_40 ⟨Nat.le_refl _, Nat.le_refl _⟩ rfl (fun v σ11 H locs hp hgn hw hS => ?_)
        have hg := hg.tr hgn
        have hsb := hgn _ _ hsb
        obtain ⟨r12, rfl, hB⟩ := hp
        refine W.eq (g2 := F0 m 43 ls [.int r12]) rfl ?_
        refine lv_istore (lv' := [(4, .int r12), (0, va_rf (some b)), (1, .int x1), (2, .int x2), (3, .int x3)]) hx hb d_M_put_43 hl (by decide) rfl (fun ls hl => ?_)
        refine lv_iload hx hb d_M_put_45 (lv_at hl 0 rfl) ?_
        refine lv_iload_n hx hb d_M_put_47 rfl (lv_at hl 4 rfl) ?_
        refine lv_icmp_ne (tgt := 54) hx hb d_M_put_48 (by decide) (fun cd => ?_) (fun cd => ?_)
        · have hB := hB.2 cd
          refine zr_aload_n (o := some b) hx hb d_M_put_54 rfl (lv_at hl 1 rfl) ?_
          refine zr_aload_n (o := some b) hx hb d_M_put_55 rfl (lv_at hl 1 rfl) ?_
          refine zr_get (v := va_rf (s_r σ11 b 0)) hx hb hC hw rfl hsb fl_M_7 rfl d_M_put_56 ?_
          refine lv_iconst (v := nI 1) hx hb d_M_put_59 (by decide) ?_
          obtain ⟨q13, n13, j14, ho, hs, hin, hj, hB⟩ := hB
          refine zr_iald hx hb hw ho hs hin hj d_M_put_60 ?_
          refine lv_iload_n hx hb d_M_put_61 rfl (lv_at hl 4 rfl) ?_
          refine lv_iload hx hb d_M_put_62 (lv_at hl 0 rfl) ?_
          refine lv_isub hx hb d_M_put_64 ?_
          refine zr_aload_n (o := some b) hx hb d_M_put_65 rfl (lv_at hl 1 rfl) ?_
          refine zr_get (v := va_rf (s_r σ11 b 0)) hx hb hC hw rfl hsb fl_M_7 rfl d_M_put_66 ?_
          refine lv_iconst (v := nI 0) hx hb d_M_put_69 (by decide) ?_
          obtain ⟨q15, n15, j16, ho, hs, hin, hj, hB⟩ := hB
          refine zr_iald hx hb hw ho hs hin hj d_M_put_70 ?_
          refine zr_aload_n (o := some b) hx hb d_M_put_71 rfl (lv_at hl 1 rfl) ?_
          refine zr_get (v := va_rf (s_r σ11 b 0)) hx hb hC hw rfl hsb fl_M_7 rfl d_M_put_72 ?_
          refine lv_iconst (v := nI 0) hx hb d_M_put_75 (by decide) ?_
          obtain ⟨q17, n17, j18, ho, hs, hin, hj, hB⟩ := hB
          refine zr_iald hx hb hw ho hs hin hj d_M_put_76 ?_
          refine lv_iload_n hx hb d_M_put_77 rfl (lv_at hl 2 rfl) ?_
          refine lv_imul hx hb d_M_put_78 ?_
          refine lv_iload_n hx hb d_M_put_79 rfl (lv_at hl 3 rfl) ?_
          refine lv_iadd hx hb d_M_put_80 ?_
          refine zr_callS (As := [.int (s_i σ11 q15 j16), .int (((s_i σ11 q17 j18) * x1) + x2)]) (rest := [.int (x3 - r12), .int (s_i σ11 q13 j14), va_rf (some b)]) hx hb hml hC hwk hw hS hl.1 (c_M_power l D B (s_i σ11 q15 j16) (((s_i σ11 q17 j18) * x1) + x2) σ11 _ hB) mk_M_power mt_M_power ml_M_64 ⟨Nat.le_of_ble_eq_true rfl, Nat.le_of_ble_eq_true rfl⟩ rfl (cat_8 (cat_c rfl (cat_c rfl (cat_c (va_rf_cat _) cat_n))) (Nat.le_of_ble_eq_true rfl)) d_M_put_81 ⟨Nat.le_refl _, Nat.le_refl _⟩ rfl (fun v σ19 H locs hp hgn hw hS => ?_)
          have hg := hg.tr hgn
          have hsb := hgn _ _ hsb
          obtain ⟨r20, rfl, hB⟩ := hp
          refine W.eq (g2 := F0 m 84 ls [.int r20, .int (x3 - r12), .int (s_i σ11 q13 j14), va_rf (some b)]) rfl ?_
          refine lv_imul hx hb d_M_put_84 ?_
          refine lv_iadd hx hb d_M_put_85 ?_
          have hsr := And.left hB
          refine zr_callV (ci := 9) (As := [.int ((s_i σ11 q13 j14) + ((x3 - r12) * r20))]) (rest := []) hx hb hml hC hwk hw hS hl.1 (c_M_becomes l D B b ((s_i σ11 q13 j14) + ((x3 - r12) * r20)) σ19 _ hB) mk_M_becomes mi_M_becomes ms_M_becomes ml_M_144 ⟨Nat.le_of_ble_eq_true rfl, Nat.le_of_ble_eq_true rfl⟩ rfl hsr rfl (cat_8 cat_n (Nat.le_of_ble_eq_true rfl)) d_M_put_86 ⟨Nat.le_refl _, Nat.le_refl _⟩ rfl (fun v σ21 H locs hp hgn hw hS => ?_)
          have hg := hg.tr hgn
          have hsb := hgn _ _ hsb
          obtain ⟨r22, rfl, hB⟩ := hp
          refine W.eq (g2 := F0 m 89 ls [.int r22]) rfl ?_
          exact zr_iret hx hb hr hlocks hB hg hw hS d_M_put_89
        · have hB := hB.1 cd
          refine lv_bipush (v := (-5)) hx hb d_M_put_51 (by decide) ?_
          exact zr_iret hx hb hr hlocks hB hg hw hS d_M_put_53
      · have hB := hB.1 cd
        refine lv_iconst (v := (-1)) hx hb d_M_put_24 (by decide) ?_
        exact zr_iret hx hb hr hlocks hB hg hw hS d_M_put_25

set_option maxHeartbeats 4000000 in
set_option maxRecDepth 100000 in
theorem c_M_exchanged (l : Launch) (D : va_G) (B : Nat) (x0 : Int32) (x1 : Int32) (x2 : Int32) (σ : St) (Q : Int32 → St → Prop) (h : P_M_exchanged x0 x1 x2 σ Q) : zM l y_M_exchanged b_M_exchanged 3 (some (.int)) (rm_M_exchanged) D B [.int x0, .int x1, .int x2] σ (zQi Q) := by
  refine zM.ofW (own := "LawWorldsModel") (by decide +kernel) rfl (Nat.le_of_ble_eq_true rfl) ?_
  intro p e s m args below meth c ls hx hb hml hr hlocks hname hC hwk hw hS hl
  obtain ⟨σ0, eσ⟩ : ∃ z, z = σ := ⟨_, rfl⟩
  have hg : gr σ0 σ := by rw [eσ]; exact gr.rf
  have hl : lv_has ls 3 [(0, .int x0), (1, .int x1), (2, .int x2)] := hl
  have hB := h
  rw [← eσ]
  skip
  refine lv_iload_n hx hb d_M_exchanged_0 rfl (lv_at hl 0 rfl) ?_
  refine lv_iload_n hx hb d_M_exchanged_1 rfl (lv_at hl 1 rfl) ?_
  refine lv_icmp_ne (tgt := 9) hx hb d_M_exchanged_2 (by decide) (fun cd => ?_) (fun cd => ?_)
  · have hB := hB.2 cd
    refine lv_iload_n hx hb d_M_exchanged_9 rfl (lv_at hl 0 rfl) ?_
    refine lv_iload_n hx hb d_M_exchanged_10 rfl (lv_at hl 2 rfl) ?_
    refine lv_icmp_ne (tgt := 18) hx hb d_M_exchanged_11 (by decide) (fun cd => ?_) (fun cd => ?_)
    · have hB := hB.2 cd
      refine lv_iload_n hx hb d_M_exchanged_18 rfl (lv_at hl 0 rfl) ?_
      exact zr_iret hx hb hr hlocks hB hg hw hS d_M_exchanged_19
    · have hB := hB.1 cd
      refine lv_iload_n hx hb d_M_exchanged_14 rfl (lv_at hl 1 rfl) ?_
      refine lv_goto (tgt := 19) hx hb d_M_exchanged_15 (by decide) ?_
      exact zr_iret hx hb hr hlocks hB hg hw hS d_M_exchanged_19
  · have hB := hB.1 cd
    refine lv_iload_n hx hb d_M_exchanged_5 rfl (lv_at hl 2 rfl) ?_
    refine lv_goto (tgt := 19) hx hb d_M_exchanged_6 (by decide) ?_
    exact zr_iret hx hb hr hlocks hB hg hw hS d_M_exchanged_19

set_option maxHeartbeats 4000000 in
set_option maxRecDepth 100000 in
theorem c_M_rename (l : Launch) (D : va_G) (B : Nat) (b : Nat) (x1 : Int32) (x2 : Int32) (σ : St) (Q : Int32 → St → Prop) (h : P_M_rename b x1 x2 σ Q) : zM l y_M_rename b_M_rename 6 (some (.int)) (rm_M_rename) D B [.ref b, .int x1, .int x2] σ (zQi Q) := by
  refine zM.ofW (own := "LawWorldsModel") (by decide +kernel) rfl (Nat.le_of_ble_eq_true rfl) ?_
  intro p e s m args below meth c ls hx hb hml hr hlocks hname hC hwk hw hS hl
  obtain ⟨σ0, eσ⟩ : ∃ z, z = σ := ⟨_, rfl⟩
  have hg : gr σ0 σ := by rw [eσ]; exact gr.rf
  have hl : lv_has ls 6 [(0, va_rf (some b)), (1, .int x1), (2, .int x2)] := hl
  obtain ⟨hsb, hB⟩ := h
  have hsb0 : s_s σ0 b = some (.inl 9) := by rw [eσ]; exact hsb
  rw [← eσ]
  skip
  obtain ⟨K50, hK50⟩ : ∃ K : Int32 → Int32 → Int32 → Int32 → Int32 → St → Prop, K = (fun (x1 : Int32) (x2 : Int32) (x3 : Int32) (x4 : Int32) (x5 : Int32) (σ : St) => ∀ (H : Heap) (locs : List Loc) (ls : Array Slot), gr σ0 σ → wh D B σ s H → va_S (zA B) s.heap H locs → lv_has ls 6 [(0, va_rf (some b)), (1, .int x1), (2, .int x2), (3, .int x3), (4, .int x4), (5, .int x5)] → W p l e (rm_M_rename) s m args below meth c H locs 0 0 (MQ below (zQ D B σ0 (zQi Q)) args s (rm_M_rename).cells (rm_M_rename).slots (zA B)) (F0 m 50 ls [])) := ⟨_, rfl⟩
  refine (fun hB => ?_) (hB K50 ?_)
  · skip
    refine zr_aload_n (o := some b) hx hb d_M_rename_0 rfl (lv_at hl 0 rfl) ?_
    refine lv_iload_n hx hb d_M_rename_1 rfl (lv_at hl 1 rfl) ?_
    have hsr := And.left hB
    refine zr_callV (ci := 9) (As := [.int x1]) (rest := []) hx hb hml hC hwk hw hS hl.1 (c_M_isThing l D B b x1 σ _ hB) mk_M_isThing mi_M_isThing ms_M_isThing ml_M_137 ⟨Nat.le_of_ble_eq_true rfl, Nat.le_of_ble_eq_true rfl⟩ rfl hsr rfl (cat_8 cat_n (Nat.le_of_ble_eq_true rfl)) d_M_rename_2 ⟨Nat.le_refl _, Nat.le_refl _⟩ rfl (fun v σ15 H locs hp hgn hw hS => ?_)
    have hg := hg.tr hgn
    have hsb := hgn _ _ hsb
    obtain ⟨r16, rfl, hB⟩ := hp
    refine W.eq (g2 := F0 m 5 ls [.int r16]) rfl ?_
    refine lv_if_eq (tgt := 16) hx hb d_M_rename_5 (by decide) (fun cd => ?_) (fun cd => ?_)
    · have hB := hB.1 cd
      refine lv_iconst (v := (-1)) hx hb d_M_rename_16 (by decide) ?_
      exact zr_iret hx hb hr hlocks hB hg hw hS d_M_rename_17
    · have hB := hB.2 cd
      refine zr_aload_n (o := some b) hx hb d_M_rename_8 rfl (lv_at hl 0 rfl) ?_
      refine lv_iload_n hx hb d_M_rename_9 rfl (lv_at hl 2 rfl) ?_
      have hsr := And.left hB
      refine zr_callV (ci := 9) (As := [.int x2]) (rest := []) hx hb hml hC hwk hw hS hl.1 (c_M_isThing l D B b x2 σ15 _ hB) mk_M_isThing mi_M_isThing ms_M_isThing ml_M_137 ⟨Nat.le_of_ble_eq_true rfl, Nat.le_of_ble_eq_true rfl⟩ rfl hsr rfl (cat_8 cat_n (Nat.le_of_ble_eq_true rfl)) d_M_rename_10 ⟨Nat.le_refl _, Nat.le_refl _⟩ rfl (fun v σ17 H locs hp hgn hw hS => ?_)
      have hg := hg.tr hgn
      have hsb := hgn _ _ hsb
      obtain ⟨r18, rfl, hB⟩ := hp
      refine W.eq (g2 := F0 m 13 ls [.int r18]) rfl ?_
      refine lv_if_ne (tgt := 18) hx hb d_M_rename_13 (by decide) (fun cd => ?_) (fun cd => ?_)
      · have hB := hB.2 cd
        refine lv_iload_n hx hb d_M_rename_18 rfl (lv_at hl 1 rfl) ?_
        refine lv_iload_n hx hb d_M_rename_19 rfl (lv_at hl 2 rfl) ?_
        refine lv_icmp_ne (tgt := 26) hx hb d_M_rename_20 (by decide) (fun cd => ?_) (fun cd => ?_)
        · have hB := hB.2 cd
          refine zr_aload_n (o := some b) hx hb d_M_rename_26 rfl (lv_at hl 0 rfl) ?_
          refine zr_get (v := va_rf (s_r σ17 b 0)) hx hb hC hw rfl hsb fl_M_7 rfl d_M_rename_27 ?_
          refine lv_iconst (v := nI 0) hx hb d_M_rename_30 (by decide) ?_
          obtain ⟨q19, n19, j20, ho, hs, hin, hj, hB⟩ := hB
          refine zr_iald hx hb hw ho hs hin hj d_M_rename_31 ?_
          refine lv_istore_n (lv' := [(3, .int (s_i σ17 q19 j20)), (0, va_rf (some b)), (1, .int x1), (2, .int x2)]) hx hb d_M_rename_32 rfl hl (by decide) rfl (fun ls hl => ?_)
          refine lv_iconst (v := nI 0) hx hb d_M_rename_33 (by decide) ?_
          refine lv_istore (lv' := [(4, .int (nI 0)), (3, .int (s_i σ17 q19 j20)), (0, va_rf (some b)), (1, .int x1), (2, .int x2)]) hx hb d_M_rename_34 hl (by decide) rfl (fun ls hl => ?_)
          refine zr_aload_n (o := some b) hx hb d_M_rename_36 rfl (lv_at hl 2 rfl) ?_
          refine lv_iload_n hx hb d_M_rename_37 rfl (lv_at hl 1 rfl) ?_
          refine zr_aload_n (o := some b) hx hb d_M_rename_38 rfl (lv_at hl 2 rfl) ?_
          refine zr_get (v := va_rf (s_r σ17 b 0)) hx hb hC hw rfl hsb fl_M_7 rfl d_M_rename_39 ?_
          refine lv_iconst (v := nI 1) hx hb d_M_rename_42 (by decide) ?_
          obtain ⟨q21, n21, j22, ho, hs, hin, hj, hB⟩ := hB
          refine zr_iald hx hb hw ho hs hin hj d_M_rename_43 ?_
          have hsr := And.left hB
          refine zr_callV (ci := 9) (As := [.int (s_i σ17 q19 j20), .int (s_i σ17 q21 j22)]) (rest := []) hx hb hml hC hwk hw hS hl.1 (c_M_unfolds l D B b (s_i σ17 q19 j20) (s_i σ17 q21 j22) σ17 _ hB) mk_M_unfolds mi_M_unfolds ms_M_unfolds ml_M_76 ⟨Nat.le_of_ble_eq_true rfl, Nat.le_of_ble_eq_true rfl⟩ rfl hsr rfl (cat_8 cat_n (Nat.le_of_ble_eq_true rfl)) d_M_rename_44 ⟨Nat.le_refl _, Nat.le_refl _⟩ rfl (fun v σ23 H locs hp hgn hw hS => ?_)
          have hg := hg.tr hgn
          have hsb := hgn _ _ hsb
          obtain ⟨rfl, hB⟩ := hp
          refine W.eq (g2 := F0 m 47 ls []) rfl ?_
          refine lv_iconst (v := nI 0) hx hb d_M_rename_47 (by decide) ?_
          refine lv_istore (lv' := [(5, .int (nI 0)), (4, .int (nI 0)), (3, .int (s_i σ17 q19 j20)), (0, va_rf (some b)), (1, .int x1), (2, .int x2)]) hx hb d_M_rename_48 hl (by decide) rfl (fun ls hl => ?_)
          rw [hK50] at hB
          exact hB _ _ _ hg hw hS (lv_sub hl [3, 4, 5, 2, 1, 0] rfl)
        · have hB := hB.1 cd
          refine lv_bipush (v := (-2)) hx hb d_M_rename_23 (by decide) ?_
          exact zr_iret hx hb hr hlocks hB hg hw hS d_M_rename_25
      · have hB := hB.1 cd
        refine lv_iconst (v := (-1)) hx hb d_M_rename_16 (by decide) ?_
        exact zr_iret hx hb hr hlocks hB hg hw hS d_M_rename_17
  · intro x1 x2 x3 x4 x5 σ hB
    rw [hK50]
    intro H locs ls hg hw hS hl
    have hsb := hg _ _ hsb0
    refine lv_iload hx hb d_M_rename_50 (lv_at hl 5 rfl) ?_
    refine lv_iload_n hx hb d_M_rename_52 rfl (lv_at hl 3 rfl) ?_
    refine lv_iload_n hx hb d_M_rename_53 rfl (lv_at hl 3 rfl) ?_
    refine lv_imul hx hb d_M_rename_54 ?_
    refine lv_icmp_ge (tgt := 107) hx hb d_M_rename_55 (by decide) (fun cd => ?_) (fun cd => ?_)
    · have hB := hB.1 cd
      refine lv_iload hx hb d_M_rename_107 (lv_at hl 4 rfl) ?_
      refine zr_aload_n (o := some b) hx hb d_M_rename_109 rfl (lv_at hl 0 rfl) ?_
      refine zr_get (v := va_rf (s_r σ b 0)) hx hb hC hw rfl hsb fl_M_7 rfl d_M_rename_110 ?_
      refine lv_iconst (v := nI 1) hx hb d_M_rename_113 (by decide) ?_
      obtain ⟨q1, n1, j2, ho, hs, hin, hj, hB⟩ := hB
      refine zr_iald hx hb hw ho hs hin hj d_M_rename_114 ?_
      refine lv_icmp_ne (tgt := 123) hx hb d_M_rename_115 (by decide) (fun cd => ?_) (fun cd => ?_)
      · have hB := hB.2 cd
        refine zr_aload_n (o := some b) hx hb d_M_rename_123 rfl (lv_at hl 0 rfl) ?_
        refine lv_iload hx hb d_M_rename_124 (lv_at hl 4 rfl) ?_
        have hsr := And.left hB
        refine zr_callV (ci := 9) (As := [.int x4]) (rest := []) hx hb hml hC hwk hw hS hl.1 (c_M_becomes l D B b x4 σ _ hB) mk_M_becomes mi_M_becomes ms_M_becomes ml_M_144 ⟨Nat.le_of_ble_eq_true rfl, Nat.le_of_ble_eq_true rfl⟩ rfl hsr rfl (cat_8 cat_n (Nat.le_of_ble_eq_true rfl)) d_M_rename_126 ⟨Nat.le_refl _, Nat.le_refl _⟩ rfl (fun v σ3 H locs hp hgn hw hS => ?_)
        have hg := hg.tr hgn
        have hsb := hgn _ _ hsb
        obtain ⟨r4, rfl, hB⟩ := hp
        refine W.eq (g2 := F0 m 129 ls [.int r4]) rfl ?_
        exact zr_iret hx hb hr hlocks hB hg hw hS d_M_rename_129
      · have hB := hB.1 cd
        refine lv_bipush (v := (-5)) hx hb d_M_rename_118 (by decide) ?_
        refine lv_goto (tgt := 129) hx hb d_M_rename_120 (by decide) ?_
        exact zr_iret hx hb hr hlocks hB hg hw hS d_M_rename_129
    · have hB := hB.2 cd
      refine lv_iload hx hb d_M_rename_58 (lv_at hl 4 rfl) ?_
      refine zr_aload_n (o := some b) hx hb d_M_rename_60 rfl (lv_at hl 0 rfl) ?_
      refine zr_get (v := va_rf (s_r σ b 8)) hx hb hC hw rfl hsb fl_M_28 rfl d_M_rename_61 ?_
      refine lv_iload hx hb d_M_rename_64 (lv_at hl 5 rfl) ?_
      obtain ⟨q5, n5, j6, ho, hs, hin, hj, hB⟩ := hB
      refine zr_iald hx hb hw ho hs hin hj d_M_rename_66 ?_
      refine lv_iload_n hx hb d_M_rename_67 rfl (lv_at hl 1 rfl) ?_
      refine lv_iload_n hx hb d_M_rename_68 rfl (lv_at hl 2 rfl) ?_
      refine zr_callS (As := [.int (s_i σ q5 j6), .int x1, .int x2]) (rest := [.int x4]) hx hb hml hC hwk hw hS hl.1 (c_M_exchanged l D B (s_i σ q5 j6) x1 x2 σ _ hB) mk_M_exchanged mt_M_exchanged ml_M_147 ⟨Nat.le_of_ble_eq_true rfl, Nat.le_of_ble_eq_true rfl⟩ rfl (cat_8 (cat_c rfl cat_n) (Nat.le_of_ble_eq_true rfl)) d_M_rename_69 ⟨Nat.le_refl _, Nat.le_refl _⟩ rfl (fun v σ7 H locs hp hgn hw hS => ?_)
      have hg := hg.tr hgn
      have hsb := hgn _ _ hsb
      obtain ⟨r8, rfl, hB⟩ := hp
      refine W.eq (g2 := F0 m 72 ls [.int r8, .int x4]) rfl ?_
      refine lv_iload_n hx hb d_M_rename_72 rfl (lv_at hl 3 rfl) ?_
      refine lv_iload_n hx hb d_M_rename_73 rfl (lv_at hl 3 rfl) ?_
      refine lv_iload hx hb d_M_rename_74 (lv_at hl 5 rfl) ?_
      refine lv_iload_n hx hb d_M_rename_76 rfl (lv_at hl 3 rfl) ?_
      refine lv_idiv hx hb d_M_rename_77 hB.1 ?_
      have hB := hB.2
      refine lv_iload_n hx hb d_M_rename_78 rfl (lv_at hl 1 rfl) ?_
      refine lv_iload_n hx hb d_M_rename_79 rfl (lv_at hl 2 rfl) ?_
      refine zr_callS (As := [.int (x5 / x3), .int x1, .int x2]) (rest := [.int x3, .int x3, .int r8, .int x4]) hx hb hml hC hwk hw hS hl.1 (c_M_exchanged l D B (x5 / x3) x1 x2 σ7 _ hB) mk_M_exchanged mt_M_exchanged ml_M_147 ⟨Nat.le_of_ble_eq_true rfl, Nat.le_of_ble_eq_true rfl⟩ rfl (cat_8 (cat_c rfl (cat_c rfl (cat_c rfl (cat_c rfl cat_n)))) (Nat.le_of_ble_eq_true rfl)) d_M_rename_80 ⟨Nat.le_refl _, Nat.le_refl _⟩ rfl (fun v σ9 H locs hp hgn hw hS => ?_)
      have hg := hg.tr hgn
      have hsb := hgn _ _ hsb
      obtain ⟨r10, rfl, hB⟩ := hp
      refine W.eq (g2 := F0 m 83 ls [.int r10, .int x3, .int x3, .int r8, .int x4]) rfl ?_
      refine lv_imul hx hb d_M_rename_83 ?_
      refine lv_iload hx hb d_M_rename_84 (lv_at hl 5 rfl) ?_
      refine lv_iload_n hx hb d_M_rename_86 rfl (lv_at hl 3 rfl) ?_
      refine zr_irem hx hb d_M_rename_87 hB.1 ?_
      have hB := hB.2
      refine lv_iload_n hx hb d_M_rename_88 rfl (lv_at hl 1 rfl) ?_
      refine lv_iload_n hx hb d_M_rename_89 rfl (lv_at hl 2 rfl) ?_
      refine zr_callS (As := [.int (irem x5 x3), .int x1, .int x2]) (rest := [.int (x3 * r10), .int x3, .int r8, .int x4]) hx hb hml hC hwk hw hS hl.1 (c_M_exchanged l D B (irem x5 x3) x1 x2 σ9 _ hB) mk_M_exchanged mt_M_exchanged ml_M_147 ⟨Nat.le_of_ble_eq_true rfl, Nat.le_of_ble_eq_true rfl⟩ rfl (cat_8 (cat_c rfl (cat_c rfl (cat_c rfl (cat_c rfl cat_n)))) (Nat.le_of_ble_eq_true rfl)) d_M_rename_90 ⟨Nat.le_refl _, Nat.le_refl _⟩ rfl (fun v σ11 H locs hp hgn hw hS => ?_)
      have hg := hg.tr hgn
      have hsb := hgn _ _ hsb
      obtain ⟨r12, rfl, hB⟩ := hp
      refine W.eq (g2 := F0 m 93 ls [.int r12, .int (x3 * r10), .int x3, .int r8, .int x4]) rfl ?_
      refine lv_iadd hx hb d_M_rename_93 ?_
      refine zr_callS (As := [.int x3, .int ((x3 * r10) + r12)]) (rest := [.int r8, .int x4]) hx hb hml hC hwk hw hS hl.1 (c_M_power l D B x3 ((x3 * r10) + r12) σ11 _ hB) mk_M_power mt_M_power ml_M_64 ⟨Nat.le_of_ble_eq_true rfl, Nat.le_of_ble_eq_true rfl⟩ rfl (cat_8 (cat_c rfl (cat_c rfl cat_n)) (Nat.le_of_ble_eq_true rfl)) d_M_rename_94 ⟨Nat.le_refl _, Nat.le_refl _⟩ rfl (fun v σ13 H locs hp hgn hw hS => ?_)
      have hg := hg.tr hgn
      have hsb := hgn _ _ hsb
      obtain ⟨r14, rfl, hB⟩ := hp
      refine W.eq (g2 := F0 m 97 ls [.int r14, .int r8, .int x4]) rfl ?_
      refine lv_imul hx hb d_M_rename_97 ?_
      refine lv_iadd hx hb d_M_rename_98 ?_
      refine lv_istore (lv' := [(4, .int (x4 + (r8 * r14))), (0, va_rf (some b)), (1, .int x1), (2, .int x2), (3, .int x3), (5, .int x5)]) hx hb d_M_rename_99 hl (by decide) rfl (fun ls hl => ?_)
      refine lv_iinc (v := x5 + nI 1) (lv' := [(5, .int (x5 + nI 1)), (4, .int (x4 + (r8 * r14))), (0, va_rf (some b)), (1, .int x1), (2, .int x2), (3, .int x3)]) hx hb d_M_rename_101 hl (k := 5) rfl rfl (by decide) rfl (fun ls hl => ?_)
      refine lv_goto (tgt := 50) hx hb d_M_rename_104 (by decide) ?_
      rw [hK50] at hB
      exact hB _ _ _ hg hw hS (lv_sub hl [2, 3, 4, 5, 1, 0] rfl)

set_option maxHeartbeats 4000000 in
set_option maxRecDepth 100000 in
theorem c_M_mirror (l : Launch) (D : va_G) (B : Nat) (b : Nat) (σ : St) (Q : Int32 → St → Prop) (h : P_M_mirror b σ Q) : zM l y_M_mirror b_M_mirror 4 (some (.int)) (rm_M_mirror) D B [.ref b] σ (zQi Q) := by
  refine zM.ofW (own := "LawWorldsModel") (by decide +kernel) rfl (Nat.le_of_ble_eq_true rfl) ?_
  intro p e s m args below meth c ls hx hb hml hr hlocks hname hC hwk hw hS hl
  obtain ⟨σ0, eσ⟩ : ∃ z, z = σ := ⟨_, rfl⟩
  have hg : gr σ0 σ := by rw [eσ]; exact gr.rf
  have hl : lv_has ls 4 [(0, va_rf (some b))] := hl
  obtain ⟨hsb, hB⟩ := h
  have hsb0 : s_s σ0 b = some (.inl 9) := by rw [eσ]; exact hsb
  rw [← eσ]
  skip
  obtain ⟨K22, hK22⟩ : ∃ K : Int32 → Int32 → Int32 → St → Prop, K = (fun (x1 : Int32) (x2 : Int32) (x3 : Int32) (σ : St) => ∀ (H : Heap) (locs : List Loc) (ls : Array Slot), gr σ0 σ → wh D B σ s H → va_S (zA B) s.heap H locs → lv_has ls 4 [(0, va_rf (some b)), (1, .int x1), (2, .int x2), (3, .int x3)] → W p l e (rm_M_mirror) s m args below meth c H locs 0 0 (MQ below (zQ D B σ0 (zQi Q)) args s (rm_M_mirror).cells (rm_M_mirror).slots (zA B)) (F0 m 22 ls [])) := ⟨_, rfl⟩
  refine (fun hB => ?_) (hB K22 ?_)
  · skip
    refine zr_aload_n (o := some b) hx hb d_M_mirror_0 rfl (lv_at hl 0 rfl) ?_
    refine zr_get (v := va_rf (s_r σ b 0)) hx hb hC hw rfl hsb fl_M_7 rfl d_M_mirror_1 ?_
    refine lv_iconst (v := nI 0) hx hb d_M_mirror_4 (by decide) ?_
    obtain ⟨q9, n9, j10, ho, hs, hin, hj, hB⟩ := hB
    refine zr_iald hx hb hw ho hs hin hj d_M_mirror_5 ?_
    refine lv_istore_n (lv' := [(1, .int (s_i σ q9 j10)), (0, va_rf (some b))]) hx hb d_M_mirror_6 rfl hl (by decide) rfl (fun ls hl => ?_)
    refine lv_iconst (v := nI 0) hx hb d_M_mirror_7 (by decide) ?_
    refine lv_istore_n (lv' := [(2, .int (nI 0)), (1, .int (s_i σ q9 j10)), (0, va_rf (some b))]) hx hb d_M_mirror_8 rfl hl (by decide) rfl (fun ls hl => ?_)
    refine zr_aload_n (o := some b) hx hb d_M_mirror_9 rfl (lv_at hl 2 rfl) ?_
    refine lv_iload_n hx hb d_M_mirror_10 rfl (lv_at hl 1 rfl) ?_
    refine zr_aload_n (o := some b) hx hb d_M_mirror_11 rfl (lv_at hl 2 rfl) ?_
    refine zr_get (v := va_rf (s_r σ b 0)) hx hb hC hw rfl hsb fl_M_7 rfl d_M_mirror_12 ?_
    refine lv_iconst (v := nI 1) hx hb d_M_mirror_15 (by decide) ?_
    obtain ⟨q11, n11, j12, ho, hs, hin, hj, hB⟩ := hB
    refine zr_iald hx hb hw ho hs hin hj d_M_mirror_16 ?_
    have hsr := And.left hB
    refine zr_callV (ci := 9) (As := [.int (s_i σ q9 j10), .int (s_i σ q11 j12)]) (rest := []) hx hb hml hC hwk hw hS hl.1 (c_M_unfolds l D B b (s_i σ q9 j10) (s_i σ q11 j12) σ _ hB) mk_M_unfolds mi_M_unfolds ms_M_unfolds ml_M_76 ⟨Nat.le_of_ble_eq_true rfl, Nat.le_of_ble_eq_true rfl⟩ rfl hsr rfl (cat_8 cat_n (Nat.le_of_ble_eq_true rfl)) d_M_mirror_17 ⟨Nat.le_refl _, Nat.le_refl _⟩ rfl (fun v σ13 H locs hp hgn hw hS => ?_)
    have hg := hg.tr hgn
    have hsb := hgn _ _ hsb
    obtain ⟨rfl, hB⟩ := hp
    refine W.eq (g2 := F0 m 20 ls []) rfl ?_
    refine lv_iconst (v := nI 0) hx hb d_M_mirror_20 (by decide) ?_
    refine lv_istore_n (lv' := [(3, .int (nI 0)), (2, .int (nI 0)), (1, .int (s_i σ q9 j10)), (0, va_rf (some b))]) hx hb d_M_mirror_21 rfl hl (by decide) rfl (fun ls hl => ?_)
    rw [hK22] at hB
    exact hB _ _ _ hg hw hS (lv_sub hl [3, 2, 1, 0] rfl)
  · intro x1 x2 x3 σ hB
    rw [hK22]
    intro H locs ls hg hw hS hl
    have hsb := hg _ _ hsb0
    refine lv_iload_n hx hb d_M_mirror_22 rfl (lv_at hl 3 rfl) ?_
    refine lv_iload_n hx hb d_M_mirror_23 rfl (lv_at hl 1 rfl) ?_
    refine lv_iload_n hx hb d_M_mirror_24 rfl (lv_at hl 1 rfl) ?_
    refine lv_imul hx hb d_M_mirror_25 ?_
    refine lv_icmp_ge (tgt := 58) hx hb d_M_mirror_26 (by decide) (fun cd => ?_) (fun cd => ?_)
    · have hB := hB.1 cd
      refine lv_iload_n hx hb d_M_mirror_58 rfl (lv_at hl 2 rfl) ?_
      refine zr_aload_n (o := some b) hx hb d_M_mirror_59 rfl (lv_at hl 0 rfl) ?_
      refine zr_get (v := va_rf (s_r σ b 0)) hx hb hC hw rfl hsb fl_M_7 rfl d_M_mirror_60 ?_
      refine lv_iconst (v := nI 1) hx hb d_M_mirror_63 (by decide) ?_
      obtain ⟨q1, n1, j2, ho, hs, hin, hj, hB⟩ := hB
      refine zr_iald hx hb hw ho hs hin hj d_M_mirror_64 ?_
      refine lv_icmp_ne (tgt := 73) hx hb d_M_mirror_65 (by decide) (fun cd => ?_) (fun cd => ?_)
      · have hB := hB.2 cd
        refine zr_aload_n (o := some b) hx hb d_M_mirror_73 rfl (lv_at hl 0 rfl) ?_
        refine lv_iload_n hx hb d_M_mirror_74 rfl (lv_at hl 2 rfl) ?_
        have hsr := And.left hB
        refine zr_callV (ci := 9) (As := [.int x2]) (rest := []) hx hb hml hC hwk hw hS hl.1 (c_M_becomes l D B b x2 σ _ hB) mk_M_becomes mi_M_becomes ms_M_becomes ml_M_144 ⟨Nat.le_of_ble_eq_true rfl, Nat.le_of_ble_eq_true rfl⟩ rfl hsr rfl (cat_8 cat_n (Nat.le_of_ble_eq_true rfl)) d_M_mirror_75 ⟨Nat.le_refl _, Nat.le_refl _⟩ rfl (fun v σ3 H locs hp hgn hw hS => ?_)
        have hg := hg.tr hgn
        have hsb := hgn _ _ hsb
        obtain ⟨r4, rfl, hB⟩ := hp
        refine W.eq (g2 := F0 m 78 ls [.int r4]) rfl ?_
        exact zr_iret hx hb hr hlocks hB hg hw hS d_M_mirror_78
      · have hB := hB.1 cd
        refine lv_bipush (v := (-5)) hx hb d_M_mirror_68 (by decide) ?_
        refine lv_goto (tgt := 78) hx hb d_M_mirror_70 (by decide) ?_
        exact zr_iret hx hb hr hlocks hB hg hw hS d_M_mirror_78
    · have hB := hB.2 cd
      refine lv_iload_n hx hb d_M_mirror_29 rfl (lv_at hl 2 rfl) ?_
      refine zr_aload_n (o := some b) hx hb d_M_mirror_30 rfl (lv_at hl 0 rfl) ?_
      refine zr_get (v := va_rf (s_r σ b 8)) hx hb hC hw rfl hsb fl_M_28 rfl d_M_mirror_31 ?_
      refine lv_iload_n hx hb d_M_mirror_34 rfl (lv_at hl 3 rfl) ?_
      obtain ⟨q5, n5, j6, ho, hs, hin, hj, hB⟩ := hB
      refine zr_iald hx hb hw ho hs hin hj d_M_mirror_35 ?_
      refine lv_iload_n hx hb d_M_mirror_36 rfl (lv_at hl 1 rfl) ?_
      refine lv_iload_n hx hb d_M_mirror_37 rfl (lv_at hl 1 rfl) ?_
      refine lv_iload_n hx hb d_M_mirror_38 rfl (lv_at hl 3 rfl) ?_
      refine lv_iload_n hx hb d_M_mirror_39 rfl (lv_at hl 1 rfl) ?_
      refine zr_irem hx hb d_M_mirror_40 hB.1 ?_
      have hB := hB.2
      refine lv_imul hx hb d_M_mirror_41 ?_
      refine lv_iload_n hx hb d_M_mirror_42 rfl (lv_at hl 3 rfl) ?_
      refine lv_iload_n hx hb d_M_mirror_43 rfl (lv_at hl 1 rfl) ?_
      refine lv_idiv hx hb d_M_mirror_44 hB.1 ?_
      have hB := hB.2
      refine lv_iadd hx hb d_M_mirror_45 ?_
      refine zr_callS (As := [.int x1, .int ((x1 * (irem x3 x1)) + (x3 / x1))]) (rest := [.int (s_i σ q5 j6), .int x2]) hx hb hml hC hwk hw hS hl.1 (c_M_power l D B x1 ((x1 * (irem x3 x1)) + (x3 / x1)) σ _ hB) mk_M_power mt_M_power ml_M_64 ⟨Nat.le_of_ble_eq_true rfl, Nat.le_of_ble_eq_true rfl⟩ rfl (cat_8 (cat_c rfl (cat_c rfl cat_n)) (Nat.le_of_ble_eq_true rfl)) d_M_mirror_46 ⟨Nat.le_refl _, Nat.le_refl _⟩ rfl (fun v σ7 H locs hp hgn hw hS => ?_)
      have hg := hg.tr hgn
      have hsb := hgn _ _ hsb
      obtain ⟨r8, rfl, hB⟩ := hp
      refine W.eq (g2 := F0 m 49 ls [.int r8, .int (s_i σ q5 j6), .int x2]) rfl ?_
      refine lv_imul hx hb d_M_mirror_49 ?_
      refine lv_iadd hx hb d_M_mirror_50 ?_
      refine lv_istore_n (lv' := [(2, .int (x2 + ((s_i σ q5 j6) * r8))), (0, va_rf (some b)), (1, .int x1), (3, .int x3)]) hx hb d_M_mirror_51 rfl hl (by decide) rfl (fun ls hl => ?_)
      refine lv_iinc (v := x3 + nI 1) (lv' := [(3, .int (x3 + nI 1)), (2, .int (x2 + ((s_i σ q5 j6) * r8))), (0, va_rf (some b)), (1, .int x1)]) hx hb d_M_mirror_52 hl (k := 3) rfl rfl (by decide) rfl (fun ls hl => ?_)
      refine lv_goto (tgt := 22) hx hb d_M_mirror_55 (by decide) ?_
      rw [hK22] at hB
      exact hB _ _ _ hg hw hS (lv_sub hl [2, 3, 1, 0] rfl)

set_option maxHeartbeats 4000000 in
set_option maxRecDepth 100000 in
theorem c_M_type (l : Launch) (D : va_G) (B : Nat) (b : Nat) (x1 : Int32) (σ : St) (Q : Int32 → St → Prop) (h : P_M_type b x1 σ Q) : zM l y_M_type b_M_type 2 (some (.int)) (rm_M_type) D B [.ref b, .int x1] σ (zQi Q) := by
  refine zM.ofW (own := "LawWorldsModel") (by decide +kernel) rfl (Nat.le_of_ble_eq_true rfl) ?_
  intro p e s m args below meth c ls hx hb hml hr hlocks hname hC hwk hw hS hl
  obtain ⟨σ0, eσ⟩ : ∃ z, z = σ := ⟨_, rfl⟩
  have hg : gr σ0 σ := by rw [eσ]; exact gr.rf
  have hl : lv_has ls 2 [(0, va_rf (some b)), (1, .int x1)] := hl
  obtain ⟨hsb, hB⟩ := h
  have hsb0 : s_s σ0 b = some (.inl 9) := by rw [eσ]; exact hsb
  rw [← eσ]
  skip
  refine zr_aload_n (o := some b) hx hb d_M_type_0 rfl (lv_at hl 0 rfl) ?_
  refine zr_get (v := .int (s_i σ b 16)) hx hb hC hw rfl hsb fl_M_150 rfl d_M_type_1 ?_
  refine lv_bipush (v := nI 60) hx hb d_M_type_4 (by decide) ?_
  refine lv_icmp_ne (tgt := 12) hx hb d_M_type_6 (by decide) (fun cd => ?_) (fun cd => ?_)
  · have hB := hB.2 cd
    refine zr_aload_n (o := some b) hx hb d_M_type_12 rfl (lv_at hl 0 rfl) ?_
    refine zr_get (v := va_rf (s_r σ b 15)) hx hb hC hw rfl hsb fl_M_43 rfl d_M_type_13 ?_
    refine zr_aload_n (o := some b) hx hb d_M_type_16 rfl (lv_at hl 0 rfl) ?_
    refine zr_get (v := .int (s_i σ b 16)) hx hb hC hw rfl hsb fl_M_150 rfl d_M_type_17 ?_
    refine lv_iload_n hx hb d_M_type_20 rfl (lv_at hl 1 rfl) ?_
    obtain ⟨q1, n1, j2, ho, hs, hin, hj, hB⟩ := hB
    refine zr_iast hx hb hw hS ho hs hin hj d_M_type_21 (fun H locs hw hS => ?_)
    refine zr_aload_n (o := some b) hx hb d_M_type_22 rfl (lv_at hl 0 rfl) ?_
    refine lv_dup hx hb d_M_type_23 (va_rf_cat _) ?_
    refine zr_get (v := .int (s_i (w_i σ q1 j2 x1) b 16)) hx hb hC hw rfl hsb fl_M_150 rfl d_M_type_24 ?_
    refine lv_iconst (v := nI 1) hx hb d_M_type_27 (by decide) ?_
    refine lv_iadd hx hb d_M_type_28 ?_
    refine zr_putI hx hb hC hw hS rfl hsb fl_M_150 rfl rfl d_M_type_29 (fun H locs hw hS => ?_)
    refine zr_aload_n (o := some b) hx hb d_M_type_32 rfl (lv_at hl 0 rfl) ?_
    refine zr_get (v := .int (s_i (w_i (w_i σ q1 j2 x1) b 16 ((s_i (w_i σ q1 j2 x1) b 16) + (nI 1))) b 16)) hx hb hC hw rfl hsb fl_M_150 rfl d_M_type_33 ?_
    exact zr_iret hx hb hr hlocks hB hg hw hS d_M_type_36
  · have hB := hB.1 cd
    refine lv_bipush (v := (-3)) hx hb d_M_type_9 (by decide) ?_
    exact zr_iret hx hb hr hlocks hB hg hw hS d_M_type_11

set_option maxHeartbeats 4000000 in
set_option maxRecDepth 100000 in
theorem c_M_clearText (l : Launch) (D : va_G) (B : Nat) (b : Nat) (σ : St) (Q : Int32 → St → Prop) (h : P_M_clearText b σ Q) : zM l y_M_clearText b_M_clearText 2 (some (.int)) (rm_M_clearText) D B [.ref b] σ (zQi Q) := by
  refine zM.ofW (own := "LawWorldsModel") (by decide +kernel) rfl (Nat.le_of_ble_eq_true rfl) ?_
  intro p e s m args below meth c ls hx hb hml hr hlocks hname hC hwk hw hS hl
  obtain ⟨σ0, eσ⟩ : ∃ z, z = σ := ⟨_, rfl⟩
  have hg : gr σ0 σ := by rw [eσ]; exact gr.rf
  have hl : lv_has ls 2 [(0, va_rf (some b))] := hl
  obtain ⟨hsb, hB⟩ := h
  have hsb0 : s_s σ0 b = some (.inl 9) := by rw [eσ]; exact hsb
  rw [← eσ]
  skip
  refine zr_aload_n (o := some b) hx hb d_M_clearText_0 rfl (lv_at hl 0 rfl) ?_
  refine zr_get (v := .int (s_i σ b 16)) hx hb hC hw rfl hsb fl_M_150 rfl d_M_clearText_1 ?_
  refine lv_istore_n (lv' := [(1, .int (s_i σ b 16)), (0, va_rf (some b))]) hx hb d_M_clearText_4 rfl hl (by decide) rfl (fun ls hl => ?_)
  refine zr_aload_n (o := some b) hx hb d_M_clearText_5 rfl (lv_at hl 1 rfl) ?_
  refine lv_iconst (v := nI 0) hx hb d_M_clearText_6 (by decide) ?_
  refine zr_putI hx hb hC hw hS rfl hsb fl_M_150 rfl rfl d_M_clearText_7 (fun H locs hw hS => ?_)
  refine lv_iload_n hx hb d_M_clearText_10 rfl (lv_at hl 0 rfl) ?_
  exact zr_iret hx hb hr hlocks hB hg hw hS d_M_clearText_11

set_option maxHeartbeats 4000000 in
set_option maxRecDepth 100000 in
theorem c_M_beginsSide (l : Launch) (D : va_G) (B : Nat) (b : Nat) (x1 : Int32) (σ : St) (Q : St → Prop) (h : P_M_beginsSide b x1 σ Q) : zM l y_M_beginsSide b_M_beginsSide 2 none (rm_M_beginsSide) D B [.ref b, .int x1] σ (zQv Q) := by
  refine zM.ofW (own := "LawWorldsModel") (by decide +kernel) rfl (Nat.le_of_ble_eq_true rfl) ?_
  intro p e s m args below meth c ls hx hb hml hr hlocks hname hC hwk hw hS hl
  obtain ⟨σ0, eσ⟩ : ∃ z, z = σ := ⟨_, rfl⟩
  have hg : gr σ0 σ := by rw [eσ]; exact gr.rf
  have hl : lv_has ls 2 [(0, va_rf (some b)), (1, .int x1)] := hl
  obtain ⟨hsb, hB⟩ := h
  have hsb0 : s_s σ0 b = some (.inl 9) := by rw [eσ]; exact hsb
  rw [← eσ]
  skip
  refine zr_aload_n (o := some b) hx hb d_M_beginsSide_0 rfl (lv_at hl 0 rfl) ?_
  refine lv_iload_n hx hb d_M_beginsSide_1 rfl (lv_at hl 1 rfl) ?_
  refine zr_putI hx hb hC hw hS rfl hsb fl_M_153 rfl rfl d_M_beginsSide_2 (fun H locs hw hS => ?_)
  refine zr_aload_n (o := some b) hx hb d_M_beginsSide_5 rfl (lv_at hl 0 rfl) ?_
  refine zr_get (v := va_rf (s_r (w_i σ b 19 x1) b 17)) hx hb hC hw rfl hsb fl_M_46 rfl d_M_beginsSide_6 ?_
  refine lv_iload_n hx hb d_M_beginsSide_9 rfl (lv_at hl 1 rfl) ?_
  refine lv_iconst (v := nI 0) hx hb d_M_beginsSide_10 (by decide) ?_
  obtain ⟨q1, n1, j2, ho, hs, hin, hj, hB⟩ := hB
  refine zr_iast hx hb hw hS ho hs hin hj d_M_beginsSide_11 (fun H locs hw hS => ?_)
  refine zr_aload_n (o := some b) hx hb d_M_beginsSide_12 rfl (lv_at hl 0 rfl) ?_
  refine lv_iconst (v := nI 0) hx hb d_M_beginsSide_13 (by decide) ?_
  refine zr_putI hx hb hC hw hS rfl hsb fl_M_156 rfl rfl d_M_beginsSide_14 (fun H locs hw hS => ?_)
  refine zr_aload_n (o := some b) hx hb d_M_beginsSide_17 rfl (lv_at hl 0 rfl) ?_
  refine lv_iconst (v := nI 0) hx hb d_M_beginsSide_18 (by decide) ?_
  refine zr_putI hx hb hC hw hS rfl hsb fl_M_159 rfl rfl d_M_beginsSide_19 (fun H locs hw hS => ?_)
  refine zr_aload_n (o := some b) hx hb d_M_beginsSide_22 rfl (lv_at hl 0 rfl) ?_
  refine zr_get (v := va_rf (s_r (w_i (w_i (w_i (w_i σ b 19 x1) q1 j2 (nI 0)) b 20 (nI 0)) b 21 (nI 0)) b 22)) hx hb hC hw rfl hsb fl_M_49 rfl d_M_beginsSide_23 ?_
  refine lv_iconst (v := nI 0) hx hb d_M_beginsSide_26 (by decide) ?_
  refine lv_iconst (v := nI 0) hx hb d_M_beginsSide_27 (by decide) ?_
  obtain ⟨q3, n3, j4, ho, hs, hin, hj, hB⟩ := hB
  refine zr_iast hx hb hw hS ho hs hin hj d_M_beginsSide_28 (fun H locs hw hS => ?_)
  exact zr_vret hx hb hr hlocks hB hg hw hS d_M_beginsSide_29

set_option maxHeartbeats 4000000 in
set_option maxRecDepth 100000 in
theorem c_M_isWhole (l : Launch) (D : va_G) (B : Nat) (b : Nat) (σ : St) (Q : Int32 → St → Prop) (h : P_M_isWhole b σ Q) : zM l y_M_isWhole b_M_isWhole 1 (some (.boolean)) (rm_M_isWhole) D B [.ref b] σ (zQi Q) := by
  refine zM.ofW (own := "LawWorldsModel") (by decide +kernel) rfl (Nat.le_of_ble_eq_true rfl) ?_
  intro p e s m args below meth c ls hx hb hml hr hlocks hname hC hwk hw hS hl
  obtain ⟨σ0, eσ⟩ : ∃ z, z = σ := ⟨_, rfl⟩
  have hg : gr σ0 σ := by rw [eσ]; exact gr.rf
  have hl : lv_has ls 1 [(0, va_rf (some b))] := hl
  obtain ⟨hsb, hB⟩ := h
  have hsb0 : s_s σ0 b = some (.inl 9) := by rw [eσ]; exact hsb
  rw [← eσ]
  skip
  refine zr_aload_n (o := some b) hx hb d_M_isWhole_0 rfl (lv_at hl 0 rfl) ?_
  refine zr_get (v := .int (s_i σ b 21)) hx hb hC hw rfl hsb fl_M_159 rfl d_M_isWhole_1 ?_
  refine lv_if_ne (tgt := 21) hx hb d_M_isWhole_4 (by decide) (fun cd => ?_) (fun cd => ?_)
  · have hB := hB.2 cd
    refine lv_iconst (v := nI 0) hx hb d_M_isWhole_21 (by decide) ?_
    exact zr_zret hx hb hr hlocks (Or.inl rfl) hB hg hw hS d_M_isWhole_22
  · have hB := hB.1 cd
    refine zr_aload_n (o := some b) hx hb d_M_isWhole_7 rfl (lv_at hl 0 rfl) ?_
    refine zr_get (v := va_rf (s_r σ b 22)) hx hb hC hw rfl hsb fl_M_49 rfl d_M_isWhole_8 ?_
    refine lv_iconst (v := nI 0) hx hb d_M_isWhole_11 (by decide) ?_
    obtain ⟨q1, n1, j2, ho, hs, hin, hj, hB⟩ := hB
    refine zr_iald hx hb hw ho hs hin hj d_M_isWhole_12 ?_
    refine lv_iconst (v := nI 1) hx hb d_M_isWhole_13 (by decide) ?_
    refine lv_icmp_ne (tgt := 21) hx hb d_M_isWhole_14 (by decide) (fun cd => ?_) (fun cd => ?_)
    · have hB := hB.2 cd
      refine lv_iconst (v := nI 0) hx hb d_M_isWhole_21 (by decide) ?_
      exact zr_zret hx hb hr hlocks (Or.inl rfl) hB hg hw hS d_M_isWhole_22
    · have hB := hB.1 cd
      refine lv_iconst (v := nI 1) hx hb d_M_isWhole_17 (by decide) ?_
      refine lv_goto (tgt := 22) hx hb d_M_isWhole_18 (by decide) ?_
      exact zr_zret hx hb hr hlocks (Or.inr rfl) hB hg hw hS d_M_isWhole_22

set_option maxHeartbeats 4000000 in
set_option maxRecDepth 100000 in
theorem c_M_adds (l : Launch) (D : va_G) (B : Nat) (b : Nat) (x1 : Int32) (σ : St) (Q : St → Prop) (h : P_M_adds b x1 σ Q) : zM l y_M_adds b_M_adds 2 none (rm_M_adds) D B [.ref b, .int x1] σ (zQv Q) := by
  refine zM.ofW (own := "LawWorldsModel") (by decide +kernel) rfl (Nat.le_of_ble_eq_true rfl) ?_
  intro p e s m args below meth c ls hx hb hml hr hlocks hname hC hwk hw hS hl
  obtain ⟨σ0, eσ⟩ : ∃ z, z = σ := ⟨_, rfl⟩
  have hg : gr σ0 σ := by rw [eσ]; exact gr.rf
  have hl : lv_has ls 2 [(0, va_rf (some b)), (1, .int x1)] := hl
  obtain ⟨hsb, hB⟩ := h
  have hsb0 : s_s σ0 b = some (.inl 9) := by rw [eσ]; exact hsb
  rw [← eσ]
  skip
  refine zr_aload_n (o := some b) hx hb d_M_adds_0 rfl (lv_at hl 0 rfl) ?_
  refine zr_get (v := va_rf (s_r σ b 17)) hx hb hC hw rfl hsb fl_M_46 rfl d_M_adds_1 ?_
  refine zr_aload_n (o := some b) hx hb d_M_adds_4 rfl (lv_at hl 0 rfl) ?_
  refine zr_get (v := .int (s_i σ b 19)) hx hb hC hw rfl hsb fl_M_153 rfl d_M_adds_5 ?_
  refine lv_dup2_11 hx hb d_M_adds_8 rfl (va_rf_cat _) ?_
  obtain ⟨q1, n1, j2, ho, hs, hin, hj, hB⟩ := hB
  refine zr_iald hx hb hw ho hs hin hj d_M_adds_9 ?_
  refine lv_iconst (v := nI 1) hx hb d_M_adds_10 (by decide) ?_
  refine lv_iadd hx hb d_M_adds_11 ?_
  obtain ⟨q3, n3, j4, ho, hs, hin, hj, hB⟩ := hB
  refine zr_iast hx hb hw hS ho hs hin hj d_M_adds_12 (fun H locs hw hS => ?_)
  refine zr_aload_n (o := some b) hx hb d_M_adds_13 rfl (lv_at hl 0 rfl) ?_
  refine zr_get (v := va_rf (s_r (w_i σ q3 j4 ((s_i σ q1 j2) + (nI 1))) b 17)) hx hb hC hw rfl hsb fl_M_46 rfl d_M_adds_14 ?_
  refine zr_aload_n (o := some b) hx hb d_M_adds_17 rfl (lv_at hl 0 rfl) ?_
  refine zr_get (v := .int (s_i (w_i σ q3 j4 ((s_i σ q1 j2) + (nI 1))) b 19)) hx hb hC hw rfl hsb fl_M_153 rfl d_M_adds_18 ?_
  refine zr_aload_n (o := some b) hx hb d_M_adds_21 rfl (lv_at hl 0 rfl) ?_
  refine zr_get (v := va_rf (s_r (w_i σ q3 j4 ((s_i σ q1 j2) + (nI 1))) b 17)) hx hb hC hw rfl hsb fl_M_46 rfl d_M_adds_22 ?_
  refine zr_aload_n (o := some b) hx hb d_M_adds_25 rfl (lv_at hl 0 rfl) ?_
  refine zr_get (v := .int (s_i (w_i σ q3 j4 ((s_i σ q1 j2) + (nI 1))) b 19)) hx hb hC hw rfl hsb fl_M_153 rfl d_M_adds_26 ?_
  obtain ⟨q5, n5, j6, ho, hs, hin, hj, hB⟩ := hB
  refine zr_iald hx hb hw ho hs hin hj d_M_adds_29 ?_
  refine lv_iadd hx hb d_M_adds_30 ?_
  refine lv_iload_n hx hb d_M_adds_31 rfl (lv_at hl 1 rfl) ?_
  obtain ⟨q7, n7, j8, ho, hs, hin, hj, hB⟩ := hB
  refine zr_iast hx hb hw hS ho hs hin hj d_M_adds_32 (fun H locs hw hS => ?_)
  exact zr_vret hx hb hr hlocks hB hg hw hS d_M_adds_33

set_option maxHeartbeats 4000000 in
set_option maxRecDepth 100000 in
theorem c_M_hasPart (l : Launch) (D : va_G) (B : Nat) (b : Nat) (σ : St) (Q : St → Prop) (h : P_M_hasPart b σ Q) : zM l y_M_hasPart b_M_hasPart 1 none (rm_M_hasPart) D B [.ref b] σ (zQv Q) := by
  refine zM.ofW (own := "LawWorldsModel") (by decide +kernel) rfl (Nat.le_of_ble_eq_true rfl) ?_
  intro p e s m args below meth c ls hx hb hml hr hlocks hname hC hwk hw hS hl
  obtain ⟨σ0, eσ⟩ : ∃ z, z = σ := ⟨_, rfl⟩
  have hg : gr σ0 σ := by rw [eσ]; exact gr.rf
  have hl : lv_has ls 1 [(0, va_rf (some b))] := hl
  obtain ⟨hsb, hB⟩ := h
  have hsb0 : s_s σ0 b = some (.inl 9) := by rw [eσ]; exact hsb
  rw [← eσ]
  skip
  refine zr_aload_n (o := some b) hx hb d_M_hasPart_0 rfl (lv_at hl 0 rfl) ?_
  refine zr_get (v := va_rf (s_r σ b 22)) hx hb hC hw rfl hsb fl_M_49 rfl d_M_hasPart_1 ?_
  refine zr_aload_n (o := some b) hx hb d_M_hasPart_4 rfl (lv_at hl 0 rfl) ?_
  refine zr_get (v := .int (s_i σ b 21)) hx hb hC hw rfl hsb fl_M_159 rfl d_M_hasPart_5 ?_
  obtain ⟨q1, n1, j2, ho, hs, hin, hj, hB⟩ := hB
  refine zr_iald hx hb hw ho hs hin hj d_M_hasPart_8 ?_
  refine lv_iconst (v := nI 1) hx hb d_M_hasPart_9 (by decide) ?_
  refine lv_icmp_ne (tgt := 18) hx hb d_M_hasPart_10 (by decide) (fun cd => ?_) (fun cd => ?_)
  · have hB := hB.2 cd
    refine zr_aload_n (o := some b) hx hb d_M_hasPart_18 rfl (lv_at hl 0 rfl) ?_
    refine zr_get (v := va_rf (s_r σ b 22)) hx hb hC hw rfl hsb fl_M_49 rfl d_M_hasPart_19 ?_
    refine zr_aload_n (o := some b) hx hb d_M_hasPart_22 rfl (lv_at hl 0 rfl) ?_
    refine zr_get (v := .int (s_i σ b 21)) hx hb hC hw rfl hsb fl_M_159 rfl d_M_hasPart_23 ?_
    refine lv_iconst (v := nI 1) hx hb d_M_hasPart_26 (by decide) ?_
    obtain ⟨q3, n3, j4, ho, hs, hin, hj, hB⟩ := hB
    refine zr_iast hx hb hw hS ho hs hin hj d_M_hasPart_27 (fun H locs hw hS => ?_)
    exact zr_vret hx hb hr hlocks hB hg hw hS d_M_hasPart_28
  · have hB := hB.1 cd
    refine zr_aload_n (o := some b) hx hb d_M_hasPart_13 rfl (lv_at hl 0 rfl) ?_
    refine lv_iconst (v := nI 3) hx hb d_M_hasPart_14 (by decide) ?_
    have hsr := And.left hB
    refine zr_callV (ci := 9) (As := [.int (nI 3)]) (rest := []) hx hb hml hC hwk hw hS hl.1 (c_M_adds l D B b (nI 3) σ _ hB) mk_M_adds mi_M_adds ms_M_adds ml_M_162 ⟨Nat.le_of_ble_eq_true rfl, Nat.le_of_ble_eq_true rfl⟩ rfl hsr rfl (cat_8 cat_n (Nat.le_of_ble_eq_true rfl)) d_M_hasPart_15 ⟨Nat.le_refl _, Nat.le_refl _⟩ rfl (fun v σ5 H locs hp hgn hw hS => ?_)
    have hg := hg.tr hgn
    have hsb := hgn _ _ hsb
    obtain ⟨rfl, hB⟩ := hp
    refine W.eq (g2 := F0 m 18 ls []) rfl ?_
    refine zr_aload_n (o := some b) hx hb d_M_hasPart_18 rfl (lv_at hl 0 rfl) ?_
    refine zr_get (v := va_rf (s_r σ5 b 22)) hx hb hC hw rfl hsb fl_M_49 rfl d_M_hasPart_19 ?_
    refine zr_aload_n (o := some b) hx hb d_M_hasPart_22 rfl (lv_at hl 0 rfl) ?_
    refine zr_get (v := .int (s_i σ5 b 21)) hx hb hC hw rfl hsb fl_M_159 rfl d_M_hasPart_23 ?_
    refine lv_iconst (v := nI 1) hx hb d_M_hasPart_26 (by decide) ?_
    obtain ⟨q6, n6, j7, ho, hs, hin, hj, hB⟩ := hB
    refine zr_iast hx hb hw hS ho hs hin hj d_M_hasPart_27 (fun H locs hw hS => ?_)
    exact zr_vret hx hb hr hlocks hB hg hw hS d_M_hasPart_28

set_option maxHeartbeats 4000000 in
set_option maxRecDepth 100000 in
theorem c_M_takesInSide (l : Launch) (D : va_G) (B : Nat) (b : Nat) (x1 : Int32) (σ : St) (Q : Int32 → St → Prop) (h : P_M_takesInSide b x1 σ Q) : zM l y_M_takesInSide b_M_takesInSide 2 (some (.boolean)) (rm_M_takesInSide) D B [.ref b, .int x1] σ (zQi Q) := by
  refine zM.ofW (own := "LawWorldsModel") (by decide +kernel) rfl (Nat.le_of_ble_eq_true rfl) ?_
  intro p e s m args below meth c ls hx hb hml hr hlocks hname hC hwk hw hS hl
  obtain ⟨σ0, eσ⟩ : ∃ z, z = σ := ⟨_, rfl⟩
  have hg : gr σ0 σ := by rw [eσ]; exact gr.rf
  have hl : lv_has ls 2 [(0, va_rf (some b)), (1, .int x1)] := hl
  obtain ⟨hsb, hB⟩ := h
  have hsb0 : s_s σ0 b = some (.inl 9) := by rw [eσ]; exact hsb
  rw [← eσ]
  skip
  refine lv_iload_n hx hb d_M_takesInSide_0 rfl (lv_at hl 1 rfl) ?_
  refine lv_i2l hx hb d_M_takesInSide_1 rfl ?_
  refine lv_ldc2 (v := lN 120) hx hb hC.1 (hC.2.1 _ kc_M_165) d_M_takesInSide_2 ?_
  refine lv_ldc2 (v := lN 122) hx hb hC.1 (hC.2.1 _ kc_M_167) d_M_takesInSide_5 ?_
  refine zr_callS (As := [.long (x1.toInt64), .long (lN 120), .long (lN 122)]) (rest := []) hx hb hml hC hwk hw hS hl.1 (c_M_in l D B (x1.toInt64) (lN 120) (lN 122) σ _ hB) mk_M_in mt_M_in ml_M_69 ⟨Nat.le_of_ble_eq_true rfl, Nat.le_of_ble_eq_true rfl⟩ rfl (cat_8 cat_n (Nat.le_of_ble_eq_true rfl)) d_M_takesInSide_8 ⟨Nat.le_refl _, Nat.le_refl _⟩ rfl (fun v σ1 H locs hp hgn hw hS => ?_)
  have hg := hg.tr hgn
  have hsb := hgn _ _ hsb
  obtain ⟨r2, rfl, hB⟩ := hp
  refine W.eq (g2 := F0 m 11 ls [.int r2]) rfl ?_
  refine lv_if_eq (tgt := 49) hx hb d_M_takesInSide_11 (by decide) (fun cd => ?_) (fun cd => ?_)
  · have hB := hB.1 cd
    refine lv_iload_n hx hb d_M_takesInSide_49 rfl (lv_at hl 1 rfl) ?_
    refine lv_bipush (v := nI 40) hx hb d_M_takesInSide_50 (by decide) ?_
    refine lv_icmp_ne (tgt := 85) hx hb d_M_takesInSide_52 (by decide) (fun cd => ?_) (fun cd => ?_)
    · have hB := hB.2 cd
      refine lv_iload_n hx hb d_M_takesInSide_85 rfl (lv_at hl 1 rfl) ?_
      refine lv_bipush (v := nI 41) hx hb d_M_takesInSide_86 (by decide) ?_
      refine lv_icmp_ne (tgt := 127) hx hb d_M_takesInSide_88 (by decide) (fun cd => ?_) (fun cd => ?_)
      · have hB := hB.2 cd
        refine lv_iconst (v := nI 0) hx hb d_M_takesInSide_127 (by decide) ?_
        exact zr_zret hx hb hr hlocks (Or.inl rfl) hB hg hw hS d_M_takesInSide_128
      · have hB := hB.1 cd
        refine zr_aload_n (o := some b) hx hb d_M_takesInSide_91 rfl (lv_at hl 0 rfl) ?_
        refine zr_get (v := .int (s_i σ1 b 21)) hx hb hC hw rfl hsb fl_M_159 rfl d_M_takesInSide_92 ?_
        refine lv_if_le (tgt := 127) hx hb d_M_takesInSide_95 (by decide) (fun cd => ?_) (fun cd => ?_)
        · have hB := hB.1 cd
          refine lv_iconst (v := nI 0) hx hb d_M_takesInSide_127 (by decide) ?_
          exact zr_zret hx hb hr hlocks (Or.inl rfl) hB hg hw hS d_M_takesInSide_128
        · have hB := hB.2 cd
          refine zr_aload_n (o := some b) hx hb d_M_takesInSide_98 rfl (lv_at hl 0 rfl) ?_
          refine zr_get (v := va_rf (s_r σ1 b 22)) hx hb hC hw rfl hsb fl_M_49 rfl d_M_takesInSide_99 ?_
          refine zr_aload_n (o := some b) hx hb d_M_takesInSide_102 rfl (lv_at hl 0 rfl) ?_
          refine zr_get (v := .int (s_i σ1 b 21)) hx hb hC hw rfl hsb fl_M_159 rfl d_M_takesInSide_103 ?_
          obtain ⟨q3, n3, j4, ho, hs, hin, hj, hB⟩ := hB
          refine zr_iald hx hb hw ho hs hin hj d_M_takesInSide_106 ?_
          refine lv_iconst (v := nI 1) hx hb d_M_takesInSide_107 (by decide) ?_
          refine lv_icmp_ne (tgt := 127) hx hb d_M_takesInSide_108 (by decide) (fun cd => ?_) (fun cd => ?_)
          · have hB := hB.2 cd
            refine lv_iconst (v := nI 0) hx hb d_M_takesInSide_127 (by decide) ?_
            exact zr_zret hx hb hr hlocks (Or.inl rfl) hB hg hw hS d_M_takesInSide_128
          · have hB := hB.1 cd
            refine zr_aload_n (o := some b) hx hb d_M_takesInSide_111 rfl (lv_at hl 0 rfl) ?_
            refine lv_dup hx hb d_M_takesInSide_112 (va_rf_cat _) ?_
            refine zr_get (v := .int (s_i σ1 b 21)) hx hb hC hw rfl hsb fl_M_159 rfl d_M_takesInSide_113 ?_
            refine lv_iconst (v := nI 1) hx hb d_M_takesInSide_116 (by decide) ?_
            refine lv_isub hx hb d_M_takesInSide_117 ?_
            refine zr_putI hx hb hC hw hS rfl hsb fl_M_159 rfl rfl d_M_takesInSide_118 (fun H locs hw hS => ?_)
            refine zr_aload_n (o := some b) hx hb d_M_takesInSide_121 rfl (lv_at hl 0 rfl) ?_
            have hsr := And.left hB
            refine zr_callV (ci := 9) (As := []) (rest := []) hx hb hml hC hwk hw hS hl.1 (c_M_hasPart l D B b (w_i σ1 b 21 ((s_i σ1 b 21) - (nI 1))) _ hB) mk_M_hasPart mi_M_hasPart ms_M_hasPart ml_M_169 ⟨Nat.le_of_ble_eq_true rfl, Nat.le_of_ble_eq_true rfl⟩ rfl hsr rfl (cat_8 cat_n (Nat.le_of_ble_eq_true rfl)) d_M_takesInSide_122 ⟨Nat.le_refl _, Nat.le_refl _⟩ rfl (fun v σ5 H locs hp hgn hw hS => ?_)
            have hg := hg.tr hgn
            have hsb := hgn _ _ hsb
            obtain ⟨rfl, hB⟩ := hp
            refine W.eq (g2 := F0 m 125 ls []) rfl ?_
            refine lv_iconst (v := nI 1) hx hb d_M_takesInSide_125 (by decide) ?_
            exact zr_zret hx hb hr hlocks (Or.inr rfl) hB hg hw hS d_M_takesInSide_126
    · have hB := hB.1 cd
      refine zr_aload_n (o := some b) hx hb d_M_takesInSide_55 rfl (lv_at hl 0 rfl) ?_
      refine zr_get (v := .int (s_i σ1 b 21)) hx hb hC hw rfl hsb fl_M_159 rfl d_M_takesInSide_56 ?_
      refine lv_iconst (v := nI 3) hx hb d_M_takesInSide_59 (by decide) ?_
      refine lv_icmp_ge (tgt := 85) hx hb d_M_takesInSide_60 (by decide) (fun cd => ?_) (fun cd => ?_)
      · have hB := hB.1 cd
        refine lv_iload_n hx hb d_M_takesInSide_85 rfl (lv_at hl 1 rfl) ?_
        refine lv_bipush (v := nI 41) hx hb d_M_takesInSide_86 (by decide) ?_
        refine lv_icmp_ne (tgt := 127) hx hb d_M_takesInSide_88 (by decide) (fun cd => ?_) (fun cd => ?_)
        · have hB := hB.2 cd
          refine lv_iconst (v := nI 0) hx hb d_M_takesInSide_127 (by decide) ?_
          exact zr_zret hx hb hr hlocks (Or.inl rfl) hB hg hw hS d_M_takesInSide_128
        · have hB := hB.1 cd
          refine zr_aload_n (o := some b) hx hb d_M_takesInSide_91 rfl (lv_at hl 0 rfl) ?_
          refine zr_get (v := .int (s_i σ1 b 21)) hx hb hC hw rfl hsb fl_M_159 rfl d_M_takesInSide_92 ?_
          refine lv_if_le (tgt := 127) hx hb d_M_takesInSide_95 (by decide) (fun cd => ?_) (fun cd => ?_)
          · have hB := hB.1 cd
            refine lv_iconst (v := nI 0) hx hb d_M_takesInSide_127 (by decide) ?_
            exact zr_zret hx hb hr hlocks (Or.inl rfl) hB hg hw hS d_M_takesInSide_128
          · have hB := hB.2 cd
            refine zr_aload_n (o := some b) hx hb d_M_takesInSide_98 rfl (lv_at hl 0 rfl) ?_
            refine zr_get (v := va_rf (s_r σ1 b 22)) hx hb hC hw rfl hsb fl_M_49 rfl d_M_takesInSide_99 ?_
            refine zr_aload_n (o := some b) hx hb d_M_takesInSide_102 rfl (lv_at hl 0 rfl) ?_
            refine zr_get (v := .int (s_i σ1 b 21)) hx hb hC hw rfl hsb fl_M_159 rfl d_M_takesInSide_103 ?_
            obtain ⟨q6, n6, j7, ho, hs, hin, hj, hB⟩ := hB
            refine zr_iald hx hb hw ho hs hin hj d_M_takesInSide_106 ?_
            refine lv_iconst (v := nI 1) hx hb d_M_takesInSide_107 (by decide) ?_
            refine lv_icmp_ne (tgt := 127) hx hb d_M_takesInSide_108 (by decide) (fun cd => ?_) (fun cd => ?_)
            · have hB := hB.2 cd
              refine lv_iconst (v := nI 0) hx hb d_M_takesInSide_127 (by decide) ?_
              exact zr_zret hx hb hr hlocks (Or.inl rfl) hB hg hw hS d_M_takesInSide_128
            · have hB := hB.1 cd
              refine zr_aload_n (o := some b) hx hb d_M_takesInSide_111 rfl (lv_at hl 0 rfl) ?_
              refine lv_dup hx hb d_M_takesInSide_112 (va_rf_cat _) ?_
              refine zr_get (v := .int (s_i σ1 b 21)) hx hb hC hw rfl hsb fl_M_159 rfl d_M_takesInSide_113 ?_
              refine lv_iconst (v := nI 1) hx hb d_M_takesInSide_116 (by decide) ?_
              refine lv_isub hx hb d_M_takesInSide_117 ?_
              refine zr_putI hx hb hC hw hS rfl hsb fl_M_159 rfl rfl d_M_takesInSide_118 (fun H locs hw hS => ?_)
              refine zr_aload_n (o := some b) hx hb d_M_takesInSide_121 rfl (lv_at hl 0 rfl) ?_
              have hsr := And.left hB
              refine zr_callV (ci := 9) (As := []) (rest := []) hx hb hml hC hwk hw hS hl.1 (c_M_hasPart l D B b (w_i σ1 b 21 ((s_i σ1 b 21) - (nI 1))) _ hB) mk_M_hasPart mi_M_hasPart ms_M_hasPart ml_M_169 ⟨Nat.le_of_ble_eq_true rfl, Nat.le_of_ble_eq_true rfl⟩ rfl hsr rfl (cat_8 cat_n (Nat.le_of_ble_eq_true rfl)) d_M_takesInSide_122 ⟨Nat.le_refl _, Nat.le_refl _⟩ rfl (fun v σ8 H locs hp hgn hw hS => ?_)
              have hg := hg.tr hgn
              have hsb := hgn _ _ hsb
              obtain ⟨rfl, hB⟩ := hp
              refine W.eq (g2 := F0 m 125 ls []) rfl ?_
              refine lv_iconst (v := nI 1) hx hb d_M_takesInSide_125 (by decide) ?_
              exact zr_zret hx hb hr hlocks (Or.inr rfl) hB hg hw hS d_M_takesInSide_126
      · have hB := hB.2 cd
        refine zr_aload_n (o := some b) hx hb d_M_takesInSide_63 rfl (lv_at hl 0 rfl) ?_
        refine lv_dup hx hb d_M_takesInSide_64 (va_rf_cat _) ?_
        refine zr_get (v := .int (s_i σ1 b 21)) hx hb hC hw rfl hsb fl_M_159 rfl d_M_takesInSide_65 ?_
        refine lv_iconst (v := nI 1) hx hb d_M_takesInSide_68 (by decide) ?_
        refine lv_iadd hx hb d_M_takesInSide_69 ?_
        refine zr_putI hx hb hC hw hS rfl hsb fl_M_159 rfl rfl d_M_takesInSide_70 (fun H locs hw hS => ?_)
        refine zr_aload_n (o := some b) hx hb d_M_takesInSide_73 rfl (lv_at hl 0 rfl) ?_
        refine zr_get (v := va_rf (s_r (w_i σ1 b 21 ((s_i σ1 b 21) + (nI 1))) b 22)) hx hb hC hw rfl hsb fl_M_49 rfl d_M_takesInSide_74 ?_
        refine zr_aload_n (o := some b) hx hb d_M_takesInSide_77 rfl (lv_at hl 0 rfl) ?_
        refine zr_get (v := .int (s_i (w_i σ1 b 21 ((s_i σ1 b 21) + (nI 1))) b 21)) hx hb hC hw rfl hsb fl_M_159 rfl d_M_takesInSide_78 ?_
        refine lv_iconst (v := nI 0) hx hb d_M_takesInSide_81 (by decide) ?_
        obtain ⟨q9, n9, j10, ho, hs, hin, hj, hB⟩ := hB
        refine zr_iast hx hb hw hS ho hs hin hj d_M_takesInSide_82 (fun H locs hw hS => ?_)
        refine lv_iconst (v := nI 1) hx hb d_M_takesInSide_83 (by decide) ?_
        exact zr_zret hx hb hr hlocks (Or.inr rfl) hB hg hw hS d_M_takesInSide_84
  · have hB := hB.2 cd
    refine zr_aload_n (o := some b) hx hb d_M_takesInSide_14 rfl (lv_at hl 0 rfl) ?_
    refine zr_get (v := .int (s_i σ1 b 20)) hx hb hC hw rfl hsb fl_M_156 rfl d_M_takesInSide_15 ?_
    refine lv_bipush (v := nI 8) hx hb d_M_takesInSide_18 (by decide) ?_
    refine lv_icmp_ne (tgt := 25) hx hb d_M_takesInSide_20 (by decide) (fun cd => ?_) (fun cd => ?_)
    · have hB := hB.2 cd
      refine zr_aload_n (o := some b) hx hb d_M_takesInSide_25 rfl (lv_at hl 0 rfl) ?_
      refine lv_dup hx hb d_M_takesInSide_26 (va_rf_cat _) ?_
      refine zr_get (v := .int (s_i σ1 b 20)) hx hb hC hw rfl hsb fl_M_156 rfl d_M_takesInSide_27 ?_
      refine lv_iconst (v := nI 1) hx hb d_M_takesInSide_30 (by decide) ?_
      refine lv_iadd hx hb d_M_takesInSide_31 ?_
      refine zr_putI hx hb hC hw hS rfl hsb fl_M_156 rfl rfl d_M_takesInSide_32 (fun H locs hw hS => ?_)
      refine zr_aload_n (o := some b) hx hb d_M_takesInSide_35 rfl (lv_at hl 0 rfl) ?_
      refine lv_iload_n hx hb d_M_takesInSide_36 rfl (lv_at hl 1 rfl) ?_
      refine lv_bipush (v := nI 120) hx hb d_M_takesInSide_37 (by decide) ?_
      refine lv_isub hx hb d_M_takesInSide_39 ?_
      have hsr := And.left hB
      refine zr_callV (ci := 9) (As := [.int (x1 - (nI 120))]) (rest := []) hx hb hml hC hwk hw hS hl.1 (c_M_adds l D B b (x1 - (nI 120)) (w_i σ1 b 20 ((s_i σ1 b 20) + (nI 1))) _ hB) mk_M_adds mi_M_adds ms_M_adds ml_M_162 ⟨Nat.le_of_ble_eq_true rfl, Nat.le_of_ble_eq_true rfl⟩ rfl hsr rfl (cat_8 cat_n (Nat.le_of_ble_eq_true rfl)) d_M_takesInSide_40 ⟨Nat.le_refl _, Nat.le_refl _⟩ rfl (fun v σ11 H locs hp hgn hw hS => ?_)
      have hg := hg.tr hgn
      have hsb := hgn _ _ hsb
      obtain ⟨rfl, hB⟩ := hp
      refine W.eq (g2 := F0 m 43 ls []) rfl ?_
      refine zr_aload_n (o := some b) hx hb d_M_takesInSide_43 rfl (lv_at hl 0 rfl) ?_
      have hsr := And.left hB
      refine zr_callV (ci := 9) (As := []) (rest := []) hx hb hml hC hwk hw hS hl.1 (c_M_hasPart l D B b σ11 _ hB) mk_M_hasPart mi_M_hasPart ms_M_hasPart ml_M_169 ⟨Nat.le_of_ble_eq_true rfl, Nat.le_of_ble_eq_true rfl⟩ rfl hsr rfl (cat_8 cat_n (Nat.le_of_ble_eq_true rfl)) d_M_takesInSide_44 ⟨Nat.le_refl _, Nat.le_refl _⟩ rfl (fun v σ12 H locs hp hgn hw hS => ?_)
      have hg := hg.tr hgn
      have hsb := hgn _ _ hsb
      obtain ⟨rfl, hB⟩ := hp
      refine W.eq (g2 := F0 m 47 ls []) rfl ?_
      refine lv_iconst (v := nI 1) hx hb d_M_takesInSide_47 (by decide) ?_
      exact zr_zret hx hb hr hlocks (Or.inr rfl) hB hg hw hS d_M_takesInSide_48
    · have hB := hB.1 cd
      refine lv_iconst (v := nI 0) hx hb d_M_takesInSide_23 (by decide) ?_
      exact zr_zret hx hb hr hlocks (Or.inl rfl) hB hg hw hS d_M_takesInSide_24

set_option maxHeartbeats 4000000 in
set_option maxRecDepth 100000 in
theorem c_M_fault (l : Launch) (D : va_G) (B : Nat) (b : Nat) (σ : St) (Q : Int32 → St → Prop) (h : P_M_fault b σ Q) : zM l y_M_fault b_M_fault 4 (some (.int)) (rm_M_fault) D B [.ref b] σ (zQi Q) := by
  refine zM.ofW (own := "LawWorldsModel") (by decide +kernel) rfl (Nat.le_of_ble_eq_true rfl) ?_
  intro p e s m args below meth c ls hx hb hml hr hlocks hname hC hwk hw hS hl
  obtain ⟨σ0, eσ⟩ : ∃ z, z = σ := ⟨_, rfl⟩
  have hg : gr σ0 σ := by rw [eσ]; exact gr.rf
  have hl : lv_has ls 4 [(0, va_rf (some b))] := hl
  obtain ⟨hsb, hB⟩ := h
  have hsb0 : s_s σ0 b = some (.inl 9) := by rw [eσ]; exact hsb
  rw [← eσ]
  skip
  obtain ⟨K21, hK21⟩ : ∃ K : Int32 → Int32 → St → Prop, K = (fun (x1 : Int32) (x2 : Int32) (σ : St) => ∀ (H : Heap) (locs : List Loc) (ls : Array Slot), gr σ0 σ → wh D B σ s H → va_S (zA B) s.heap H locs → lv_has ls 4 [(0, va_rf (some b)), (1, .int x1), (2, .int x2)] → W p l e (rm_M_fault) s m args below meth c H locs 0 0 (MQ below (zQ D B σ0 (zQi Q)) args s (rm_M_fault).cells (rm_M_fault).slots (zA B)) (F0 m 21 ls [])) := ⟨_, rfl⟩
  obtain ⟨K72, hK72⟩ : ∃ K : Int32 → Int32 → Int32 → St → Prop, K = (fun (x1 : Int32) (x2 : Int32) (x3 : Int32) (σ : St) => ∀ (H : Heap) (locs : List Loc) (ls : Array Slot), gr σ0 σ → wh D B σ s H → va_S (zA B) s.heap H locs → lv_has ls 4 [(0, va_rf (some b)), (1, .int x1), (2, .int x2), (3, .int x3)] → W p l e (rm_M_fault) s m args below meth c H locs 0 0 (MQ below (zQ D B σ0 (zQi Q)) args s (rm_M_fault).cells (rm_M_fault).slots (zA B)) (F0 m 72 ls [])) := ⟨_, rfl⟩
  refine (fun hB => ?_) (hB K21 K72 ?_ ?_)
  · skip
    refine zr_aload_n (o := some b) hx hb d_M_fault_0 rfl (lv_at hl 0 rfl) ?_
    refine lv_iconst (v := nI 0) hx hb d_M_fault_1 (by decide) ?_
    refine zr_putI hx hb hC hw hS rfl hsb fl_M_172 rfl rfl d_M_fault_2 (fun H locs hw hS => ?_)
    refine zr_aload_n (o := some b) hx hb d_M_fault_5 rfl (lv_at hl 0 rfl) ?_
    refine zr_get (v := va_rf (s_r (w_i σ b 18 (nI 0)) b 17)) hx hb hC hw rfl hsb fl_M_46 rfl d_M_fault_6 ?_
    refine lv_iconst (v := nI 0) hx hb d_M_fault_9 (by decide) ?_
    refine lv_iconst (v := nI 1) hx hb d_M_fault_10 (by decide) ?_
    obtain ⟨q19, n19, j20, ho, hs, hin, hj, hB⟩ := hB
    refine zr_iast hx hb hw hS ho hs hin hj d_M_fault_11 (fun H locs hw hS => ?_)
    refine zr_aload_n (o := some b) hx hb d_M_fault_12 rfl (lv_at hl 0 rfl) ?_
    refine lv_iconst (v := nI 1) hx hb d_M_fault_13 (by decide) ?_
    have hsr := And.left hB
    refine zr_callV (ci := 9) (As := [.int (nI 1)]) (rest := []) hx hb hml hC hwk hw hS hl.1 (c_M_beginsSide l D B b (nI 1) (w_i (w_i σ b 18 (nI 0)) q19 j20 (nI 1)) _ hB) mk_M_beginsSide mi_M_beginsSide ms_M_beginsSide ml_M_175 ⟨Nat.le_of_ble_eq_true rfl, Nat.le_of_ble_eq_true rfl⟩ rfl hsr rfl (cat_8 cat_n (Nat.le_of_ble_eq_true rfl)) d_M_fault_14 ⟨Nat.le_refl _, Nat.le_refl _⟩ rfl (fun v σ21 H locs hp hgn hw hS => ?_)
    have hg := hg.tr hgn
    have hsb := hgn _ _ hsb
    obtain ⟨rfl, hB⟩ := hp
    refine W.eq (g2 := F0 m 17 ls []) rfl ?_
    refine lv_iconst (v := nI 0) hx hb d_M_fault_17 (by decide) ?_
    refine lv_istore_n (lv' := [(1, .int (nI 0)), (0, va_rf (some b))]) hx hb d_M_fault_18 rfl hl (by decide) rfl (fun ls hl => ?_)
    refine lv_iconst (v := nI 0) hx hb d_M_fault_19 (by decide) ?_
    refine lv_istore_n (lv' := [(2, .int (nI 0)), (1, .int (nI 0)), (0, va_rf (some b))]) hx hb d_M_fault_20 rfl hl (by decide) rfl (fun ls hl => ?_)
    rw [hK21] at hB
    exact hB _ _ _ hg hw hS (lv_sub hl [2, 1, 0] rfl)
  · intro x1 x2 σ hB
    rw [hK21]
    intro H locs ls hg hw hS hl
    have hsb := hg _ _ hsb0
    refine lv_iload_n hx hb d_M_fault_21 rfl (lv_at hl 2 rfl) ?_
    refine zr_aload_n (o := some b) hx hb d_M_fault_22 rfl (lv_at hl 0 rfl) ?_
    refine zr_get (v := .int (s_i σ b 16)) hx hb hC hw rfl hsb fl_M_150 rfl d_M_fault_23 ?_
    refine lv_icmp_ge (tgt := 146) hx hb d_M_fault_26 (by decide) (fun cd => ?_) (fun cd => ?_)
    · have hB := hB.1 cd
      refine lv_iload_n hx hb d_M_fault_146 rfl (lv_at hl 1 rfl) ?_
      refine lv_if_eq (tgt := 157) hx hb d_M_fault_147 (by decide) (fun cd => ?_) (fun cd => ?_)
      · have hB := hB.1 cd
        refine zr_aload_n (o := some b) hx hb d_M_fault_157 rfl (lv_at hl 0 rfl) ?_
        refine zr_get (v := .int (s_i σ b 16)) hx hb hC hw rfl hsb fl_M_150 rfl d_M_fault_158 ?_
        exact zr_iret hx hb hr hlocks hB hg hw hS d_M_fault_161
      · have hB := hB.2 cd
        refine zr_aload_n (o := some b) hx hb d_M_fault_150 rfl (lv_at hl 0 rfl) ?_
        have hsr := And.left hB
        refine zr_callV (ci := 9) (As := []) (rest := []) hx hb hml hC hwk hw hS hl.1 (c_M_isWhole l D B b σ _ hB) mk_M_isWhole mi_M_isWhole ms_M_isWhole ml_M_178 ⟨Nat.le_of_ble_eq_true rfl, Nat.le_of_ble_eq_true rfl⟩ rfl hsr rfl (cat_8 cat_n (Nat.le_of_ble_eq_true rfl)) d_M_fault_151 ⟨Nat.le_refl _, Nat.le_refl _⟩ rfl (fun v σ1 H locs hp hgn hw hS => ?_)
        have hg := hg.tr hgn
        have hsb := hgn _ _ hsb
        obtain ⟨r2, rfl, hB⟩ := hp
        refine W.eq (g2 := F0 m 154 ls [.int r2]) rfl ?_
        refine lv_if_ne (tgt := 162) hx hb d_M_fault_154 (by decide) (fun cd => ?_) (fun cd => ?_)
        · have hB := hB.2 cd
          refine zr_aload_n (o := some b) hx hb d_M_fault_162 rfl (lv_at hl 0 rfl) ?_
          refine lv_dup hx hb d_M_fault_163 (va_rf_cat _) ?_
          refine zr_get (v := .int (s_i σ1 b 18)) hx hb hC hw rfl hsb fl_M_172 rfl d_M_fault_164 ?_
          refine lv_iconst (v := nI 1) hx hb d_M_fault_167 (by decide) ?_
          refine lv_iadd hx hb d_M_fault_168 ?_
          refine zr_putI hx hb hC hw hS rfl hsb fl_M_172 rfl rfl d_M_fault_169 (fun H locs hw hS => ?_)
          refine lv_bipush (v := (-5)) hx hb d_M_fault_172 (by decide) ?_
          exact zr_iret hx hb hr hlocks hB hg hw hS d_M_fault_174
        · have hB := hB.1 cd
          refine zr_aload_n (o := some b) hx hb d_M_fault_157 rfl (lv_at hl 0 rfl) ?_
          refine zr_get (v := .int (s_i σ1 b 16)) hx hb hC hw rfl hsb fl_M_150 rfl d_M_fault_158 ?_
          exact zr_iret hx hb hr hlocks hB hg hw hS d_M_fault_161
    · have hB := hB.2 cd
      refine zr_aload_n (o := some b) hx hb d_M_fault_29 rfl (lv_at hl 0 rfl) ?_
      refine zr_get (v := va_rf (s_r σ b 15)) hx hb hC hw rfl hsb fl_M_43 rfl d_M_fault_30 ?_
      refine lv_iload_n hx hb d_M_fault_33 rfl (lv_at hl 2 rfl) ?_
      obtain ⟨q3, n3, j4, ho, hs, hin, hj, hB⟩ := hB
      refine zr_iald hx hb hw ho hs hin hj d_M_fault_34 ?_
      refine lv_istore_n (lv' := [(3, .int (s_i σ q3 j4)), (0, va_rf (some b)), (1, .int x1), (2, .int x2)]) hx hb d_M_fault_35 rfl hl (by decide) rfl (fun ls hl => ?_)
      refine lv_iload_n hx hb d_M_fault_36 rfl (lv_at hl 2 rfl) ?_
      refine lv_if_ne (tgt := 72) hx hb d_M_fault_37 (by decide) (fun cd => ?_) (fun cd => ?_)
      · have hB := hB.2 cd
        rw [hK72] at hB
        exact hB _ _ _ hg hw hS (lv_sub hl [1, 2, 3, 0] rfl)
      · have hB := hB.1 cd
        refine lv_iload_n hx hb d_M_fault_40 rfl (lv_at hl 0 rfl) ?_
        refine lv_bipush (v := nI 61) hx hb d_M_fault_41 (by decide) ?_
        refine lv_icmp_ne (tgt := 72) hx hb d_M_fault_43 (by decide) (fun cd => ?_) (fun cd => ?_)
        · have hB := hB.2 cd
          rw [hK72] at hB
          exact hB _ _ _ hg hw hS (lv_sub hl [1, 2, 3, 0] rfl)
        · have hB := hB.1 cd
          refine zr_aload_n (o := some b) hx hb d_M_fault_46 rfl (lv_at hl 1 rfl) ?_
          have hsr := And.left hB
          refine zr_callV (ci := 9) (As := []) (rest := []) hx hb hml hC hwk hw hS hl.1 (c_M_isWhole l D B b σ _ hB) mk_M_isWhole mi_M_isWhole ms_M_isWhole ml_M_178 ⟨Nat.le_of_ble_eq_true rfl, Nat.le_of_ble_eq_true rfl⟩ rfl hsr rfl (cat_8 cat_n (Nat.le_of_ble_eq_true rfl)) d_M_fault_47 ⟨Nat.le_refl _, Nat.le_refl _⟩ rfl (fun v σ5 H locs hp hgn hw hS => ?_)
          have hg := hg.tr hgn
          have hsb := hgn _ _ hsb
          obtain ⟨r6, rfl, hB⟩ := hp
          refine W.eq (g2 := F0 m 50 ls [.int r6]) rfl ?_
          refine lv_if_eq (tgt := 72) hx hb d_M_fault_50 (by decide) (fun cd => ?_) (fun cd => ?_)
          · have hB := hB.1 cd
            rw [hK72] at hB
            exact hB _ _ _ hg hw hS (lv_sub hl [1, 2, 3, 0] rfl)
          · have hB := hB.2 cd
            refine lv_iconst (v := nI 1) hx hb d_M_fault_53 (by decide) ?_
            refine lv_istore_n (lv' := [(1, .int (nI 1)), (3, .int (s_i σ q3 j4)), (0, va_rf (some b)), (2, .int x2)]) hx hb d_M_fault_54 rfl hl (by decide) rfl (fun ls hl => ?_)
            refine zr_aload_n (o := some b) hx hb d_M_fault_55 rfl (lv_at hl 2 rfl) ?_
            refine lv_bipush (v := nI 33) hx hb d_M_fault_56 (by decide) ?_
            refine zr_aload_n (o := some b) hx hb d_M_fault_58 rfl (lv_at hl 2 rfl) ?_
            refine zr_get (v := .int (s_i σ5 b 18)) hx hb hC hw rfl hsb fl_M_172 rfl d_M_fault_59 ?_
            refine lv_imul hx hb d_M_fault_62 ?_
            refine lv_bipush (v := nI 17) hx hb d_M_fault_63 (by decide) ?_
            refine lv_iadd hx hb d_M_fault_65 ?_
            have hsr := And.left hB
            refine zr_callV (ci := 9) (As := [.int (((nI 33) * (s_i σ5 b 18)) + (nI 17))]) (rest := []) hx hb hml hC hwk hw hS hl.1 (c_M_beginsSide l D B b (((nI 33) * (s_i σ5 b 18)) + (nI 17)) σ5 _ hB) mk_M_beginsSide mi_M_beginsSide ms_M_beginsSide ml_M_175 ⟨Nat.le_of_ble_eq_true rfl, Nat.le_of_ble_eq_true rfl⟩ rfl hsr rfl (cat_8 cat_n (Nat.le_of_ble_eq_true rfl)) d_M_fault_66 ⟨Nat.le_refl _, Nat.le_refl _⟩ rfl (fun v σ7 H locs hp hgn hw hS => ?_)
            have hg := hg.tr hgn
            have hsb := hgn _ _ hsb
            obtain ⟨rfl, hB⟩ := hp
            refine W.eq (g2 := F0 m 69 ls []) rfl ?_
            refine lv_goto (tgt := 140) hx hb d_M_fault_69 (by decide) ?_
            refine lv_iinc (v := x2 + nI 1) (lv' := [(2, .int (x2 + nI 1)), (1, .int (nI 1)), (3, .int (s_i σ q3 j4)), (0, va_rf (some b))]) hx hb d_M_fault_140 hl (k := 3) rfl rfl (by decide) rfl (fun ls hl => ?_)
            refine lv_goto (tgt := 21) hx hb d_M_fault_143 (by decide) ?_
            rw [hK21] at hB
            exact hB _ _ _ hg hw hS (lv_sub hl [3, 1, 0] rfl)
  · intro x1 x2 x3 σ hB
    rw [hK72]
    intro H locs ls hg hw hS hl
    have hsb := hg _ _ hsb0
    refine lv_iload_n hx hb d_M_fault_72 rfl (lv_at hl 1 rfl) ?_
    refine lv_if_eq (tgt := 130) hx hb d_M_fault_73 (by decide) (fun cd => ?_) (fun cd => ?_)
    · have hB := hB.1 cd
      refine zr_aload_n (o := some b) hx hb d_M_fault_130 rfl (lv_at hl 0 rfl) ?_
      refine lv_iload_n hx hb d_M_fault_131 rfl (lv_at hl 3 rfl) ?_
      have hsr := And.left hB
      refine zr_callV (ci := 9) (As := [.int x3]) (rest := []) hx hb hml hC hwk hw hS hl.1 (c_M_takesInSide l D B b x3 σ _ hB) mk_M_takesInSide mi_M_takesInSide ms_M_takesInSide ml_M_182 ⟨Nat.le_of_ble_eq_true rfl, Nat.le_of_ble_eq_true rfl⟩ rfl hsr rfl (cat_8 cat_n (Nat.le_of_ble_eq_true rfl)) d_M_fault_132 ⟨Nat.le_refl _, Nat.le_refl _⟩ rfl (fun v σ8 H locs hp hgn hw hS => ?_)
      have hg := hg.tr hgn
      have hsb := hgn _ _ hsb
      obtain ⟨r9, rfl, hB⟩ := hp
      refine W.eq (g2 := F0 m 135 ls [.int r9]) rfl ?_
      refine lv_if_ne (tgt := 140) hx hb d_M_fault_135 (by decide) (fun cd => ?_) (fun cd => ?_)
      · have hB := hB.2 cd
        refine lv_iinc (v := x2 + nI 1) (lv' := [(2, .int (x2 + nI 1)), (0, va_rf (some b)), (1, .int x1), (3, .int x3)]) hx hb d_M_fault_140 hl (k := 2) rfl rfl (by decide) rfl (fun ls hl => ?_)
        refine lv_goto (tgt := 21) hx hb d_M_fault_143 (by decide) ?_
        rw [hK21] at hB
        exact hB _ _ _ hg hw hS (lv_sub hl [1, 2, 0] rfl)
      · have hB := hB.1 cd
        refine lv_iload_n hx hb d_M_fault_138 rfl (lv_at hl 2 rfl) ?_
        exact zr_iret hx hb hr hlocks hB hg hw hS d_M_fault_139
    · have hB := hB.2 cd
      refine lv_iload_n hx hb d_M_fault_76 rfl (lv_at hl 3 rfl) ?_
      refine lv_bipush (v := nI 59) hx hb d_M_fault_77 (by decide) ?_
      refine lv_icmp_ne (tgt := 130) hx hb d_M_fault_79 (by decide) (fun cd => ?_) (fun cd => ?_)
      · have hB := hB.2 cd
        refine zr_aload_n (o := some b) hx hb d_M_fault_130 rfl (lv_at hl 0 rfl) ?_
        refine lv_iload_n hx hb d_M_fault_131 rfl (lv_at hl 3 rfl) ?_
        have hsr := And.left hB
        refine zr_callV (ci := 9) (As := [.int x3]) (rest := []) hx hb hml hC hwk hw hS hl.1 (c_M_takesInSide l D B b x3 σ _ hB) mk_M_takesInSide mi_M_takesInSide ms_M_takesInSide ml_M_182 ⟨Nat.le_of_ble_eq_true rfl, Nat.le_of_ble_eq_true rfl⟩ rfl hsr rfl (cat_8 cat_n (Nat.le_of_ble_eq_true rfl)) d_M_fault_132 ⟨Nat.le_refl _, Nat.le_refl _⟩ rfl (fun v σ10 H locs hp hgn hw hS => ?_)
        have hg := hg.tr hgn
        have hsb := hgn _ _ hsb
        obtain ⟨r11, rfl, hB⟩ := hp
        refine W.eq (g2 := F0 m 135 ls [.int r11]) rfl ?_
        refine lv_if_ne (tgt := 140) hx hb d_M_fault_135 (by decide) (fun cd => ?_) (fun cd => ?_)
        · have hB := hB.2 cd
          refine lv_iinc (v := x2 + nI 1) (lv' := [(2, .int (x2 + nI 1)), (0, va_rf (some b)), (1, .int x1), (3, .int x3)]) hx hb d_M_fault_140 hl (k := 2) rfl rfl (by decide) rfl (fun ls hl => ?_)
          refine lv_goto (tgt := 21) hx hb d_M_fault_143 (by decide) ?_
          rw [hK21] at hB
          exact hB _ _ _ hg hw hS (lv_sub hl [1, 2, 0] rfl)
        · have hB := hB.1 cd
          refine lv_iload_n hx hb d_M_fault_138 rfl (lv_at hl 2 rfl) ?_
          exact zr_iret hx hb hr hlocks hB hg hw hS d_M_fault_139
      · have hB := hB.1 cd
        refine zr_aload_n (o := some b) hx hb d_M_fault_82 rfl (lv_at hl 0 rfl) ?_
        have hsr := And.left hB
        refine zr_callV (ci := 9) (As := []) (rest := []) hx hb hml hC hwk hw hS hl.1 (c_M_isWhole l D B b σ _ hB) mk_M_isWhole mi_M_isWhole ms_M_isWhole ml_M_178 ⟨Nat.le_of_ble_eq_true rfl, Nat.le_of_ble_eq_true rfl⟩ rfl hsr rfl (cat_8 cat_n (Nat.le_of_ble_eq_true rfl)) d_M_fault_83 ⟨Nat.le_refl _, Nat.le_refl _⟩ rfl (fun v σ12 H locs hp hgn hw hS => ?_)
        have hg := hg.tr hgn
        have hsb := hgn _ _ hsb
        obtain ⟨r13, rfl, hB⟩ := hp
        refine W.eq (g2 := F0 m 86 ls [.int r13]) rfl ?_
        refine lv_if_eq (tgt := 130) hx hb d_M_fault_86 (by decide) (fun cd => ?_) (fun cd => ?_)
        · have hB := hB.1 cd
          refine zr_aload_n (o := some b) hx hb d_M_fault_130 rfl (lv_at hl 0 rfl) ?_
          refine lv_iload_n hx hb d_M_fault_131 rfl (lv_at hl 3 rfl) ?_
          have hsr := And.left hB
          refine zr_callV (ci := 9) (As := [.int x3]) (rest := []) hx hb hml hC hwk hw hS hl.1 (c_M_takesInSide l D B b x3 σ12 _ hB) mk_M_takesInSide mi_M_takesInSide ms_M_takesInSide ml_M_182 ⟨Nat.le_of_ble_eq_true rfl, Nat.le_of_ble_eq_true rfl⟩ rfl hsr rfl (cat_8 cat_n (Nat.le_of_ble_eq_true rfl)) d_M_fault_132 ⟨Nat.le_refl _, Nat.le_refl _⟩ rfl (fun v σ14 H locs hp hgn hw hS => ?_)
          have hg := hg.tr hgn
          have hsb := hgn _ _ hsb
          obtain ⟨r15, rfl, hB⟩ := hp
          refine W.eq (g2 := F0 m 135 ls [.int r15]) rfl ?_
          refine lv_if_ne (tgt := 140) hx hb d_M_fault_135 (by decide) (fun cd => ?_) (fun cd => ?_)
          · have hB := hB.2 cd
            refine lv_iinc (v := x2 + nI 1) (lv' := [(2, .int (x2 + nI 1)), (0, va_rf (some b)), (1, .int x1), (3, .int x3)]) hx hb d_M_fault_140 hl (k := 2) rfl rfl (by decide) rfl (fun ls hl => ?_)
            refine lv_goto (tgt := 21) hx hb d_M_fault_143 (by decide) ?_
            rw [hK21] at hB
            exact hB _ _ _ hg hw hS (lv_sub hl [1, 2, 0] rfl)
          · have hB := hB.1 cd
            refine lv_iload_n hx hb d_M_fault_138 rfl (lv_at hl 2 rfl) ?_
            exact zr_iret hx hb hr hlocks hB hg hw hS d_M_fault_139
        · have hB := hB.2 cd
          refine lv_iconst (v := nI 0) hx hb d_M_fault_89 (by decide) ?_
          refine lv_istore_n (lv' := [(1, .int (nI 0)), (0, va_rf (some b)), (2, .int x2), (3, .int x3)]) hx hb d_M_fault_90 rfl hl (by decide) rfl (fun ls hl => ?_)
          refine zr_aload_n (o := some b) hx hb d_M_fault_91 rfl (lv_at hl 1 rfl) ?_
          refine lv_dup hx hb d_M_fault_92 (va_rf_cat _) ?_
          refine zr_get (v := .int (s_i σ12 b 18)) hx hb hC hw rfl hsb fl_M_172 rfl d_M_fault_93 ?_
          refine lv_iconst (v := nI 1) hx hb d_M_fault_96 (by decide) ?_
          refine lv_iadd hx hb d_M_fault_97 ?_
          refine zr_putI hx hb hC hw hS rfl hsb fl_M_172 rfl rfl d_M_fault_98 (fun H locs hw hS => ?_)
          refine zr_aload_n (o := some b) hx hb d_M_fault_101 rfl (lv_at hl 1 rfl) ?_
          refine zr_get (v := va_rf (s_r (w_i σ12 b 18 ((s_i σ12 b 18) + (nI 1))) b 17)) hx hb hC hw rfl hsb fl_M_46 rfl d_M_fault_102 ?_
          refine lv_bipush (v := nI 33) hx hb d_M_fault_105 (by decide) ?_
          refine zr_aload_n (o := some b) hx hb d_M_fault_107 rfl (lv_at hl 1 rfl) ?_
          refine zr_get (v := .int (s_i (w_i σ12 b 18 ((s_i σ12 b 18) + (nI 1))) b 18)) hx hb hC hw rfl hsb fl_M_172 rfl d_M_fault_108 ?_
          refine lv_imul hx hb d_M_fault_111 ?_
          refine lv_iconst (v := nI 1) hx hb d_M_fault_112 (by decide) ?_
          obtain ⟨q16, n16, j17, ho, hs, hin, hj, hB⟩ := hB
          refine zr_iast hx hb hw hS ho hs hin hj d_M_fault_113 (fun H locs hw hS => ?_)
          refine zr_aload_n (o := some b) hx hb d_M_fault_114 rfl (lv_at hl 1 rfl) ?_
          refine lv_bipush (v := nI 33) hx hb d_M_fault_115 (by decide) ?_
          refine zr_aload_n (o := some b) hx hb d_M_fault_117 rfl (lv_at hl 1 rfl) ?_
          refine zr_get (v := .int (s_i (w_i (w_i σ12 b 18 ((s_i σ12 b 18) + (nI 1))) q16 j17 (nI 1)) b 18)) hx hb hC hw rfl hsb fl_M_172 rfl d_M_fault_118 ?_
          refine lv_imul hx hb d_M_fault_121 ?_
          refine lv_iconst (v := nI 1) hx hb d_M_fault_122 (by decide) ?_
          refine lv_iadd hx hb d_M_fault_123 ?_
          have hsr := And.left hB
          refine zr_callV (ci := 9) (As := [.int (((nI 33) * (s_i (w_i (w_i σ12 b 18 ((s_i σ12 b 18) + (nI 1))) q16 j17 (nI 1)) b 18)) + (nI 1))]) (rest := []) hx hb hml hC hwk hw hS hl.1 (c_M_beginsSide l D B b (((nI 33) * (s_i (w_i (w_i σ12 b 18 ((s_i σ12 b 18) + (nI 1))) q16 j17 (nI 1)) b 18)) + (nI 1)) (w_i (w_i σ12 b 18 ((s_i σ12 b 18) + (nI 1))) q16 j17 (nI 1)) _ hB) mk_M_beginsSide mi_M_beginsSide ms_M_beginsSide ml_M_175 ⟨Nat.le_of_ble_eq_true rfl, Nat.le_of_ble_eq_true rfl⟩ rfl hsr rfl (cat_8 cat_n (Nat.le_of_ble_eq_true rfl)) d_M_fault_124 ⟨Nat.le_refl _, Nat.le_refl _⟩ rfl (fun v σ18 H locs hp hgn hw hS => ?_)
          have hg := hg.tr hgn
          have hsb := hgn _ _ hsb
          obtain ⟨rfl, hB⟩ := hp
          refine W.eq (g2 := F0 m 127 ls []) rfl ?_
          refine lv_goto (tgt := 140) hx hb d_M_fault_127 (by decide) ?_
          refine lv_iinc (v := x2 + nI 1) (lv' := [(2, .int (x2 + nI 1)), (1, .int (nI 0)), (0, va_rf (some b)), (3, .int x3)]) hx hb d_M_fault_140 hl (k := 2) rfl rfl (by decide) rfl (fun ls hl => ?_)
          refine lv_goto (tgt := 21) hx hb d_M_fault_143 (by decide) ?_
          rw [hK21] at hB
          exact hB _ _ _ hg hw hS (lv_sub hl [2, 1, 0] rfl)

set_option maxHeartbeats 4000000 in
set_option maxRecDepth 100000 in
theorem c_M_lawAt (l : Launch) (D : va_G) (B : Nat) (x0 : Int32) (σ : St) (Q : Int32 → St → Prop) (h : P_M_lawAt x0 σ Q) : zM l y_M_lawAt b_M_lawAt 1 (some (.int)) (rm_M_lawAt) D B [.int x0] σ (zQi Q) := by
  refine zM.ofW (own := "LawWorldsModel") (by decide +kernel) rfl (Nat.le_of_ble_eq_true rfl) ?_
  intro p e s m args below meth c ls hx hb hml hr hlocks hname hC hwk hw hS hl
  obtain ⟨σ0, eσ⟩ : ∃ z, z = σ := ⟨_, rfl⟩
  have hg : gr σ0 σ := by rw [eσ]; exact gr.rf
  have hl : lv_has ls 1 [(0, .int x0)] := hl
  have hB := h
  rw [← eσ]
  skip
  refine lv_iconst (v := nI 3) hx hb d_M_lawAt_0 (by decide) ?_
  refine lv_bipush (v := nI 33) hx hb d_M_lawAt_1 (by decide) ?_
  refine lv_iload_n hx hb d_M_lawAt_3 rfl (lv_at hl 0 rfl) ?_
  refine lv_imul hx hb d_M_lawAt_4 ?_
  refine lv_iadd hx hb d_M_lawAt_5 ?_
  exact zr_iret hx hb hr hlocks hB hg hw hS d_M_lawAt_6

set_option maxHeartbeats 4000000 in
set_option maxRecDepth 100000 in
theorem c_M_addLaws (l : Launch) (D : va_G) (B : Nat) (b : Nat) (σ : St) (Q : Int32 → St → Prop) (h : P_M_addLaws b σ Q) : zM l y_M_addLaws b_M_addLaws 3 (some (.int)) (rm_M_addLaws) D B [.ref b] σ (zQi Q) := by
  refine zM.ofW (own := "LawWorldsModel") (by decide +kernel) rfl (Nat.le_of_ble_eq_true rfl) ?_
  intro p e s m args below meth c ls hx hb hml hr hlocks hname hC hwk hw hS hl
  obtain ⟨σ0, eσ⟩ : ∃ z, z = σ := ⟨_, rfl⟩
  have hg : gr σ0 σ := by rw [eσ]; exact gr.rf
  have hl : lv_has ls 3 [(0, va_rf (some b))] := hl
  obtain ⟨hsb, hB⟩ := h
  have hsb0 : s_s σ0 b = some (.inl 9) := by rw [eσ]; exact hsb
  rw [← eσ]
  skip
  obtain ⟨K40, hK40⟩ : ∃ K : Int32 → St → Prop, K = (fun (x2 : Int32) (σ : St) => ∀ (H : Heap) (locs : List Loc) (ls : Array Slot), gr σ0 σ → wh D B σ s H → va_S (zA B) s.heap H locs → lv_has ls 3 [(0, va_rf (some b)), (2, .int x2)] → W p l e (rm_M_addLaws) s m args below meth c H locs 0 0 (MQ below (zQ D B σ0 (zQi Q)) args s (rm_M_addLaws).cells (rm_M_addLaws).slots (zA B)) (F0 m 40 ls [])) := ⟨_, rfl⟩
  refine (fun hB => ?_) (hB K40 ?_)
  · skip
    refine zr_aload_n (o := some b) hx hb d_M_addLaws_0 rfl (lv_at hl 0 rfl) ?_
    have hsr := And.left hB
    refine zr_callV (ci := 9) (As := []) (rest := []) hx hb hml hC hwk hw hS hl.1 (c_M_fault l D B b σ _ hB) mk_M_fault mi_M_fault ms_M_fault ml_M_185 ⟨Nat.le_of_ble_eq_true rfl, Nat.le_of_ble_eq_true rfl⟩ rfl hsr rfl (cat_8 cat_n (Nat.le_of_ble_eq_true rfl)) d_M_addLaws_1 ⟨Nat.le_refl _, Nat.le_refl _⟩ rfl (fun v σ15 H locs hp hgn hw hS => ?_)
    have hg := hg.tr hgn
    have hsb := hgn _ _ hsb
    obtain ⟨r16, rfl, hB⟩ := hp
    refine W.eq (g2 := F0 m 4 ls [.int r16]) rfl ?_
    refine lv_istore_n (lv' := [(1, .int r16), (0, va_rf (some b))]) hx hb d_M_addLaws_4 rfl hl (by decide) rfl (fun ls hl => ?_)
    refine lv_iload_n hx hb d_M_addLaws_5 rfl (lv_at hl 0 rfl) ?_
    refine lv_bipush (v := (-5)) hx hb d_M_addLaws_6 (by decide) ?_
    refine lv_icmp_eq (tgt := 16) hx hb d_M_addLaws_8 (by decide) (fun cd => ?_) (fun cd => ?_)
    · have hB := hB.1 cd
      refine zr_aload_n (o := some b) hx hb d_M_addLaws_16 rfl (lv_at hl 1 rfl) ?_
      refine zr_get (v := va_rf (s_r σ15 b 0)) hx hb hC hw rfl hsb fl_M_7 rfl d_M_addLaws_17 ?_
      refine lv_iconst (v := nI 2) hx hb d_M_addLaws_20 (by decide) ?_
      obtain ⟨q17, n17, j18, ho, hs, hin, hj, hB⟩ := hB
      refine zr_iald hx hb hw ho hs hin hj d_M_addLaws_21 ?_
      refine zr_aload_n (o := some b) hx hb d_M_addLaws_22 rfl (lv_at hl 1 rfl) ?_
      refine zr_get (v := .int (s_i σ15 b 18)) hx hb hC hw rfl hsb fl_M_172 rfl d_M_addLaws_23 ?_
      refine lv_iadd hx hb d_M_addLaws_26 ?_
      refine lv_iconst (v := nI 5) hx hb d_M_addLaws_27 (by decide) ?_
      refine lv_icmp_le (tgt := 34) hx hb d_M_addLaws_28 (by decide) (fun cd => ?_) (fun cd => ?_)
      · have hB := hB.1 cd
        refine zr_aload_n (o := some b) hx hb d_M_addLaws_34 rfl (lv_at hl 1 rfl) ?_
        have hsr := And.left hB
        refine zr_callV (ci := 9) (As := []) (rest := []) hx hb hml hC hwk hw hS hl.1 (c_M_remember l D B b σ15 _ hB) mk_M_remember mi_M_remember ms_M_remember ml_M_128 ⟨Nat.le_of_ble_eq_true rfl, Nat.le_of_ble_eq_true rfl⟩ rfl hsr rfl (cat_8 cat_n (Nat.le_of_ble_eq_true rfl)) d_M_addLaws_35 ⟨Nat.le_refl _, Nat.le_refl _⟩ rfl (fun v σ19 H locs hp hgn hw hS => ?_)
        have hg := hg.tr hgn
        have hsb := hgn _ _ hsb
        obtain ⟨rfl, hB⟩ := hp
        refine W.eq (g2 := F0 m 38 ls []) rfl ?_
        refine lv_iconst (v := nI 0) hx hb d_M_addLaws_38 (by decide) ?_
        refine lv_istore_n (lv' := [(2, .int (nI 0)), (1, .int r16), (0, va_rf (some b))]) hx hb d_M_addLaws_39 rfl hl (by decide) rfl (fun ls hl => ?_)
        rw [hK40] at hB
        exact hB _ _ _ hg hw hS (lv_sub hl [2, 0] rfl)
      · have hB := hB.2 cd
        refine lv_bipush (v := (-3)) hx hb d_M_addLaws_31 (by decide) ?_
        exact zr_iret hx hb hr hlocks hB hg hw hS d_M_addLaws_33
    · have hB := hB.2 cd
      refine lv_bipush (v := (-100)) hx hb d_M_addLaws_11 (by decide) ?_
      refine lv_iload_n hx hb d_M_addLaws_13 rfl (lv_at hl 0 rfl) ?_
      refine lv_isub hx hb d_M_addLaws_14 ?_
      exact zr_iret hx hb hr hlocks hB hg hw hS d_M_addLaws_15
  · intro x2 σ hB
    rw [hK40]
    intro H locs ls hg hw hS hl
    have hsb := hg _ _ hsb0
    refine lv_iload_n hx hb d_M_addLaws_40 rfl (lv_at hl 1 rfl) ?_
    refine lv_bipush (v := nI 33) hx hb d_M_addLaws_41 (by decide) ?_
    refine zr_aload_n (o := some b) hx hb d_M_addLaws_43 rfl (lv_at hl 0 rfl) ?_
    refine zr_get (v := .int (s_i σ b 18)) hx hb hC hw rfl hsb fl_M_172 rfl d_M_addLaws_44 ?_
    refine lv_imul hx hb d_M_addLaws_47 ?_
    refine lv_icmp_ge (tgt := 79) hx hb d_M_addLaws_48 (by decide) (fun cd => ?_) (fun cd => ?_)
    · have hB := hB.1 cd
      refine zr_aload_n (o := some b) hx hb d_M_addLaws_79 rfl (lv_at hl 0 rfl) ?_
      refine zr_get (v := va_rf (s_r σ b 0)) hx hb hC hw rfl hsb fl_M_7 rfl d_M_addLaws_80 ?_
      refine lv_iconst (v := nI 2) hx hb d_M_addLaws_83 (by decide) ?_
      refine lv_dup2_11 hx hb d_M_addLaws_84 rfl (va_rf_cat _) ?_
      obtain ⟨q1, n1, j2, ho, hs, hin, hj, hB⟩ := hB
      refine zr_iald hx hb hw ho hs hin hj d_M_addLaws_85 ?_
      refine zr_aload_n (o := some b) hx hb d_M_addLaws_86 rfl (lv_at hl 0 rfl) ?_
      refine zr_get (v := .int (s_i σ b 18)) hx hb hC hw rfl hsb fl_M_172 rfl d_M_addLaws_87 ?_
      refine lv_iadd hx hb d_M_addLaws_90 ?_
      obtain ⟨q3, n3, j4, ho, hs, hin, hj, hB⟩ := hB
      refine zr_iast hx hb hw hS ho hs hin hj d_M_addLaws_91 (fun H locs hw hS => ?_)
      refine zr_aload_n (o := some b) hx hb d_M_addLaws_92 rfl (lv_at hl 0 rfl) ?_
      refine zr_aload_n (o := some b) hx hb d_M_addLaws_93 rfl (lv_at hl 0 rfl) ?_
      refine zr_get (v := .int (s_i (w_i σ q3 j4 ((s_i σ q1 j2) + (s_i σ b 18))) b 18)) hx hb hC hw rfl hsb fl_M_172 rfl d_M_addLaws_94 ?_
      have hsr := And.left hB
      refine zr_callV (ci := 9) (As := [.int (s_i (w_i σ q3 j4 ((s_i σ q1 j2) + (s_i σ b 18))) b 18)]) (rest := []) hx hb hml hC hwk hw hS hl.1 (c_M_acted l D B b (s_i (w_i σ q3 j4 ((s_i σ q1 j2) + (s_i σ b 18))) b 18) (w_i σ q3 j4 ((s_i σ q1 j2) + (s_i σ b 18))) _ hB) mk_M_acted mi_M_acted ms_M_acted ml_M_131 ⟨Nat.le_of_ble_eq_true rfl, Nat.le_of_ble_eq_true rfl⟩ rfl hsr rfl (cat_8 cat_n (Nat.le_of_ble_eq_true rfl)) d_M_addLaws_97 ⟨Nat.le_refl _, Nat.le_refl _⟩ rfl (fun v σ5 H locs hp hgn hw hS => ?_)
      have hg := hg.tr hgn
      have hsb := hgn _ _ hsb
      obtain ⟨r6, rfl, hB⟩ := hp
      refine W.eq (g2 := F0 m 100 ls [.int r6]) rfl ?_
      exact zr_iret hx hb hr hlocks hB hg hw hS d_M_addLaws_100
    · have hB := hB.2 cd
      refine zr_aload_n (o := some b) hx hb d_M_addLaws_51 rfl (lv_at hl 0 rfl) ?_
      refine zr_get (v := va_rf (s_r σ b 0)) hx hb hC hw rfl hsb fl_M_7 rfl d_M_addLaws_52 ?_
      refine zr_aload_n (o := some b) hx hb d_M_addLaws_55 rfl (lv_at hl 0 rfl) ?_
      refine zr_get (v := va_rf (s_r σ b 0)) hx hb hC hw rfl hsb fl_M_7 rfl d_M_addLaws_56 ?_
      refine lv_iconst (v := nI 2) hx hb d_M_addLaws_59 (by decide) ?_
      obtain ⟨q7, n7, j8, ho, hs, hin, hj, hB⟩ := hB
      refine zr_iald hx hb hw ho hs hin hj d_M_addLaws_60 ?_
      refine zr_callS (As := [.int (s_i σ q7 j8)]) (rest := [va_rf (s_r σ b 0)]) hx hb hml hC hwk hw hS hl.1 (c_M_lawAt l D B (s_i σ q7 j8) σ _ hB) mk_M_lawAt mt_M_lawAt ml_M_86 ⟨Nat.le_of_ble_eq_true rfl, Nat.le_of_ble_eq_true rfl⟩ rfl (cat_8 (cat_c (va_rf_cat _) cat_n) (Nat.le_of_ble_eq_true rfl)) d_M_addLaws_61 ⟨Nat.le_refl _, Nat.le_refl _⟩ rfl (fun v σ9 H locs hp hgn hw hS => ?_)
      have hg := hg.tr hgn
      have hsb := hgn _ _ hsb
      obtain ⟨r10, rfl, hB⟩ := hp
      refine W.eq (g2 := F0 m 64 ls [.int r10, va_rf (s_r σ b 0)]) rfl ?_
      refine lv_iload_n hx hb d_M_addLaws_64 rfl (lv_at hl 1 rfl) ?_
      refine lv_iadd hx hb d_M_addLaws_65 ?_
      refine zr_aload_n (o := some b) hx hb d_M_addLaws_66 rfl (lv_at hl 0 rfl) ?_
      refine zr_get (v := va_rf (s_r σ9 b 17)) hx hb hC hw rfl hsb fl_M_46 rfl d_M_addLaws_67 ?_
      refine lv_iload_n hx hb d_M_addLaws_70 rfl (lv_at hl 1 rfl) ?_
      obtain ⟨q11, n11, j12, ho, hs, hin, hj, hB⟩ := hB
      refine zr_iald hx hb hw ho hs hin hj d_M_addLaws_71 ?_
      obtain ⟨q13, n13, j14, ho, hs, hin, hj, hB⟩ := hB
      refine zr_iast hx hb hw hS ho hs hin hj d_M_addLaws_72 (fun H locs hw hS => ?_)
      refine lv_iinc (v := x2 + nI 1) (lv' := [(2, .int (x2 + nI 1)), (0, va_rf (some b))]) hx hb d_M_addLaws_73 hl (k := 1) rfl rfl (by decide) rfl (fun ls hl => ?_)
      refine lv_goto (tgt := 40) hx hb d_M_addLaws_76 (by decide) ?_
      rw [hK40] at hB
      exact hB _ _ _ hg hw hS (lv_sub hl [1, 0] rfl)

set_option maxHeartbeats 4000000 in
set_option maxRecDepth 100000 in
theorem c_M_isLaw (l : Launch) (D : va_G) (B : Nat) (b : Nat) (x1 : Int32) (σ : St) (Q : Int32 → St → Prop) (h : P_M_isLaw b x1 σ Q) : zM l y_M_isLaw b_M_isLaw 2 (some (.boolean)) (rm_M_isLaw) D B [.ref b, .int x1] σ (zQi Q) := by
  refine zM.ofW (own := "LawWorldsModel") (by decide +kernel) rfl (Nat.le_of_ble_eq_true rfl) ?_
  intro p e s m args below meth c ls hx hb hml hr hlocks hname hC hwk hw hS hl
  obtain ⟨σ0, eσ⟩ : ∃ z, z = σ := ⟨_, rfl⟩
  have hg : gr σ0 σ := by rw [eσ]; exact gr.rf
  have hl : lv_has ls 2 [(0, va_rf (some b)), (1, .int x1)] := hl
  obtain ⟨hsb, hB⟩ := h
  have hsb0 : s_s σ0 b = some (.inl 9) := by rw [eσ]; exact hsb
  rw [← eσ]
  skip
  refine lv_iload_n hx hb d_M_isLaw_0 rfl (lv_at hl 1 rfl) ?_
  refine lv_i2l hx hb d_M_isLaw_1 rfl ?_
  refine lv_lconst (v := lN 0) hx hb d_M_isLaw_2 (by decide) ?_
  refine zr_aload_n (o := some b) hx hb d_M_isLaw_3 rfl (lv_at hl 0 rfl) ?_
  refine zr_get (v := va_rf (s_r σ b 0)) hx hb hC hw rfl hsb fl_M_7 rfl d_M_isLaw_4 ?_
  refine lv_iconst (v := nI 2) hx hb d_M_isLaw_7 (by decide) ?_
  obtain ⟨q1, n1, j2, ho, hs, hin, hj, hB⟩ := hB
  refine zr_iald hx hb hw ho hs hin hj d_M_isLaw_8 ?_
  refine lv_i2l hx hb d_M_isLaw_9 rfl ?_
  refine lv_lconst (v := lN 1) hx hb d_M_isLaw_10 (by decide) ?_
  refine lv_lsub hx hb d_M_isLaw_11 ?_
  refine zr_callS (As := [.long (x1.toInt64), .long (lN 0), .long (((s_i σ q1 j2).toInt64) - (lN 1))]) (rest := []) hx hb hml hC hwk hw hS hl.1 (c_M_in l D B (x1.toInt64) (lN 0) (((s_i σ q1 j2).toInt64) - (lN 1)) σ _ hB) mk_M_in mt_M_in ml_M_69 ⟨Nat.le_of_ble_eq_true rfl, Nat.le_of_ble_eq_true rfl⟩ rfl (cat_8 cat_n (Nat.le_of_ble_eq_true rfl)) d_M_isLaw_12 ⟨Nat.le_refl _, Nat.le_refl _⟩ rfl (fun v σ3 H locs hp hgn hw hS => ?_)
  have hg := hg.tr hgn
  have hsb := hgn _ _ hsb
  obtain ⟨r4, rfl, hB⟩ := hp
  refine W.eq (g2 := F0 m 15 ls [.int r4]) rfl ?_
  exact zr_zret hx hb hr hlocks hB.1 hB.2 hg hw hS d_M_isLaw_15

set_option maxHeartbeats 4000000 in
set_option maxRecDepth 100000 in
theorem c_M_removeLaw (l : Launch) (D : va_G) (B : Nat) (b : Nat) (x1 : Int32) (σ : St) (Q : Int32 → St → Prop) (h : P_M_removeLaw b x1 σ Q) : zM l y_M_removeLaw b_M_removeLaw 3 (some (.int)) (rm_M_removeLaw) D B [.ref b, .int x1] σ (zQi Q) := by
  refine zM.ofW (own := "LawWorldsModel") (by decide +kernel) rfl (Nat.le_of_ble_eq_true rfl) ?_
  intro p e s m args below meth c ls hx hb hml hr hlocks hname hC hwk hw hS hl
  obtain ⟨σ0, eσ⟩ : ∃ z, z = σ := ⟨_, rfl⟩
  have hg : gr σ0 σ := by rw [eσ]; exact gr.rf
  have hl : lv_has ls 3 [(0, va_rf (some b)), (1, .int x1)] := hl
  obtain ⟨hsb, hB⟩ := h
  have hsb0 : s_s σ0 b = some (.inl 9) := by rw [eσ]; exact hsb
  rw [← eσ]
  skip
  obtain ⟨K29, hK29⟩ : ∃ K : Int32 → St → Prop, K = (fun (x2 : Int32) (σ : St) => ∀ (H : Heap) (locs : List Loc) (ls : Array Slot), gr σ0 σ → wh D B σ s H → va_S (zA B) s.heap H locs → lv_has ls 3 [(0, va_rf (some b)), (2, .int x2)] → W p l e (rm_M_removeLaw) s m args below meth c H locs 0 0 (MQ below (zQ D B σ0 (zQi Q)) args s (rm_M_removeLaw).cells (rm_M_removeLaw).slots (zA B)) (F0 m 29 ls [])) := ⟨_, rfl⟩
  refine (fun hB => ?_) (hB K29 ?_)
  · skip
    refine zr_aload_n (o := some b) hx hb d_M_removeLaw_0 rfl (lv_at hl 0 rfl) ?_
    refine lv_iload_n hx hb d_M_removeLaw_1 rfl (lv_at hl 1 rfl) ?_
    have hsr := And.left hB
    refine zr_callV (ci := 9) (As := [.int x1]) (rest := []) hx hb hml hC hwk hw hS hl.1 (c_M_isLaw l D B b x1 σ _ hB) mk_M_isLaw mi_M_isLaw ms_M_isLaw ml_M_189 ⟨Nat.le_of_ble_eq_true rfl, Nat.le_of_ble_eq_true rfl⟩ rfl hsr rfl (cat_8 cat_n (Nat.le_of_ble_eq_true rfl)) d_M_removeLaw_2 ⟨Nat.le_refl _, Nat.le_refl _⟩ rfl (fun v σ13 H locs hp hgn hw hS => ?_)
    have hg := hg.tr hgn
    have hsb := hgn _ _ hsb
    obtain ⟨r14, rfl, hB⟩ := hp
    refine W.eq (g2 := F0 m 5 ls [.int r14]) rfl ?_
    refine lv_if_ne (tgt := 10) hx hb d_M_removeLaw_5 (by decide) (fun cd => ?_) (fun cd => ?_)
    · have hB := hB.2 cd
      refine zr_aload_n (o := some b) hx hb d_M_removeLaw_10 rfl (lv_at hl 0 rfl) ?_
      have hsr := And.left hB
      refine zr_callV (ci := 9) (As := []) (rest := []) hx hb hml hC hwk hw hS hl.1 (c_M_remember l D B b σ13 _ hB) mk_M_remember mi_M_remember ms_M_remember ml_M_128 ⟨Nat.le_of_ble_eq_true rfl, Nat.le_of_ble_eq_true rfl⟩ rfl hsr rfl (cat_8 cat_n (Nat.le_of_ble_eq_true rfl)) d_M_removeLaw_11 ⟨Nat.le_refl _, Nat.le_refl _⟩ rfl (fun v σ15 H locs hp hgn hw hS => ?_)
      have hg := hg.tr hgn
      have hsb := hgn _ _ hsb
      obtain ⟨rfl, hB⟩ := hp
      refine W.eq (g2 := F0 m 14 ls []) rfl ?_
      refine zr_aload_n (o := some b) hx hb d_M_removeLaw_14 rfl (lv_at hl 0 rfl) ?_
      refine zr_get (v := va_rf (s_r σ15 b 0)) hx hb hC hw rfl hsb fl_M_7 rfl d_M_removeLaw_15 ?_
      refine lv_iconst (v := nI 2) hx hb d_M_removeLaw_18 (by decide) ?_
      refine lv_dup2_11 hx hb d_M_removeLaw_19 rfl (va_rf_cat _) ?_
      obtain ⟨q16, n16, j17, ho, hs, hin, hj, hB⟩ := hB
      refine zr_iald hx hb hw ho hs hin hj d_M_removeLaw_20 ?_
      refine lv_iconst (v := nI 1) hx hb d_M_removeLaw_21 (by decide) ?_
      refine lv_isub hx hb d_M_removeLaw_22 ?_
      obtain ⟨q18, n18, j19, ho, hs, hin, hj, hB⟩ := hB
      refine zr_iast hx hb hw hS ho hs hin hj d_M_removeLaw_23 (fun H locs hw hS => ?_)
      refine lv_iload_n hx hb d_M_removeLaw_24 rfl (lv_at hl 1 rfl) ?_
      refine zr_callS (As := [.int x1]) (rest := []) hx hb hml hC hwk hw hS hl.1 (c_M_lawAt l D B x1 (w_i σ15 q18 j19 ((s_i σ15 q16 j17) - (nI 1))) _ hB) mk_M_lawAt mt_M_lawAt ml_M_86 ⟨Nat.le_of_ble_eq_true rfl, Nat.le_of_ble_eq_true rfl⟩ rfl (cat_8 cat_n (Nat.le_of_ble_eq_true rfl)) d_M_removeLaw_25 ⟨Nat.le_refl _, Nat.le_refl _⟩ rfl (fun v σ20 H locs hp hgn hw hS => ?_)
      have hg := hg.tr hgn
      have hsb := hgn _ _ hsb
      obtain ⟨r21, rfl, hB⟩ := hp
      refine W.eq (g2 := F0 m 28 ls [.int r21]) rfl ?_
      refine lv_istore_n (lv' := [(2, .int r21), (0, va_rf (some b)), (1, .int x1)]) hx hb d_M_removeLaw_28 rfl hl (by decide) rfl (fun ls hl => ?_)
      rw [hK29] at hB
      exact hB _ _ _ hg hw hS (lv_sub hl [1, 0] rfl)
    · have hB := hB.1 cd
      refine lv_iconst (v := (-1)) hx hb d_M_removeLaw_8 (by decide) ?_
      exact zr_iret hx hb hr hlocks hB hg hw hS d_M_removeLaw_9
  · intro x2 σ hB
    rw [hK29]
    intro H locs ls hg hw hS hl
    have hsb := hg _ _ hsb0
    refine lv_iload_n hx hb d_M_removeLaw_29 rfl (lv_at hl 1 rfl) ?_
    refine zr_aload_n (o := some b) hx hb d_M_removeLaw_30 rfl (lv_at hl 0 rfl) ?_
    refine zr_get (v := va_rf (s_r σ b 0)) hx hb hC hw rfl hsb fl_M_7 rfl d_M_removeLaw_31 ?_
    refine lv_iconst (v := nI 2) hx hb d_M_removeLaw_34 (by decide) ?_
    obtain ⟨q1, n1, j2, ho, hs, hin, hj, hB⟩ := hB
    refine zr_iald hx hb hw ho hs hin hj d_M_removeLaw_35 ?_
    refine zr_callS (As := [.int (s_i σ q1 j2)]) (rest := [.int x2]) hx hb hml hC hwk hw hS hl.1 (c_M_lawAt l D B (s_i σ q1 j2) σ _ hB) mk_M_lawAt mt_M_lawAt ml_M_86 ⟨Nat.le_of_ble_eq_true rfl, Nat.le_of_ble_eq_true rfl⟩ rfl (cat_8 (cat_c rfl cat_n) (Nat.le_of_ble_eq_true rfl)) d_M_removeLaw_36 ⟨Nat.le_refl _, Nat.le_refl _⟩ rfl (fun v σ3 H locs hp hgn hw hS => ?_)
    have hg := hg.tr hgn
    have hsb := hgn _ _ hsb
    obtain ⟨r4, rfl, hB⟩ := hp
    refine W.eq (g2 := F0 m 39 ls [.int r4, .int x2]) rfl ?_
    refine lv_icmp_ge (tgt := 63) hx hb d_M_removeLaw_39 (by decide) (fun cd => ?_) (fun cd => ?_)
    · have hB := hB.1 cd
      refine zr_aload_n (o := some b) hx hb d_M_removeLaw_63 rfl (lv_at hl 0 rfl) ?_
      refine zr_aload_n (o := some b) hx hb d_M_removeLaw_64 rfl (lv_at hl 0 rfl) ?_
      refine zr_get (v := va_rf (s_r σ3 b 0)) hx hb hC hw rfl hsb fl_M_7 rfl d_M_removeLaw_65 ?_
      refine lv_iconst (v := nI 2) hx hb d_M_removeLaw_68 (by decide) ?_
      obtain ⟨q5, n5, j6, ho, hs, hin, hj, hB⟩ := hB
      refine zr_iald hx hb hw ho hs hin hj d_M_removeLaw_69 ?_
      have hsr := And.left hB
      refine zr_callV (ci := 9) (As := [.int (s_i σ3 q5 j6)]) (rest := []) hx hb hml hC hwk hw hS hl.1 (c_M_acted l D B b (s_i σ3 q5 j6) σ3 _ hB) mk_M_acted mi_M_acted ms_M_acted ml_M_131 ⟨Nat.le_of_ble_eq_true rfl, Nat.le_of_ble_eq_true rfl⟩ rfl hsr rfl (cat_8 cat_n (Nat.le_of_ble_eq_true rfl)) d_M_removeLaw_70 ⟨Nat.le_refl _, Nat.le_refl _⟩ rfl (fun v σ7 H locs hp hgn hw hS => ?_)
      have hg := hg.tr hgn
      have hsb := hgn _ _ hsb
      obtain ⟨r8, rfl, hB⟩ := hp
      refine W.eq (g2 := F0 m 73 ls [.int r8]) rfl ?_
      exact zr_iret hx hb hr hlocks hB hg hw hS d_M_removeLaw_73
    · have hB := hB.2 cd
      refine zr_aload_n (o := some b) hx hb d_M_removeLaw_42 rfl (lv_at hl 0 rfl) ?_
      refine zr_get (v := va_rf (s_r σ3 b 0)) hx hb hC hw rfl hsb fl_M_7 rfl d_M_removeLaw_43 ?_
      refine lv_iload_n hx hb d_M_removeLaw_46 rfl (lv_at hl 1 rfl) ?_
      refine zr_aload_n (o := some b) hx hb d_M_removeLaw_47 rfl (lv_at hl 0 rfl) ?_
      refine zr_get (v := va_rf (s_r σ3 b 0)) hx hb hC hw rfl hsb fl_M_7 rfl d_M_removeLaw_48 ?_
      refine lv_iload_n hx hb d_M_removeLaw_51 rfl (lv_at hl 1 rfl) ?_
      refine lv_bipush (v := nI 33) hx hb d_M_removeLaw_52 (by decide) ?_
      refine lv_iadd hx hb d_M_removeLaw_54 ?_
      obtain ⟨q9, n9, j10, ho, hs, hin, hj, hB⟩ := hB
      refine zr_iald hx hb hw ho hs hin hj d_M_removeLaw_55 ?_
      obtain ⟨q11, n11, j12, ho, hs, hin, hj, hB⟩ := hB
      refine zr_iast hx hb hw hS ho hs hin hj d_M_removeLaw_56 (fun H locs hw hS => ?_)
      refine lv_iinc (v := x2 + nI 1) (lv' := [(2, .int (x2 + nI 1)), (0, va_rf (some b))]) hx hb d_M_removeLaw_57 hl (k := 1) rfl rfl (by decide) rfl (fun ls hl => ?_)
      refine lv_goto (tgt := 29) hx hb d_M_removeLaw_60 (by decide) ?_
      rw [hK29] at hB
      exact hB _ _ _ hg hw hS (lv_sub hl [1, 0] rfl)

set_option maxHeartbeats 4000000 in
set_option maxRecDepth 100000 in
theorem c_M_isOn (l : Launch) (D : va_G) (B : Nat) (b : Nat) (x1 : Int32) (σ : St) (Q : Int32 → St → Prop) (h : P_M_isOn b x1 σ Q) : zM l y_M_isOn b_M_isOn 2 (some (.boolean)) (rm_M_isOn) D B [.ref b, .int x1] σ (zQi Q) := by
  refine zM.ofW (own := "LawWorldsModel") (by decide +kernel) rfl (Nat.le_of_ble_eq_true rfl) ?_
  intro p e s m args below meth c ls hx hb hml hr hlocks hname hC hwk hw hS hl
  obtain ⟨σ0, eσ⟩ : ∃ z, z = σ := ⟨_, rfl⟩
  have hg : gr σ0 σ := by rw [eσ]; exact gr.rf
  have hl : lv_has ls 2 [(0, va_rf (some b)), (1, .int x1)] := hl
  obtain ⟨hsb, hB⟩ := h
  have hsb0 : s_s σ0 b = some (.inl 9) := by rw [eσ]; exact hsb
  rw [← eσ]
  skip
  refine zr_aload_n (o := some b) hx hb d_M_isOn_0 rfl (lv_at hl 0 rfl) ?_
  refine zr_get (v := va_rf (s_r σ b 0)) hx hb hC hw rfl hsb fl_M_7 rfl d_M_isOn_1 ?_
  refine lv_iload_n hx hb d_M_isOn_4 rfl (lv_at hl 1 rfl) ?_
  refine zr_callS (As := [.int x1]) (rest := [va_rf (s_r σ b 0)]) hx hb hml hC hwk hw hS hl.1 (c_M_lawAt l D B x1 σ _ hB) mk_M_lawAt mt_M_lawAt ml_M_86 ⟨Nat.le_of_ble_eq_true rfl, Nat.le_of_ble_eq_true rfl⟩ rfl (cat_8 (cat_c (va_rf_cat _) cat_n) (Nat.le_of_ble_eq_true rfl)) d_M_isOn_5 ⟨Nat.le_refl _, Nat.le_refl _⟩ rfl (fun v σ1 H locs hp hgn hw hS => ?_)
  have hg := hg.tr hgn
  have hsb := hgn _ _ hsb
  obtain ⟨r2, rfl, hB⟩ := hp
  refine W.eq (g2 := F0 m 8 ls [.int r2, va_rf (s_r σ b 0)]) rfl ?_
  obtain ⟨q3, n3, j4, ho, hs, hin, hj, hB⟩ := hB
  refine zr_iald hx hb hw ho hs hin hj d_M_isOn_8 ?_
  refine lv_iconst (v := nI 1) hx hb d_M_isOn_9 (by decide) ?_
  refine lv_icmp_ne (tgt := 17) hx hb d_M_isOn_10 (by decide) (fun cd => ?_) (fun cd => ?_)
  · have hB := hB.2 cd
    refine lv_iconst (v := nI 0) hx hb d_M_isOn_17 (by decide) ?_
    exact zr_zret hx hb hr hlocks (Or.inl rfl) hB hg hw hS d_M_isOn_18
  · have hB := hB.1 cd
    refine lv_iconst (v := nI 1) hx hb d_M_isOn_13 (by decide) ?_
    refine lv_goto (tgt := 18) hx hb d_M_isOn_14 (by decide) ?_
    exact zr_zret hx hb hr hlocks (Or.inr rfl) hB hg hw hS d_M_isOn_18

set_option maxHeartbeats 4000000 in
set_option maxRecDepth 100000 in
theorem c_M_lawsOn (l : Launch) (D : va_G) (B : Nat) (b : Nat) (σ : St) (Q : Int32 → St → Prop) (h : P_M_lawsOn b σ Q) : zM l y_M_lawsOn b_M_lawsOn 3 (some (.int)) (rm_M_lawsOn) D B [.ref b] σ (zQi Q) := by
  refine zM.ofW (own := "LawWorldsModel") (by decide +kernel) rfl (Nat.le_of_ble_eq_true rfl) ?_
  intro p e s m args below meth c ls hx hb hml hr hlocks hname hC hwk hw hS hl
  obtain ⟨σ0, eσ⟩ : ∃ z, z = σ := ⟨_, rfl⟩
  have hg : gr σ0 σ := by rw [eσ]; exact gr.rf
  have hl : lv_has ls 3 [(0, va_rf (some b))] := hl
  obtain ⟨hsb, hB⟩ := h
  have hsb0 : s_s σ0 b = some (.inl 9) := by rw [eσ]; exact hsb
  rw [← eσ]
  skip
  obtain ⟨K4, hK4⟩ : ∃ K : Int32 → Int32 → St → Prop, K = (fun (x1 : Int32) (x2 : Int32) (σ : St) => ∀ (H : Heap) (locs : List Loc) (ls : Array Slot), gr σ0 σ → wh D B σ s H → va_S (zA B) s.heap H locs → lv_has ls 3 [(0, va_rf (some b)), (1, .int x1), (2, .int x2)] → W p l e (rm_M_lawsOn) s m args below meth c H locs 0 0 (MQ below (zQ D B σ0 (zQi Q)) args s (rm_M_lawsOn).cells (rm_M_lawsOn).slots (zA B)) (F0 m 4 ls [])) := ⟨_, rfl⟩
  refine (fun hB => ?_) (hB K4 ?_)
  · skip
    refine lv_iconst (v := nI 0) hx hb d_M_lawsOn_0 (by decide) ?_
    refine lv_istore_n (lv' := [(1, .int (nI 0)), (0, va_rf (some b))]) hx hb d_M_lawsOn_1 rfl hl (by decide) rfl (fun ls hl => ?_)
    refine lv_iconst (v := nI 0) hx hb d_M_lawsOn_2 (by decide) ?_
    refine lv_istore_n (lv' := [(2, .int (nI 0)), (1, .int (nI 0)), (0, va_rf (some b))]) hx hb d_M_lawsOn_3 rfl hl (by decide) rfl (fun ls hl => ?_)
    rw [hK4] at hB
    exact hB _ _ _ hg hw hS (lv_sub hl [2, 1, 0] rfl)
  · intro x1 x2 σ hB
    rw [hK4]
    intro H locs ls hg hw hS hl
    have hsb := hg _ _ hsb0
    refine lv_iload_n hx hb d_M_lawsOn_4 rfl (lv_at hl 2 rfl) ?_
    refine zr_aload_n (o := some b) hx hb d_M_lawsOn_5 rfl (lv_at hl 0 rfl) ?_
    refine zr_get (v := va_rf (s_r σ b 0)) hx hb hC hw rfl hsb fl_M_7 rfl d_M_lawsOn_6 ?_
    refine lv_iconst (v := nI 2) hx hb d_M_lawsOn_9 (by decide) ?_
    obtain ⟨q1, n1, j2, ho, hs, hin, hj, hB⟩ := hB
    refine zr_iald hx hb hw ho hs hin hj d_M_lawsOn_10 ?_
    refine lv_icmp_ge (tgt := 32) hx hb d_M_lawsOn_11 (by decide) (fun cd => ?_) (fun cd => ?_)
    · have hB := hB.1 cd
      refine lv_iload_n hx hb d_M_lawsOn_32 rfl (lv_at hl 1 rfl) ?_
      exact zr_iret hx hb hr hlocks hB hg hw hS d_M_lawsOn_33
    · have hB := hB.2 cd
      refine lv_iload_n hx hb d_M_lawsOn_14 rfl (lv_at hl 1 rfl) ?_
      refine zr_aload_n (o := some b) hx hb d_M_lawsOn_15 rfl (lv_at hl 0 rfl) ?_
      refine zr_get (v := va_rf (s_r σ b 0)) hx hb hC hw rfl hsb fl_M_7 rfl d_M_lawsOn_16 ?_
      refine lv_iload_n hx hb d_M_lawsOn_19 rfl (lv_at hl 2 rfl) ?_
      refine zr_callS (As := [.int x2]) (rest := [va_rf (s_r σ b 0), .int x1]) hx hb hml hC hwk hw hS hl.1 (c_M_lawAt l D B x2 σ _ hB) mk_M_lawAt mt_M_lawAt ml_M_86 ⟨Nat.le_of_ble_eq_true rfl, Nat.le_of_ble_eq_true rfl⟩ rfl (cat_8 (cat_c (va_rf_cat _) (cat_c rfl cat_n)) (Nat.le_of_ble_eq_true rfl)) d_M_lawsOn_20 ⟨Nat.le_refl _, Nat.le_refl _⟩ rfl (fun v σ3 H locs hp hgn hw hS => ?_)
      have hg := hg.tr hgn
      have hsb := hgn _ _ hsb
      obtain ⟨r4, rfl, hB⟩ := hp
      refine W.eq (g2 := F0 m 23 ls [.int r4, va_rf (s_r σ b 0), .int x1]) rfl ?_
      obtain ⟨q5, n5, j6, ho, hs, hin, hj, hB⟩ := hB
      refine zr_iald hx hb hw ho hs hin hj d_M_lawsOn_23 ?_
      refine lv_iadd hx hb d_M_lawsOn_24 ?_
      refine lv_istore_n (lv' := [(1, .int (x1 + (s_i σ3 q5 j6))), (0, va_rf (some b)), (2, .int x2)]) hx hb d_M_lawsOn_25 rfl hl (by decide) rfl (fun ls hl => ?_)
      refine lv_iinc (v := x2 + nI 1) (lv' := [(2, .int (x2 + nI 1)), (1, .int (x1 + (s_i σ3 q5 j6))), (0, va_rf (some b))]) hx hb d_M_lawsOn_26 hl (k := 2) rfl rfl (by decide) rfl (fun ls hl => ?_)
      refine lv_goto (tgt := 4) hx hb d_M_lawsOn_29 (by decide) ?_
      rw [hK4] at hB
      exact hB _ _ _ hg hw hS (lv_sub hl [2, 1, 0] rfl)

set_option maxHeartbeats 4000000 in
set_option maxRecDepth 100000 in
theorem c_M_turnLaw (l : Launch) (D : va_G) (B : Nat) (b : Nat) (x1 : Int32) (x2 : Int32) (σ : St) (Q : Int32 → St → Prop) (h : P_M_turnLaw b x1 x2 σ Q) : zM l y_M_turnLaw b_M_turnLaw 3 (some (.int)) (rm_M_turnLaw) D B [.ref b, .int x1, .int x2] σ (zQi Q) := by
  refine zM.ofW (own := "LawWorldsModel") (by decide +kernel) rfl (Nat.le_of_ble_eq_true rfl) ?_
  intro p e s m args below meth c ls hx hb hml hr hlocks hname hC hwk hw hS hl
  obtain ⟨σ0, eσ⟩ : ∃ z, z = σ := ⟨_, rfl⟩
  have hg : gr σ0 σ := by rw [eσ]; exact gr.rf
  have hl : lv_has ls 3 [(0, va_rf (some b)), (1, .int x1), (2, .int x2)] := hl
  obtain ⟨hsb, hB⟩ := h
  have hsb0 : s_s σ0 b = some (.inl 9) := by rw [eσ]; exact hsb
  rw [← eσ]
  skip
  refine zr_aload_n (o := some b) hx hb d_M_turnLaw_0 rfl (lv_at hl 0 rfl) ?_
  refine lv_iload_n hx hb d_M_turnLaw_1 rfl (lv_at hl 1 rfl) ?_
  have hsr := And.left hB
  refine zr_callV (ci := 9) (As := [.int x1]) (rest := []) hx hb hml hC hwk hw hS hl.1 (c_M_isLaw l D B b x1 σ _ hB) mk_M_isLaw mi_M_isLaw ms_M_isLaw ml_M_189 ⟨Nat.le_of_ble_eq_true rfl, Nat.le_of_ble_eq_true rfl⟩ rfl hsr rfl (cat_8 cat_n (Nat.le_of_ble_eq_true rfl)) d_M_turnLaw_2 ⟨Nat.le_refl _, Nat.le_refl _⟩ rfl (fun v σ1 H locs hp hgn hw hS => ?_)
  have hg := hg.tr hgn
  have hsb := hgn _ _ hsb
  obtain ⟨r2, rfl, hB⟩ := hp
  refine W.eq (g2 := F0 m 5 ls [.int r2]) rfl ?_
  refine lv_if_ne (tgt := 10) hx hb d_M_turnLaw_5 (by decide) (fun cd => ?_) (fun cd => ?_)
  · have hB := hB.2 cd
    refine zr_aload_n (o := some b) hx hb d_M_turnLaw_10 rfl (lv_at hl 0 rfl) ?_
    refine lv_iload_n hx hb d_M_turnLaw_11 rfl (lv_at hl 1 rfl) ?_
    have hsr := And.left hB
    refine zr_callV (ci := 9) (As := [.int x1]) (rest := []) hx hb hml hC hwk hw hS hl.1 (c_M_isOn l D B b x1 σ1 _ hB) mk_M_isOn mi_M_isOn ms_M_isOn ml_M_111 ⟨Nat.le_of_ble_eq_true rfl, Nat.le_of_ble_eq_true rfl⟩ rfl hsr rfl (cat_8 cat_n (Nat.le_of_ble_eq_true rfl)) d_M_turnLaw_12 ⟨Nat.le_refl _, Nat.le_refl _⟩ rfl (fun v σ3 H locs hp hgn hw hS => ?_)
    have hg := hg.tr hgn
    have hsb := hgn _ _ hsb
    obtain ⟨r4, rfl, hB⟩ := hp
    refine W.eq (g2 := F0 m 15 ls [.int r4]) rfl ?_
    refine lv_iload_n hx hb d_M_turnLaw_15 rfl (lv_at hl 2 rfl) ?_
    refine lv_icmp_ne (tgt := 22) hx hb d_M_turnLaw_16 (by decide) (fun cd => ?_) (fun cd => ?_)
    · have hB := hB.2 cd
      refine zr_aload_n (o := some b) hx hb d_M_turnLaw_22 rfl (lv_at hl 0 rfl) ?_
      have hsr := And.left hB
      refine zr_callV (ci := 9) (As := []) (rest := []) hx hb hml hC hwk hw hS hl.1 (c_M_remember l D B b σ3 _ hB) mk_M_remember mi_M_remember ms_M_remember ml_M_128 ⟨Nat.le_of_ble_eq_true rfl, Nat.le_of_ble_eq_true rfl⟩ rfl hsr rfl (cat_8 cat_n (Nat.le_of_ble_eq_true rfl)) d_M_turnLaw_23 ⟨Nat.le_refl _, Nat.le_refl _⟩ rfl (fun v σ5 H locs hp hgn hw hS => ?_)
      have hg := hg.tr hgn
      have hsb := hgn _ _ hsb
      obtain ⟨rfl, hB⟩ := hp
      refine W.eq (g2 := F0 m 26 ls []) rfl ?_
      refine zr_aload_n (o := some b) hx hb d_M_turnLaw_26 rfl (lv_at hl 0 rfl) ?_
      refine zr_get (v := va_rf (s_r σ5 b 0)) hx hb hC hw rfl hsb fl_M_7 rfl d_M_turnLaw_27 ?_
      refine lv_iload_n hx hb d_M_turnLaw_30 rfl (lv_at hl 1 rfl) ?_
      refine zr_callS (As := [.int x1]) (rest := [va_rf (s_r σ5 b 0)]) hx hb hml hC hwk hw hS hl.1 (c_M_lawAt l D B x1 σ5 _ hB) mk_M_lawAt mt_M_lawAt ml_M_86 ⟨Nat.le_of_ble_eq_true rfl, Nat.le_of_ble_eq_true rfl⟩ rfl (cat_8 (cat_c (va_rf_cat _) cat_n) (Nat.le_of_ble_eq_true rfl)) d_M_turnLaw_31 ⟨Nat.le_refl _, Nat.le_refl _⟩ rfl (fun v σ6 H locs hp hgn hw hS => ?_)
      have hg := hg.tr hgn
      have hsb := hgn _ _ hsb
      obtain ⟨r7, rfl, hB⟩ := hp
      refine W.eq (g2 := F0 m 34 ls [.int r7, va_rf (s_r σ5 b 0)]) rfl ?_
      refine lv_iload_n hx hb d_M_turnLaw_34 rfl (lv_at hl 2 rfl) ?_
      refine lv_if_eq (tgt := 42) hx hb d_M_turnLaw_35 (by decide) (fun cd => ?_) (fun cd => ?_)
      · have hB := hB.1 cd
        refine lv_iconst (v := nI 0) hx hb d_M_turnLaw_42 (by decide) ?_
        obtain ⟨q8, n8, j9, ho, hs, hin, hj, hB⟩ := hB
        refine zr_iast hx hb hw hS ho hs hin hj d_M_turnLaw_43 (fun H locs hw hS => ?_)
        refine zr_aload_n (o := some b) hx hb d_M_turnLaw_44 rfl (lv_at hl 0 rfl) ?_
        refine zr_aload_n (o := some b) hx hb d_M_turnLaw_45 rfl (lv_at hl 0 rfl) ?_
        have hsr := And.left hB
        refine zr_callV (ci := 9) (As := []) (rest := [va_rf (some b)]) hx hb hml hC hwk hw hS hl.1 (c_M_lawsOn l D B b (w_i σ6 q8 j9 (nI 0)) _ hB) mk_M_lawsOn mi_M_lawsOn ms_M_lawsOn ml_M_192 ⟨Nat.le_of_ble_eq_true rfl, Nat.le_of_ble_eq_true rfl⟩ rfl hsr rfl (cat_8 (cat_c (va_rf_cat _) cat_n) (Nat.le_of_ble_eq_true rfl)) d_M_turnLaw_46 ⟨Nat.le_refl _, Nat.le_refl _⟩ rfl (fun v σ10 H locs hp hgn hw hS => ?_)
        have hg := hg.tr hgn
        have hsb := hgn _ _ hsb
        obtain ⟨r11, rfl, hB⟩ := hp
        refine W.eq (g2 := F0 m 49 ls [.int r11, va_rf (some b)]) rfl ?_
        have hsr := And.left hB
        refine zr_callV (ci := 9) (As := [.int r11]) (rest := []) hx hb hml hC hwk hw hS hl.1 (c_M_acted l D B b r11 σ10 _ hB) mk_M_acted mi_M_acted ms_M_acted ml_M_131 ⟨Nat.le_of_ble_eq_true rfl, Nat.le_of_ble_eq_true rfl⟩ rfl hsr rfl (cat_8 cat_n (Nat.le_of_ble_eq_true rfl)) d_M_turnLaw_49 ⟨Nat.le_refl _, Nat.le_refl _⟩ rfl (fun v σ12 H locs hp hgn hw hS => ?_)
        have hg := hg.tr hgn
        have hsb := hgn _ _ hsb
        obtain ⟨r13, rfl, hB⟩ := hp
        refine W.eq (g2 := F0 m 52 ls [.int r13]) rfl ?_
        exact zr_iret hx hb hr hlocks hB hg hw hS d_M_turnLaw_52
      · have hB := hB.2 cd
        refine lv_iconst (v := nI 1) hx hb d_M_turnLaw_38 (by decide) ?_
        refine lv_goto (tgt := 43) hx hb d_M_turnLaw_39 (by decide) ?_
        obtain ⟨q14, n14, j15, ho, hs, hin, hj, hB⟩ := hB
        refine zr_iast hx hb hw hS ho hs hin hj d_M_turnLaw_43 (fun H locs hw hS => ?_)
        refine zr_aload_n (o := some b) hx hb d_M_turnLaw_44 rfl (lv_at hl 0 rfl) ?_
        refine zr_aload_n (o := some b) hx hb d_M_turnLaw_45 rfl (lv_at hl 0 rfl) ?_
        have hsr := And.left hB
        refine zr_callV (ci := 9) (As := []) (rest := [va_rf (some b)]) hx hb hml hC hwk hw hS hl.1 (c_M_lawsOn l D B b (w_i σ6 q14 j15 (nI 1)) _ hB) mk_M_lawsOn mi_M_lawsOn ms_M_lawsOn ml_M_192 ⟨Nat.le_of_ble_eq_true rfl, Nat.le_of_ble_eq_true rfl⟩ rfl hsr rfl (cat_8 (cat_c (va_rf_cat _) cat_n) (Nat.le_of_ble_eq_true rfl)) d_M_turnLaw_46 ⟨Nat.le_refl _, Nat.le_refl _⟩ rfl (fun v σ16 H locs hp hgn hw hS => ?_)
        have hg := hg.tr hgn
        have hsb := hgn _ _ hsb
        obtain ⟨r17, rfl, hB⟩ := hp
        refine W.eq (g2 := F0 m 49 ls [.int r17, va_rf (some b)]) rfl ?_
        have hsr := And.left hB
        refine zr_callV (ci := 9) (As := [.int r17]) (rest := []) hx hb hml hC hwk hw hS hl.1 (c_M_acted l D B b r17 σ16 _ hB) mk_M_acted mi_M_acted ms_M_acted ml_M_131 ⟨Nat.le_of_ble_eq_true rfl, Nat.le_of_ble_eq_true rfl⟩ rfl hsr rfl (cat_8 cat_n (Nat.le_of_ble_eq_true rfl)) d_M_turnLaw_49 ⟨Nat.le_refl _, Nat.le_refl _⟩ rfl (fun v σ18 H locs hp hgn hw hS => ?_)
        have hg := hg.tr hgn
        have hsb := hgn _ _ hsb
        obtain ⟨r19, rfl, hB⟩ := hp
        refine W.eq (g2 := F0 m 52 ls [.int r19]) rfl ?_
        exact zr_iret hx hb hr hlocks hB hg hw hS d_M_turnLaw_52
    · have hB := hB.1 cd
      refine lv_bipush (v := (-5)) hx hb d_M_turnLaw_19 (by decide) ?_
      exact zr_iret hx hb hr hlocks hB hg hw hS d_M_turnLaw_21
  · have hB := hB.1 cd
    refine lv_iconst (v := (-1)) hx hb d_M_turnLaw_8 (by decide) ?_
    exact zr_iret hx hb hr hlocks hB hg hw hS d_M_turnLaw_9

set_option maxHeartbeats 4000000 in
set_option maxRecDepth 100000 in
theorem c_M_isKnown (l : Launch) (D : va_G) (B : Nat) (b : Nat) (x1 : Int32) (σ : St) (Q : Int32 → St → Prop) (h : P_M_isKnown b x1 σ Q) : zM l y_M_isKnown b_M_isKnown 4 (some (.boolean)) (rm_M_isKnown) D B [.ref b, .int x1] σ (zQi Q) := by
  refine zM.ofW (own := "LawWorldsModel") (by decide +kernel) rfl (Nat.le_of_ble_eq_true rfl) ?_
  intro p e s m args below meth c ls hx hb hml hr hlocks hname hC hwk hw hS hl
  obtain ⟨σ0, eσ⟩ : ∃ z, z = σ := ⟨_, rfl⟩
  have hg : gr σ0 σ := by rw [eσ]; exact gr.rf
  have hl : lv_has ls 4 [(0, va_rf (some b)), (1, .int x1)] := hl
  obtain ⟨hsb, hB⟩ := h
  have hsb0 : s_s σ0 b = some (.inl 9) := by rw [eσ]; exact hsb
  rw [← eσ]
  skip
  obtain ⟨K16, hK16⟩ : ∃ K : Int32 → Int32 → Int32 → St → Prop, K = (fun (x1 : Int32) (x2 : Int32) (x3 : Int32) (σ : St) => ∀ (H : Heap) (locs : List Loc) (ls : Array Slot), gr σ0 σ → wh D B σ s H → va_S (zA B) s.heap H locs → lv_has ls 4 [(0, va_rf (some b)), (1, .int x1), (2, .int x2), (3, .int x3)] → W p l e (rm_M_isKnown) s m args below meth c H locs 0 0 (MQ below (zQ D B σ0 (zQi Q)) args s (rm_M_isKnown).cells (rm_M_isKnown).slots (zA B)) (F0 m 16 ls [])) := ⟨_, rfl⟩
  refine (fun hB => ?_) (hB K16 ?_)
  · skip
    refine lv_iload_n hx hb d_M_isKnown_0 rfl (lv_at hl 1 rfl) ?_
    refine zr_aload_n (o := some b) hx hb d_M_isKnown_1 rfl (lv_at hl 0 rfl) ?_
    refine zr_get (v := .int (s_i σ b 12)) hx hb hC hw rfl hsb fl_M_100 rfl d_M_isKnown_2 ?_
    refine lv_icmp_ge (tgt := 12) hx hb d_M_isKnown_5 (by decide) (fun cd => ?_) (fun cd => ?_)
    · have hB := hB.1 cd
      refine lv_iconst (v := nI 0) hx hb d_M_isKnown_12 (by decide) ?_
      refine lv_istore_n (lv' := [(2, .int (nI 0)), (0, va_rf (some b)), (1, .int x1)]) hx hb d_M_isKnown_13 rfl hl (by decide) rfl (fun ls hl => ?_)
      refine lv_iconst (v := nI 1) hx hb d_M_isKnown_14 (by decide) ?_
      refine lv_istore_n (lv' := [(3, .int (nI 1)), (2, .int (nI 0)), (0, va_rf (some b)), (1, .int x1)]) hx hb d_M_isKnown_15 rfl hl (by decide) rfl (fun ls hl => ?_)
      rw [hK16] at hB
      exact hB _ _ _ hg hw hS (lv_sub hl [2, 3, 1, 0] rfl)
    · have hB := hB.2 cd
      refine lv_iconst (v := nI 1) hx hb d_M_isKnown_8 (by decide) ?_
      refine lv_goto (tgt := 13) hx hb d_M_isKnown_9 (by decide) ?_
      refine lv_istore_n (lv' := [(2, .int (nI 1)), (0, va_rf (some b)), (1, .int x1)]) hx hb d_M_isKnown_13 rfl hl (by decide) rfl (fun ls hl => ?_)
      refine lv_iconst (v := nI 1) hx hb d_M_isKnown_14 (by decide) ?_
      refine lv_istore_n (lv' := [(3, .int (nI 1)), (2, .int (nI 1)), (0, va_rf (some b)), (1, .int x1)]) hx hb d_M_isKnown_15 rfl hl (by decide) rfl (fun ls hl => ?_)
      rw [hK16] at hB
      exact hB _ _ _ hg hw hS (lv_sub hl [2, 3, 1, 0] rfl)
  · intro x1 x2 x3 σ hB
    rw [hK16]
    intro H locs ls hg hw hS hl
    have hsb := hg _ _ hsb0
    refine lv_iload_n hx hb d_M_isKnown_16 rfl (lv_at hl 3 rfl) ?_
    refine lv_bipush (v := nI 33) hx hb d_M_isKnown_17 (by decide) ?_
    refine lv_icmp_ge (tgt := 63) hx hb d_M_isKnown_19 (by decide) (fun cd => ?_) (fun cd => ?_)
    · have hB := hB.1 cd
      refine lv_iload_n hx hb d_M_isKnown_63 rfl (lv_at hl 2 rfl) ?_
      exact zr_zret hx hb hr hlocks hB.1 hB.2 hg hw hS d_M_isKnown_64
    · have hB := hB.2 cd
      refine lv_iload_n hx hb d_M_isKnown_22 rfl (lv_at hl 2 rfl) ?_
      refine lv_if_eq (tgt := 63) hx hb d_M_isKnown_23 (by decide) (fun cd => ?_) (fun cd => ?_)
      · have hB := hB.1 cd
        refine lv_iload_n hx hb d_M_isKnown_63 rfl (lv_at hl 2 rfl) ?_
        exact zr_zret hx hb hr hlocks hB.1 hB.2 hg hw hS d_M_isKnown_64
      · have hB := hB.2 cd
        refine zr_aload_n (o := some b) hx hb d_M_isKnown_26 rfl (lv_at hl 0 rfl) ?_
        refine zr_get (v := va_rf (s_r σ b 11)) hx hb hC hw rfl hsb fl_M_37 rfl d_M_isKnown_27 ?_
        refine lv_bipush (v := nI 33) hx hb d_M_isKnown_30 (by decide) ?_
        refine lv_iload_n hx hb d_M_isKnown_32 rfl (lv_at hl 1 rfl) ?_
        refine lv_imul hx hb d_M_isKnown_33 ?_
        refine lv_iload_n hx hb d_M_isKnown_34 rfl (lv_at hl 3 rfl) ?_
        refine lv_iadd hx hb d_M_isKnown_35 ?_
        obtain ⟨q1, n1, j2, ho, hs, hin, hj, hB⟩ := hB
        refine zr_iald hx hb hw ho hs hin hj d_M_isKnown_36 ?_
        refine zr_aload_n (o := some b) hx hb d_M_isKnown_37 rfl (lv_at hl 0 rfl) ?_
        refine zr_get (v := va_rf (s_r σ b 0)) hx hb hC hw rfl hsb fl_M_7 rfl d_M_isKnown_38 ?_
        refine lv_iload_n hx hb d_M_isKnown_41 rfl (lv_at hl 1 rfl) ?_
        refine zr_callS (As := [.int x1]) (rest := [va_rf (s_r σ b 0), .int (s_i σ q1 j2)]) hx hb hml hC hwk hw hS hl.1 (c_M_lawAt l D B x1 σ _ hB) mk_M_lawAt mt_M_lawAt ml_M_86 ⟨Nat.le_of_ble_eq_true rfl, Nat.le_of_ble_eq_true rfl⟩ rfl (cat_8 (cat_c (va_rf_cat _) (cat_c rfl cat_n)) (Nat.le_of_ble_eq_true rfl)) d_M_isKnown_42 ⟨Nat.le_refl _, Nat.le_refl _⟩ rfl (fun v σ3 H locs hp hgn hw hS => ?_)
        have hg := hg.tr hgn
        have hsb := hgn _ _ hsb
        obtain ⟨r4, rfl, hB⟩ := hp
        refine W.eq (g2 := F0 m 45 ls [.int r4, va_rf (s_r σ b 0), .int (s_i σ q1 j2)]) rfl ?_
        refine lv_iload_n hx hb d_M_isKnown_45 rfl (lv_at hl 3 rfl) ?_
        refine lv_iadd hx hb d_M_isKnown_46 ?_
        obtain ⟨q5, n5, j6, ho, hs, hin, hj, hB⟩ := hB
        refine zr_iald hx hb hw ho hs hin hj d_M_isKnown_47 ?_
        refine lv_icmp_ne (tgt := 55) hx hb d_M_isKnown_48 (by decide) (fun cd => ?_) (fun cd => ?_)
        · have hB := hB.2 cd
          refine lv_iconst (v := nI 0) hx hb d_M_isKnown_55 (by decide) ?_
          refine lv_istore_n (lv' := [(2, .int (nI 0)), (0, va_rf (some b)), (1, .int x1), (3, .int x3)]) hx hb d_M_isKnown_56 rfl hl (by decide) rfl (fun ls hl => ?_)
          refine lv_iinc (v := x3 + nI 1) (lv' := [(3, .int (x3 + nI 1)), (2, .int (nI 0)), (0, va_rf (some b)), (1, .int x1)]) hx hb d_M_isKnown_57 hl (k := 3) rfl rfl (by decide) rfl (fun ls hl => ?_)
          refine lv_goto (tgt := 16) hx hb d_M_isKnown_60 (by decide) ?_
          rw [hK16] at hB
          exact hB _ _ _ hg hw hS (lv_sub hl [2, 3, 1, 0] rfl)
        · have hB := hB.1 cd
          refine lv_iconst (v := nI 1) hx hb d_M_isKnown_51 (by decide) ?_
          refine lv_goto (tgt := 56) hx hb d_M_isKnown_52 (by decide) ?_
          refine lv_istore_n (lv' := [(2, .int (nI 1)), (0, va_rf (some b)), (1, .int x1), (3, .int x3)]) hx hb d_M_isKnown_56 rfl hl (by decide) rfl (fun ls hl => ?_)
          refine lv_iinc (v := x3 + nI 1) (lv' := [(3, .int (x3 + nI 1)), (2, .int (nI 1)), (0, va_rf (some b)), (1, .int x1)]) hx hb d_M_isKnown_57 hl (k := 3) rfl rfl (by decide) rfl (fun ls hl => ?_)
          refine lv_goto (tgt := 16) hx hb d_M_isKnown_60 (by decide) ?_
          rw [hK16] at hB
          exact hB _ _ _ hg hw hS (lv_sub hl [2, 3, 1, 0] rfl)

set_option maxHeartbeats 4000000 in
set_option maxRecDepth 100000 in
theorem c_M_sizeAt (l : Launch) (D : va_G) (B : Nat) (o0 : Option Nat) (x1 : Int32) (σ : St) (Q : Int32 → St → Prop) (h : P_M_sizeAt o0 x1 σ Q) : zM l y_M_sizeAt b_M_sizeAt 2 (some (.int)) (rm_M_sizeAt) D B [va_rf o0, .int x1] σ (zQi Q) := by
  refine zM.ofW (own := "LawWorldsModel") (by decide +kernel) rfl (lg_c (va_rf_cat _) (lg_c rfl lg_0)) ?_
  intro p e s m args below meth c ls hx hb hml hr hlocks hname hC hwk hw hS hl
  obtain ⟨σ0, eσ⟩ : ∃ z, z = σ := ⟨_, rfl⟩
  have hg : gr σ0 σ := by rw [eσ]; exact gr.rf
  rw [lv_args_c (va_rf_cat _), lv_args_c rfl] at hl
  have hl : lv_has ls 2 [(0, va_rf o0), (1, .int x1)] := hl
  have hB := h
  rw [← eσ]
  skip
  refine lv_iload_n hx hb d_M_sizeAt_0 rfl (lv_at hl 1 rfl) ?_
  refine zr_aload_n (o := o0) hx hb d_M_sizeAt_1 rfl (lv_at hl 0 rfl) ?_
  refine lv_iconst (v := nI 2) hx hb d_M_sizeAt_2 (by decide) ?_
  obtain ⟨q1, n1, j2, ho, hs, hin, hj, hB⟩ := hB
  refine zr_iald hx hb hw ho hs hin hj d_M_sizeAt_3 ?_
  refine lv_icmp_ge (tgt := 11) hx hb d_M_sizeAt_4 (by decide) (fun cd => ?_) (fun cd => ?_)
  · have hB := hB.1 cd
    refine lv_iload_n hx hb d_M_sizeAt_11 rfl (lv_at hl 1 rfl) ?_
    refine zr_aload_n (o := o0) hx hb d_M_sizeAt_12 rfl (lv_at hl 0 rfl) ?_
    refine lv_iconst (v := nI 3) hx hb d_M_sizeAt_13 (by decide) ?_
    obtain ⟨q3, n3, j4, ho, hs, hin, hj, hB⟩ := hB
    refine zr_iald hx hb hw ho hs hin hj d_M_sizeAt_14 ?_
    refine lv_icmp_ge (tgt := 22) hx hb d_M_sizeAt_15 (by decide) (fun cd => ?_) (fun cd => ?_)
    · have hB := hB.1 cd
      refine lv_iconst (v := nI 3) hx hb d_M_sizeAt_22 (by decide) ?_
      exact zr_iret hx hb hr hlocks hB hg hw hS d_M_sizeAt_23
    · have hB := hB.2 cd
      refine lv_iconst (v := nI 2) hx hb d_M_sizeAt_18 (by decide) ?_
      refine lv_goto (tgt := 23) hx hb d_M_sizeAt_19 (by decide) ?_
      exact zr_iret hx hb hr hlocks hB hg hw hS d_M_sizeAt_23
  · have hB := hB.2 cd
    refine lv_iconst (v := nI 1) hx hb d_M_sizeAt_7 (by decide) ?_
    refine lv_goto (tgt := 23) hx hb d_M_sizeAt_8 (by decide) ?_
    exact zr_iret hx hb hr hlocks hB hg hw hS d_M_sizeAt_23

set_option maxHeartbeats 4000000 in
set_option maxRecDepth 100000 in
theorem c_M_comesOf (l : Launch) (D : va_G) (B : Nat) (b : Nat) (x1 : Int32) (x2 : Int32) (x3 : Int32) (σ : St) (Q : Int32 → St → Prop) (h : P_M_comesOf b x1 x2 x3 σ Q) : zM l y_M_comesOf b_M_comesOf 7 (some (.int)) (rm_M_comesOf) D B [.ref b, .int x1, .int x2, .int x3] σ (zQi Q) := by
  refine zM.ofW (own := "LawWorldsModel") (by decide +kernel) rfl (Nat.le_of_ble_eq_true rfl) ?_
  intro p e s m args below meth c ls hx hb hml hr hlocks hname hC hwk hw hS hl
  obtain ⟨σ0, eσ⟩ : ∃ z, z = σ := ⟨_, rfl⟩
  have hg : gr σ0 σ := by rw [eσ]; exact gr.rf
  have hl : lv_has ls 7 [(0, va_rf (some b)), (1, .int x1), (2, .int x2), (3, .int x3)] := hl
  obtain ⟨hsb, hB⟩ := h
  have hsb0 : s_s σ0 b = some (.inl 9) := by rw [eσ]; exact hsb
  rw [← eσ]
  skip
  obtain ⟨K6, hK6⟩ : ∃ K : Int32 → Int32 → Int32 → Int32 → Int32 → St → Prop, K = (fun (x1 : Int32) (x2 : Int32) (x3 : Int32) (x4 : Int32) (x5 : Int32) (σ : St) => ∀ (H : Heap) (locs : List Loc) (ls : Array Slot), gr σ0 σ → wh D B σ s H → va_S (zA B) s.heap H locs → lv_has ls 7 [(0, va_rf (some b)), (1, .int x1), (2, .int x2), (3, .int x3), (4, .int x4), (5, .int x5)] → W p l e (rm_M_comesOf) s m args below meth c H locs 0 0 (MQ below (zQ D B σ0 (zQi Q)) args s (rm_M_comesOf).cells (rm_M_comesOf).slots (zA B)) (F0 m 6 ls [])) := ⟨_, rfl⟩
  refine (fun hB => ?_) (hB K6 ?_)
  · skip
    refine lv_iconst (v := nI 0) hx hb d_M_comesOf_0 (by decide) ?_
    refine lv_istore (lv' := [(4, .int (nI 0)), (0, va_rf (some b)), (1, .int x1), (2, .int x2), (3, .int x3)]) hx hb d_M_comesOf_1 hl (by decide) rfl (fun ls hl => ?_)
    refine lv_iconst (v := nI 1) hx hb d_M_comesOf_3 (by decide) ?_
    refine lv_istore (lv' := [(5, .int (nI 1)), (4, .int (nI 0)), (0, va_rf (some b)), (1, .int x1), (2, .int x2), (3, .int x3)]) hx hb d_M_comesOf_4 hl (by decide) rfl (fun ls hl => ?_)
    rw [hK6] at hB
    exact hB _ _ _ hg hw hS (lv_sub hl [2, 3, 4, 5, 1, 0] rfl)
  · intro x1 x2 x3 x4 x5 σ hB
    rw [hK6]
    intro H locs ls hg hw hS hl
    have hsb := hg _ _ hsb0
    refine lv_iload hx hb d_M_comesOf_6 (lv_at hl 5 rfl) ?_
    refine zr_aload_n (o := some b) hx hb d_M_comesOf_8 rfl (lv_at hl 0 rfl) ?_
    refine zr_get (v := va_rf (s_r σ b 0)) hx hb hC hw rfl hsb fl_M_7 rfl d_M_comesOf_9 ?_
    refine lv_iload_n hx hb d_M_comesOf_12 rfl (lv_at hl 2 rfl) ?_
    obtain ⟨q1, n1, j2, ho, hs, hin, hj, hB⟩ := hB
    refine zr_iald hx hb hw ho hs hin hj d_M_comesOf_13 ?_
    refine lv_icmp_gt (tgt := 119) hx hb d_M_comesOf_14 (by decide) (fun cd => ?_) (fun cd => ?_)
    · have hB := hB.1 cd
      refine zr_aload_n (o := some b) hx hb d_M_comesOf_119 rfl (lv_at hl 0 rfl) ?_
      refine zr_get (v := va_rf (s_r σ b 9)) hx hb hC hw rfl hsb fl_M_31 rfl d_M_comesOf_120 ?_
      refine lv_iconst (v := nI 0) hx hb d_M_comesOf_123 (by decide) ?_
      obtain ⟨q3, n3, j4, ho, hs, hin, hj, hB⟩ := hB
      refine zr_iald hx hb hw ho hs hin hj d_M_comesOf_124 ?_
      exact zr_iret hx hb hr hlocks hB hg hw hS d_M_comesOf_125
    · have hB := hB.2 cd
      refine zr_aload_n (o := some b) hx hb d_M_comesOf_17 rfl (lv_at hl 0 rfl) ?_
      refine zr_get (v := va_rf (s_r σ b 0)) hx hb hC hw rfl hsb fl_M_7 rfl d_M_comesOf_18 ?_
      refine lv_iload_n hx hb d_M_comesOf_21 rfl (lv_at hl 2 rfl) ?_
      refine lv_iload hx hb d_M_comesOf_22 (lv_at hl 5 rfl) ?_
      refine lv_iadd hx hb d_M_comesOf_24 ?_
      obtain ⟨q5, n5, j6, ho, hs, hin, hj, hB⟩ := hB
      refine zr_iald hx hb hw ho hs hin hj d_M_comesOf_25 ?_
      refine lv_istore (lv' := [(6, .int (s_i σ q5 j6)), (0, va_rf (some b)), (1, .int x1), (2, .int x2), (3, .int x3), (4, .int x4), (5, .int x5)]) hx hb d_M_comesOf_26 hl (by decide) rfl (fun ls hl => ?_)
      refine lv_iload hx hb d_M_comesOf_28 (lv_at hl 0 rfl) ?_
      refine lv_iconst (v := nI 3) hx hb d_M_comesOf_30 (by decide) ?_
      refine lv_icmp_ne (tgt := 73) hx hb d_M_comesOf_31 (by decide) (fun cd => ?_) (fun cd => ?_)
      · have hB := hB.2 cd
        refine zr_aload_n (o := some b) hx hb d_M_comesOf_73 rfl (lv_at hl 1 rfl) ?_
        refine zr_get (v := va_rf (s_r σ b 9)) hx hb hC hw rfl hsb fl_M_31 rfl d_M_comesOf_74 ?_
        refine lv_iload hx hb d_M_comesOf_77 (lv_at hl 5 rfl) ?_
        refine lv_iload hx hb d_M_comesOf_79 (lv_at hl 0 rfl) ?_
        refine lv_if_ne (tgt := 90) hx hb d_M_comesOf_81 (by decide) (fun cd => ?_) (fun cd => ?_)
        · have hB := hB.2 cd
          refine lv_iload hx hb d_M_comesOf_90 (lv_at hl 0 rfl) ?_
          refine lv_iconst (v := nI 1) hx hb d_M_comesOf_92 (by decide) ?_
          refine lv_icmp_ne (tgt := 104) hx hb d_M_comesOf_93 (by decide) (fun cd => ?_) (fun cd => ?_)
          · have hB := hB.2 cd
            refine lv_iload_n hx hb d_M_comesOf_104 rfl (lv_at hl 4 rfl) ?_
            refine lv_iload_n hx hb d_M_comesOf_105 rfl (lv_at hl 2 rfl) ?_
            refine lv_iload_n hx hb d_M_comesOf_106 rfl (lv_at hl 2 rfl) ?_
            refine lv_imul hx hb d_M_comesOf_107 ?_
            refine lv_idiv hx hb d_M_comesOf_108 hB.1 ?_
            have hB := hB.2
            obtain ⟨q7, n7, j8, ho, hs, hin, hj, hB⟩ := hB
            refine zr_iast hx hb hw hS ho hs hin hj d_M_comesOf_109 (fun H locs hw hS => ?_)
            refine lv_iinc (v := x4 + nI 1) (lv' := [(4, .int (x4 + nI 1)), (6, .int (s_i σ q5 j6)), (0, va_rf (some b)), (1, .int x1), (2, .int x2), (3, .int x3), (5, .int x5)]) hx hb d_M_comesOf_110 hl (k := 5) rfl rfl (by decide) rfl (fun ls hl => ?_)
            refine lv_iinc (v := x5 + nI 1) (lv' := [(5, .int (x5 + nI 1)), (4, .int (x4 + nI 1)), (6, .int (s_i σ q5 j6)), (0, va_rf (some b)), (1, .int x1), (2, .int x2), (3, .int x3)]) hx hb d_M_comesOf_113 hl (k := 6) rfl rfl (by decide) rfl (fun ls hl => ?_)
            refine lv_goto (tgt := 6) hx hb d_M_comesOf_116 (by decide) ?_
            rw [hK6] at hB
            exact hB _ _ _ hg hw hS (lv_sub hl [3, 4, 5, 6, 1, 0] rfl)
          · have hB := hB.1 cd
            refine lv_iload_n hx hb d_M_comesOf_96 rfl (lv_at hl 4 rfl) ?_
            refine lv_iload_n hx hb d_M_comesOf_97 rfl (lv_at hl 2 rfl) ?_
            refine lv_idiv hx hb d_M_comesOf_98 hB.1 ?_
            have hB := hB.2
            refine lv_iload_n hx hb d_M_comesOf_99 rfl (lv_at hl 2 rfl) ?_
            refine zr_irem hx hb d_M_comesOf_100 hB.1 ?_
            have hB := hB.2
            refine lv_goto (tgt := 109) hx hb d_M_comesOf_101 (by decide) ?_
            obtain ⟨q9, n9, j10, ho, hs, hin, hj, hB⟩ := hB
            refine zr_iast hx hb hw hS ho hs hin hj d_M_comesOf_109 (fun H locs hw hS => ?_)
            refine lv_iinc (v := x4 + nI 1) (lv' := [(4, .int (x4 + nI 1)), (6, .int (s_i σ q5 j6)), (0, va_rf (some b)), (1, .int x1), (2, .int x2), (3, .int x3), (5, .int x5)]) hx hb d_M_comesOf_110 hl (k := 5) rfl rfl (by decide) rfl (fun ls hl => ?_)
            refine lv_iinc (v := x5 + nI 1) (lv' := [(5, .int (x5 + nI 1)), (4, .int (x4 + nI 1)), (6, .int (s_i σ q5 j6)), (0, va_rf (some b)), (1, .int x1), (2, .int x2), (3, .int x3)]) hx hb d_M_comesOf_113 hl (k := 6) rfl rfl (by decide) rfl (fun ls hl => ?_)
            refine lv_goto (tgt := 6) hx hb d_M_comesOf_116 (by decide) ?_
            rw [hK6] at hB
            exact hB _ _ _ hg hw hS (lv_sub hl [3, 4, 5, 6, 1, 0] rfl)
        · have hB := hB.1 cd
          refine lv_iload_n hx hb d_M_comesOf_84 rfl (lv_at hl 4 rfl) ?_
          refine lv_iload_n hx hb d_M_comesOf_85 rfl (lv_at hl 2 rfl) ?_
          refine zr_irem hx hb d_M_comesOf_86 hB.1 ?_
          have hB := hB.2
          refine lv_goto (tgt := 109) hx hb d_M_comesOf_87 (by decide) ?_
          obtain ⟨q11, n11, j12, ho, hs, hin, hj, hB⟩ := hB
          refine zr_iast hx hb hw hS ho hs hin hj d_M_comesOf_109 (fun H locs hw hS => ?_)
          refine lv_iinc (v := x4 + nI 1) (lv' := [(4, .int (x4 + nI 1)), (6, .int (s_i σ q5 j6)), (0, va_rf (some b)), (1, .int x1), (2, .int x2), (3, .int x3), (5, .int x5)]) hx hb d_M_comesOf_110 hl (k := 5) rfl rfl (by decide) rfl (fun ls hl => ?_)
          refine lv_iinc (v := x5 + nI 1) (lv' := [(5, .int (x5 + nI 1)), (4, .int (x4 + nI 1)), (6, .int (s_i σ q5 j6)), (0, va_rf (some b)), (1, .int x1), (2, .int x2), (3, .int x3)]) hx hb d_M_comesOf_113 hl (k := 6) rfl rfl (by decide) rfl (fun ls hl => ?_)
          refine lv_goto (tgt := 6) hx hb d_M_comesOf_116 (by decide) ?_
          rw [hK6] at hB
          exact hB _ _ _ hg hw hS (lv_sub hl [3, 4, 5, 6, 1, 0] rfl)
      · have hB := hB.1 cd
        refine lv_iinc (v := x4 + (-1)) (lv' := [(4, .int (x4 + (-1))), (6, .int (s_i σ q5 j6)), (0, va_rf (some b)), (1, .int x1), (2, .int x2), (3, .int x3), (5, .int x5)]) hx hb d_M_comesOf_34 hl (k := 5) rfl rfl (by decide) rfl (fun ls hl => ?_)
        refine zr_aload_n (o := some b) hx hb d_M_comesOf_37 rfl (lv_at hl 2 rfl) ?_
        refine zr_get (v := va_rf (s_r σ b 9)) hx hb hC hw rfl hsb fl_M_31 rfl d_M_comesOf_38 ?_
        refine lv_iload hx hb d_M_comesOf_41 (lv_at hl 0 rfl) ?_
        refine lv_iconst (v := nI 1) hx hb d_M_comesOf_43 (by decide) ?_
        refine lv_isub hx hb d_M_comesOf_44 ?_
        refine zr_aload_n (o := some b) hx hb d_M_comesOf_45 rfl (lv_at hl 2 rfl) ?_
        refine zr_get (v := va_rf (s_r σ b 8)) hx hb hC hw rfl hsb fl_M_28 rfl d_M_comesOf_46 ?_
        refine lv_iload_n hx hb d_M_comesOf_49 rfl (lv_at hl 3 rfl) ?_
        refine zr_aload_n (o := some b) hx hb d_M_comesOf_50 rfl (lv_at hl 2 rfl) ?_
        refine zr_get (v := va_rf (s_r σ b 9)) hx hb hC hw rfl hsb fl_M_31 rfl d_M_comesOf_51 ?_
        refine lv_iload hx hb d_M_comesOf_54 (lv_at hl 0 rfl) ?_
        refine lv_iconst (v := nI 1) hx hb d_M_comesOf_56 (by decide) ?_
        refine lv_isub hx hb d_M_comesOf_57 ?_
        obtain ⟨q13, n13, j14, ho, hs, hin, hj, hB⟩ := hB
        refine zr_iald hx hb hw ho hs hin hj d_M_comesOf_58 ?_
        refine lv_imul hx hb d_M_comesOf_59 ?_
        refine zr_aload_n (o := some b) hx hb d_M_comesOf_60 rfl (lv_at hl 2 rfl) ?_
        refine zr_get (v := va_rf (s_r σ b 9)) hx hb hC hw rfl hsb fl_M_31 rfl d_M_comesOf_61 ?_
        refine lv_iload hx hb d_M_comesOf_64 (lv_at hl 0 rfl) ?_
        obtain ⟨q15, n15, j16, ho, hs, hin, hj, hB⟩ := hB
        refine zr_iald hx hb hw ho hs hin hj d_M_comesOf_66 ?_
        refine lv_iadd hx hb d_M_comesOf_67 ?_
        obtain ⟨q17, n17, j18, ho, hs, hin, hj, hB⟩ := hB
        refine zr_iald hx hb hw ho hs hin hj d_M_comesOf_68 ?_
        obtain ⟨q19, n19, j20, ho, hs, hin, hj, hB⟩ := hB
        refine zr_iast hx hb hw hS ho hs hin hj d_M_comesOf_69 (fun H locs hw hS => ?_)
        refine lv_goto (tgt := 113) hx hb d_M_comesOf_70 (by decide) ?_
        refine lv_iinc (v := x5 + nI 1) (lv' := [(5, .int (x5 + nI 1)), (4, .int (x4 + (-1))), (6, .int (s_i σ q5 j6)), (0, va_rf (some b)), (1, .int x1), (2, .int x2), (3, .int x3)]) hx hb d_M_comesOf_113 hl (k := 6) rfl rfl (by decide) rfl (fun ls hl => ?_)
        refine lv_goto (tgt := 6) hx hb d_M_comesOf_116 (by decide) ?_
        rw [hK6] at hB
        exact hB _ _ _ hg hw hS (lv_sub hl [3, 4, 5, 6, 1, 0] rfl)

set_option maxHeartbeats 4000000 in
set_option maxRecDepth 100000 in
theorem c_M_isBroken (l : Launch) (D : va_G) (B : Nat) (b : Nat) (x1 : Int32) (x2 : Int32) (x3 : Int32) (σ : St) (Q : Int32 → St → Prop) (h : P_M_isBroken b x1 x2 x3 σ Q) : zM l y_M_isBroken b_M_isBroken 4 (some (.boolean)) (rm_M_isBroken) D B [.ref b, .int x1, .int x2, .int x3] σ (zQi Q) := by
  refine zM.ofW (own := "LawWorldsModel") (by decide +kernel) rfl (Nat.le_of_ble_eq_true rfl) ?_
  intro p e s m args below meth c ls hx hb hml hr hlocks hname hC hwk hw hS hl
  obtain ⟨σ0, eσ⟩ : ∃ z, z = σ := ⟨_, rfl⟩
  have hg : gr σ0 σ := by rw [eσ]; exact gr.rf
  have hl : lv_has ls 4 [(0, va_rf (some b)), (1, .int x1), (2, .int x2), (3, .int x3)] := hl
  obtain ⟨hsb, hB⟩ := h
  have hsb0 : s_s σ0 b = some (.inl 9) := by rw [eσ]; exact hsb
  rw [← eσ]
  skip
  refine zr_aload_n (o := some b) hx hb d_M_isBroken_0 rfl (lv_at hl 0 rfl) ?_
  refine lv_iload_n hx hb d_M_isBroken_1 rfl (lv_at hl 1 rfl) ?_
  refine lv_iload_n hx hb d_M_isBroken_2 rfl (lv_at hl 2 rfl) ?_
  refine zr_callS (As := [.int x2]) (rest := [.int x1, va_rf (some b)]) hx hb hml hC hwk hw hS hl.1 (c_M_lawAt l D B x2 σ _ hB) mk_M_lawAt mt_M_lawAt ml_M_86 ⟨Nat.le_of_ble_eq_true rfl, Nat.le_of_ble_eq_true rfl⟩ rfl (cat_8 (cat_c rfl (cat_c (va_rf_cat _) cat_n)) (Nat.le_of_ble_eq_true rfl)) d_M_isBroken_3 ⟨Nat.le_refl _, Nat.le_refl _⟩ rfl (fun v σ1 H locs hp hgn hw hS => ?_)
  have hg := hg.tr hgn
  have hsb := hgn _ _ hsb
  obtain ⟨r2, rfl, hB⟩ := hp
  refine W.eq (g2 := F0 m 6 ls [.int r2, .int x1, va_rf (some b)]) rfl ?_
  refine lv_iconst (v := nI 1) hx hb d_M_isBroken_6 (by decide) ?_
  refine lv_iadd hx hb d_M_isBroken_7 ?_
  refine lv_iload_n hx hb d_M_isBroken_8 rfl (lv_at hl 3 rfl) ?_
  have hsr := And.left hB
  refine zr_callV (ci := 9) (As := [.int x1, .int (r2 + (nI 1)), .int x3]) (rest := []) hx hb hml hC hwk hw hS hl.1 (c_M_comesOf l D B b x1 (r2 + (nI 1)) x3 σ1 _ hB) mk_M_comesOf mi_M_comesOf ms_M_comesOf ml_M_89 ⟨Nat.le_of_ble_eq_true rfl, Nat.le_of_ble_eq_true rfl⟩ rfl hsr rfl (cat_8 cat_n (Nat.le_of_ble_eq_true rfl)) d_M_isBroken_9 ⟨Nat.le_refl _, Nat.le_refl _⟩ rfl (fun v σ3 H locs hp hgn hw hS => ?_)
  have hg := hg.tr hgn
  have hsb := hgn _ _ hsb
  obtain ⟨r4, rfl, hB⟩ := hp
  refine W.eq (g2 := F0 m 12 ls [.int r4]) rfl ?_
  refine zr_aload_n (o := some b) hx hb d_M_isBroken_12 rfl (lv_at hl 0 rfl) ?_
  refine lv_iload_n hx hb d_M_isBroken_13 rfl (lv_at hl 1 rfl) ?_
  refine lv_iload_n hx hb d_M_isBroken_14 rfl (lv_at hl 2 rfl) ?_
  refine zr_callS (As := [.int x2]) (rest := [.int x1, va_rf (some b), .int r4]) hx hb hml hC hwk hw hS hl.1 (c_M_lawAt l D B x2 σ3 _ hB) mk_M_lawAt mt_M_lawAt ml_M_86 ⟨Nat.le_of_ble_eq_true rfl, Nat.le_of_ble_eq_true rfl⟩ rfl (cat_8 (cat_c rfl (cat_c (va_rf_cat _) (cat_c rfl cat_n))) (Nat.le_of_ble_eq_true rfl)) d_M_isBroken_15 ⟨Nat.le_refl _, Nat.le_refl _⟩ rfl (fun v σ5 H locs hp hgn hw hS => ?_)
  have hg := hg.tr hgn
  have hsb := hgn _ _ hsb
  obtain ⟨r6, rfl, hB⟩ := hp
  refine W.eq (g2 := F0 m 18 ls [.int r6, .int x1, va_rf (some b), .int r4]) rfl ?_
  refine lv_bipush (v := nI 17) hx hb d_M_isBroken_18 (by decide) ?_
  refine lv_iadd hx hb d_M_isBroken_20 ?_
  refine lv_iload_n hx hb d_M_isBroken_21 rfl (lv_at hl 3 rfl) ?_
  have hsr := And.left hB
  refine zr_callV (ci := 9) (As := [.int x1, .int (r6 + (nI 17)), .int x3]) (rest := [.int r4]) hx hb hml hC hwk hw hS hl.1 (c_M_comesOf l D B b x1 (r6 + (nI 17)) x3 σ5 _ hB) mk_M_comesOf mi_M_comesOf ms_M_comesOf ml_M_89 ⟨Nat.le_of_ble_eq_true rfl, Nat.le_of_ble_eq_true rfl⟩ rfl hsr rfl (cat_8 (cat_c rfl cat_n) (Nat.le_of_ble_eq_true rfl)) d_M_isBroken_22 ⟨Nat.le_refl _, Nat.le_refl _⟩ rfl (fun v σ7 H locs hp hgn hw hS => ?_)
  have hg := hg.tr hgn
  have hsb := hgn _ _ hsb
  obtain ⟨r8, rfl, hB⟩ := hp
  refine W.eq (g2 := F0 m 25 ls [.int r8, .int r4]) rfl ?_
  refine lv_icmp_eq (tgt := 32) hx hb d_M_isBroken_25 (by decide) (fun cd => ?_) (fun cd => ?_)
  · have hB := hB.1 cd
    refine lv_iconst (v := nI 0) hx hb d_M_isBroken_32 (by decide) ?_
    exact zr_zret hx hb hr hlocks (Or.inl rfl) hB hg hw hS d_M_isBroken_33
  · have hB := hB.2 cd
    refine lv_iconst (v := nI 1) hx hb d_M_isBroken_28 (by decide) ?_
    refine lv_goto (tgt := 33) hx hb d_M_isBroken_29 (by decide) ?_
    exact zr_zret hx hb hr hlocks (Or.inr rfl) hB hg hw hS d_M_isBroken_33

set_option maxHeartbeats 4000000 in
set_option maxRecDepth 100000 in
theorem c_M_brokenIn (l : Launch) (D : va_G) (B : Nat) (b : Nat) (x1 : Int32) (x2 : Int32) (x3 : Int32) (σ : St) (Q : Int32 → St → Prop) (h : P_M_brokenIn b x1 x2 x3 σ Q) : zM l y_M_brokenIn b_M_brokenIn 6 (some (.int)) (rm_M_brokenIn) D B [.ref b, .int x1, .int x2, .int x3] σ (zQi Q) := by
  refine zM.ofW (own := "LawWorldsModel") (by decide +kernel) rfl (Nat.le_of_ble_eq_true rfl) ?_
  intro p e s m args below meth c ls hx hb hml hr hlocks hname hC hwk hw hS hl
  obtain ⟨σ0, eσ⟩ : ∃ z, z = σ := ⟨_, rfl⟩
  have hg : gr σ0 σ := by rw [eσ]; exact gr.rf
  have hl : lv_has ls 6 [(0, va_rf (some b)), (1, .int x1), (2, .int x2), (3, .int x3)] := hl
  obtain ⟨hsb, hB⟩ := h
  have hsb0 : s_s σ0 b = some (.inl 9) := by rw [eσ]; exact hsb
  rw [← eσ]
  skip
  obtain ⟨K12, hK12⟩ : ∃ K : Int32 → Int32 → Int32 → Int32 → St → Prop, K = (fun (x1 : Int32) (x3 : Int32) (x4 : Int32) (x5 : Int32) (σ : St) => ∀ (H : Heap) (locs : List Loc) (ls : Array Slot), gr σ0 σ → wh D B σ s H → va_S (zA B) s.heap H locs → lv_has ls 6 [(0, va_rf (some b)), (1, .int x1), (3, .int x3), (4, .int x4), (5, .int x5)] → W p l e (rm_M_brokenIn) s m args below meth c H locs 0 0 (MQ below (zQ D B σ0 (zQi Q)) args s (rm_M_brokenIn).cells (rm_M_brokenIn).slots (zA B)) (F0 m 12 ls [])) := ⟨_, rfl⟩
  refine (fun hB => ?_) (hB K12 ?_)
  · skip
    refine zr_aload_n (o := some b) hx hb d_M_brokenIn_0 rfl (lv_at hl 0 rfl) ?_
    refine lv_iload_n hx hb d_M_brokenIn_1 rfl (lv_at hl 1 rfl) ?_
    refine lv_iload_n hx hb d_M_brokenIn_2 rfl (lv_at hl 2 rfl) ?_
    have hsr := And.left hB
    refine zr_callV (ci := 9) (As := [.int x1, .int x2]) (rest := []) hx hb hml hC hwk hw hS hl.1 (c_M_unfolds l D B b x1 x2 σ _ hB) mk_M_unfolds mi_M_unfolds ms_M_unfolds ml_M_76 ⟨Nat.le_of_ble_eq_true rfl, Nat.le_of_ble_eq_true rfl⟩ rfl hsr rfl (cat_8 cat_n (Nat.le_of_ble_eq_true rfl)) d_M_brokenIn_3 ⟨Nat.le_refl _, Nat.le_refl _⟩ rfl (fun v σ3 H locs hp hgn hw hS => ?_)
    have hg := hg.tr hgn
    have hsb := hgn _ _ hsb
    obtain ⟨rfl, hB⟩ := hp
    refine W.eq (g2 := F0 m 6 ls []) rfl ?_
    refine lv_iconst (v := nI 0) hx hb d_M_brokenIn_6 (by decide) ?_
    refine lv_istore (lv' := [(4, .int (nI 0)), (0, va_rf (some b)), (1, .int x1), (2, .int x2), (3, .int x3)]) hx hb d_M_brokenIn_7 hl (by decide) rfl (fun ls hl => ?_)
    refine lv_iconst (v := nI 0) hx hb d_M_brokenIn_9 (by decide) ?_
    refine lv_istore (lv' := [(5, .int (nI 0)), (4, .int (nI 0)), (0, va_rf (some b)), (1, .int x1), (2, .int x2), (3, .int x3)]) hx hb d_M_brokenIn_10 hl (by decide) rfl (fun ls hl => ?_)
    rw [hK12] at hB
    exact hB _ _ _ hg hw hS (lv_sub hl [2, 3, 5, 1, 0] rfl)
  · intro x1 x3 x4 x5 σ hB
    rw [hK12]
    intro H locs ls hg hw hS hl
    have hsb := hg _ _ hsb0
    refine lv_iload hx hb d_M_brokenIn_12 (lv_at hl 4 rfl) ?_
    refine lv_iload_n hx hb d_M_brokenIn_14 rfl (lv_at hl 1 rfl) ?_
    refine lv_iload_n hx hb d_M_brokenIn_15 rfl (lv_at hl 1 rfl) ?_
    refine lv_imul hx hb d_M_brokenIn_16 ?_
    refine lv_iload_n hx hb d_M_brokenIn_17 rfl (lv_at hl 1 rfl) ?_
    refine lv_imul hx hb d_M_brokenIn_18 ?_
    refine lv_icmp_ge (tgt := 49) hx hb d_M_brokenIn_19 (by decide) (fun cd => ?_) (fun cd => ?_)
    · have hB := hB.1 cd
      refine lv_iload hx hb d_M_brokenIn_49 (lv_at hl 3 rfl) ?_
      exact zr_iret hx hb hr hlocks hB hg hw hS d_M_brokenIn_51
    · have hB := hB.2 cd
      refine lv_iload hx hb d_M_brokenIn_22 (lv_at hl 3 rfl) ?_
      refine zr_aload_n (o := some b) hx hb d_M_brokenIn_24 rfl (lv_at hl 0 rfl) ?_
      refine lv_iload_n hx hb d_M_brokenIn_25 rfl (lv_at hl 1 rfl) ?_
      refine lv_iload_n hx hb d_M_brokenIn_26 rfl (lv_at hl 2 rfl) ?_
      refine lv_iload hx hb d_M_brokenIn_27 (lv_at hl 4 rfl) ?_
      have hsr := And.left hB
      refine zr_callV (ci := 9) (As := [.int x1, .int x3, .int x5]) (rest := [.int x4]) hx hb hml hC hwk hw hS hl.1 (c_M_isBroken l D B b x1 x3 x5 σ _ hB) mk_M_isBroken mi_M_isBroken ms_M_isBroken ml_M_93 ⟨Nat.le_of_ble_eq_true rfl, Nat.le_of_ble_eq_true rfl⟩ rfl hsr rfl (cat_8 (cat_c rfl cat_n) (Nat.le_of_ble_eq_true rfl)) d_M_brokenIn_29 ⟨Nat.le_refl _, Nat.le_refl _⟩ rfl (fun v σ1 H locs hp hgn hw hS => ?_)
      have hg := hg.tr hgn
      have hsb := hgn _ _ hsb
      obtain ⟨r2, rfl, hB⟩ := hp
      refine W.eq (g2 := F0 m 32 ls [.int r2, .int x4]) rfl ?_
      refine lv_if_eq (tgt := 39) hx hb d_M_brokenIn_32 (by decide) (fun cd => ?_) (fun cd => ?_)
      · have hB := hB.1 cd
        refine lv_iconst (v := nI 0) hx hb d_M_brokenIn_39 (by decide) ?_
        refine lv_iadd hx hb d_M_brokenIn_40 ?_
        refine lv_istore (lv' := [(4, .int (x4 + (nI 0))), (0, va_rf (some b)), (1, .int x1), (3, .int x3), (5, .int x5)]) hx hb d_M_brokenIn_41 hl (by decide) rfl (fun ls hl => ?_)
        refine lv_iinc (v := x5 + nI 1) (lv' := [(5, .int (x5 + nI 1)), (4, .int (x4 + (nI 0))), (0, va_rf (some b)), (1, .int x1), (3, .int x3)]) hx hb d_M_brokenIn_43 hl (k := 4) rfl rfl (by decide) rfl (fun ls hl => ?_)
        refine lv_goto (tgt := 12) hx hb d_M_brokenIn_46 (by decide) ?_
        rw [hK12] at hB
        exact hB _ _ _ hg hw hS (lv_sub hl [2, 3, 4, 1, 0] rfl)
      · have hB := hB.2 cd
        refine lv_iconst (v := nI 1) hx hb d_M_brokenIn_35 (by decide) ?_
        refine lv_goto (tgt := 40) hx hb d_M_brokenIn_36 (by decide) ?_
        refine lv_iadd hx hb d_M_brokenIn_40 ?_
        refine lv_istore (lv' := [(4, .int (x4 + (nI 1))), (0, va_rf (some b)), (1, .int x1), (3, .int x3), (5, .int x5)]) hx hb d_M_brokenIn_41 hl (by decide) rfl (fun ls hl => ?_)
        refine lv_iinc (v := x5 + nI 1) (lv' := [(5, .int (x5 + nI 1)), (4, .int (x4 + (nI 1))), (0, va_rf (some b)), (1, .int x1), (3, .int x3)]) hx hb d_M_brokenIn_43 hl (k := 4) rfl rfl (by decide) rfl (fun ls hl => ?_)
        refine lv_goto (tgt := 12) hx hb d_M_brokenIn_46 (by decide) ?_
        rw [hK12] at hB
        exact hB _ _ _ hg hw hS (lv_sub hl [2, 3, 4, 1, 0] rfl)

set_option maxHeartbeats 4000000 in
set_option maxRecDepth 100000 in
theorem c_M_learns (l : Launch) (D : va_G) (B : Nat) (b : Nat) (σ : St) (Q : St → Prop) (h : P_M_learns b σ Q) : zM l y_M_learns b_M_learns 3 none (rm_M_learns) D B [.ref b] σ (zQv Q) := by
  refine zM.ofW (own := "LawWorldsModel") (by decide +kernel) rfl (Nat.le_of_ble_eq_true rfl) ?_
  intro p e s m args below meth c ls hx hb hml hr hlocks hname hC hwk hw hS hl
  obtain ⟨σ0, eσ⟩ : ∃ z, z = σ := ⟨_, rfl⟩
  have hg : gr σ0 σ := by rw [eσ]; exact gr.rf
  have hl : lv_has ls 3 [(0, va_rf (some b))] := hl
  obtain ⟨hsb, hB⟩ := h
  have hsb0 : s_s σ0 b = some (.inl 9) := by rw [eσ]; exact hsb
  rw [← eσ]
  skip
  obtain ⟨K2, hK2⟩ : ∃ K : Int32 → St → Prop, K = (fun (x1 : Int32) (σ : St) => ∀ (H : Heap) (locs : List Loc) (ls : Array Slot), gr σ0 σ → wh D B σ s H → va_S (zA B) s.heap H locs → lv_has ls 3 [(0, va_rf (some b)), (1, .int x1)] → W p l e (rm_M_learns) s m args below meth c H locs 0 0 (MQ below (zQ D B σ0 (zQv Q)) args s (rm_M_learns).cells (rm_M_learns).slots (zA B)) (F0 m 2 ls [])) := ⟨_, rfl⟩
  obtain ⟨K22, hK22⟩ : ∃ K : Int32 → Int32 → St → Prop, K = (fun (x1 : Int32) (x2 : Int32) (σ : St) => ∀ (H : Heap) (locs : List Loc) (ls : Array Slot), gr σ0 σ → wh D B σ s H → va_S (zA B) s.heap H locs → lv_has ls 3 [(0, va_rf (some b)), (1, .int x1), (2, .int x2)] → W p l e (rm_M_learns) s m args below meth c H locs 0 0 (MQ below (zQ D B σ0 (zQv Q)) args s (rm_M_learns).cells (rm_M_learns).slots (zA B)) (F0 m 22 ls [])) := ⟨_, rfl⟩
  obtain ⟨K68, hK68⟩ : ∃ K : Int32 → Int32 → St → Prop, K = (fun (x1 : Int32) (x2 : Int32) (σ : St) => ∀ (H : Heap) (locs : List Loc) (ls : Array Slot), gr σ0 σ → wh D B σ s H → va_S (zA B) s.heap H locs → lv_has ls 3 [(0, va_rf (some b)), (1, .int x1), (2, .int x2)] → W p l e (rm_M_learns) s m args below meth c H locs 0 0 (MQ below (zQ D B σ0 (zQv Q)) args s (rm_M_learns).cells (rm_M_learns).slots (zA B)) (F0 m 68 ls [])) := ⟨_, rfl⟩
  refine (fun hB => ?_) (hB K2 K22 K68 ?_ ?_ ?_)
  · skip
    refine lv_iconst (v := nI 0) hx hb d_M_learns_0 (by decide) ?_
    refine lv_istore_n (lv' := [(1, .int (nI 0)), (0, va_rf (some b))]) hx hb d_M_learns_1 rfl hl (by decide) rfl (fun ls hl => ?_)
    rw [hK2] at hB
    exact hB _ _ _ hg hw hS (lv_sub hl [1, 0] rfl)
  · intro x1 σ hB
    rw [hK2]
    intro H locs ls hg hw hS hl
    have hsb := hg _ _ hsb0
    refine lv_iload_n hx hb d_M_learns_2 rfl (lv_at hl 1 rfl) ?_
    refine zr_aload_n (o := some b) hx hb d_M_learns_3 rfl (lv_at hl 0 rfl) ?_
    refine zr_get (v := va_rf (s_r σ b 0)) hx hb hC hw rfl hsb fl_M_7 rfl d_M_learns_4 ?_
    refine lv_iconst (v := nI 2) hx hb d_M_learns_7 (by decide) ?_
    obtain ⟨q1, n1, j2, ho, hs, hin, hj, hB⟩ := hB
    refine zr_iald hx hb hw ho hs hin hj d_M_learns_8 ?_
    refine lv_icmp_ge (tgt := 130) hx hb d_M_learns_9 (by decide) (fun cd => ?_) (fun cd => ?_)
    · have hB := hB.1 cd
      exact zr_vret hx hb hr hlocks hB hg hw hS d_M_learns_130
    · have hB := hB.2 cd
      refine zr_aload_n (o := some b) hx hb d_M_learns_12 rfl (lv_at hl 0 rfl) ?_
      refine lv_iload_n hx hb d_M_learns_13 rfl (lv_at hl 1 rfl) ?_
      have hsr := And.left hB
      refine zr_callV (ci := 9) (As := [.int x1]) (rest := []) hx hb hml hC hwk hw hS hl.1 (c_M_isKnown l D B b x1 σ _ hB) mk_M_isKnown mi_M_isKnown ms_M_isKnown ml_M_103 ⟨Nat.le_of_ble_eq_true rfl, Nat.le_of_ble_eq_true rfl⟩ rfl hsr rfl (cat_8 cat_n (Nat.le_of_ble_eq_true rfl)) d_M_learns_14 ⟨Nat.le_refl _, Nat.le_refl _⟩ rfl (fun v σ3 H locs hp hgn hw hS => ?_)
      have hg := hg.tr hgn
      have hsb := hgn _ _ hsb
      obtain ⟨r4, rfl, hB⟩ := hp
      refine W.eq (g2 := F0 m 17 ls [.int r4]) rfl ?_
      refine lv_if_ne (tgt := 124) hx hb d_M_learns_17 (by decide) (fun cd => ?_) (fun cd => ?_)
      · have hB := hB.2 cd
        refine lv_iinc (v := x1 + nI 1) (lv' := [(1, .int (x1 + nI 1)), (0, va_rf (some b))]) hx hb d_M_learns_124 hl (k := 1) rfl rfl (by decide) rfl (fun ls hl => ?_)
        refine lv_goto (tgt := 2) hx hb d_M_learns_127 (by decide) ?_
        rw [hK2] at hB
        exact hB _ _ _ hg hw hS (lv_sub hl [1, 0] rfl)
      · have hB := hB.1 cd
        refine lv_iconst (v := nI 0) hx hb d_M_learns_20 (by decide) ?_
        refine lv_istore_n (lv' := [(2, .int (nI 0)), (0, va_rf (some b)), (1, .int x1)]) hx hb d_M_learns_21 rfl hl (by decide) rfl (fun ls hl => ?_)
        rw [hK22] at hB
        exact hB _ _ _ hg hw hS (lv_sub hl [1, 2, 0] rfl)
  · intro x1 x2 σ hB
    rw [hK22]
    intro H locs ls hg hw hS hl
    have hsb := hg _ _ hsb0
    refine lv_iload_n hx hb d_M_learns_22 rfl (lv_at hl 2 rfl) ?_
    refine lv_sipush (v := nI 3341) hx hb d_M_learns_23 (by decide) ?_
    refine lv_icmp_ge (tgt := 66) hx hb d_M_learns_26 (by decide) (fun cd => ?_) (fun cd => ?_)
    · have hB := hB.1 cd
      refine lv_iconst (v := nI 0) hx hb d_M_learns_66 (by decide) ?_
      refine lv_istore_n (lv' := [(2, .int (nI 0)), (0, va_rf (some b)), (1, .int x1)]) hx hb d_M_learns_67 rfl hl (by decide) rfl (fun ls hl => ?_)
      rw [hK68] at hB
      exact hB _ _ _ hg hw hS (lv_sub hl [1, 2, 0] rfl)
    · have hB := hB.2 cd
      refine zr_aload_n (o := some b) hx hb d_M_learns_29 rfl (lv_at hl 0 rfl) ?_
      refine zr_get (v := va_rf (s_r σ b 10)) hx hb hC hw rfl hsb fl_M_34 rfl d_M_learns_30 ?_
      refine lv_sipush (v := nI 3341) hx hb d_M_learns_33 (by decide) ?_
      refine lv_iload_n hx hb d_M_learns_36 rfl (lv_at hl 1 rfl) ?_
      refine lv_imul hx hb d_M_learns_37 ?_
      refine lv_iload_n hx hb d_M_learns_38 rfl (lv_at hl 2 rfl) ?_
      refine lv_iadd hx hb d_M_learns_39 ?_
      refine zr_aload_n (o := some b) hx hb d_M_learns_40 rfl (lv_at hl 0 rfl) ?_
      refine zr_aload_n (o := some b) hx hb d_M_learns_41 rfl (lv_at hl 0 rfl) ?_
      refine zr_get (v := va_rf (s_r σ b 7)) hx hb hC hw rfl hsb fl_M_25 rfl d_M_learns_42 ?_
      refine lv_iload_n hx hb d_M_learns_45 rfl (lv_at hl 2 rfl) ?_
      refine zr_callS (As := [va_rf (s_r σ b 7), .int x2]) (rest := [va_rf (some b), .int (((nI 3341) * x1) + x2), va_rf (s_r σ b 10)]) hx hb hml hC hwk hw hS hl.1 (c_M_sizeAt l D B (s_r σ b 7) x2 σ _ hB) mk_M_sizeAt mt_M_sizeAt ml_M_107 ⟨Nat.le_of_ble_eq_true rfl, Nat.le_of_ble_eq_true rfl⟩ rfl (cat_8 (cat_c (va_rf_cat _) (cat_c rfl (cat_c (va_rf_cat _) cat_n))) (Nat.le_of_ble_eq_true rfl)) d_M_learns_46 ⟨Nat.le_refl _, Nat.le_refl _⟩ rfl (fun v σ5 H locs hp hgn hw hS => ?_)
      have hg := hg.tr hgn
      have hsb := hgn _ _ hsb
      obtain ⟨r6, rfl, hB⟩ := hp
      refine W.eq (g2 := F0 m 49 ls [.int r6, va_rf (some b), .int (((nI 3341) * x1) + x2), va_rf (s_r σ b 10)]) rfl ?_
      refine zr_aload_n (o := some b) hx hb d_M_learns_49 rfl (lv_at hl 0 rfl) ?_
      refine zr_get (v := va_rf (s_r σ5 b 6)) hx hb hC hw rfl hsb fl_M_22 rfl d_M_learns_50 ?_
      refine lv_iload_n hx hb d_M_learns_53 rfl (lv_at hl 2 rfl) ?_
      obtain ⟨q7, n7, j8, ho, hs, hin, hj, hB⟩ := hB
      refine zr_iald hx hb hw ho hs hin hj d_M_learns_54 ?_
      refine lv_iload_n hx hb d_M_learns_55 rfl (lv_at hl 1 rfl) ?_
      have hsr := And.left hB
      refine zr_callV (ci := 9) (As := [.int r6, .int (s_i σ5 q7 j8), .int x1]) (rest := [.int (((nI 3341) * x1) + x2), va_rf (s_r σ b 10)]) hx hb hml hC hwk hw hS hl.1 (c_M_brokenIn l D B b r6 (s_i σ5 q7 j8) x1 σ5 _ hB) mk_M_brokenIn mi_M_brokenIn ms_M_brokenIn ml_M_97 ⟨Nat.le_of_ble_eq_true rfl, Nat.le_of_ble_eq_true rfl⟩ rfl hsr rfl (cat_8 (cat_c rfl (cat_c (va_rf_cat _) cat_n)) (Nat.le_of_ble_eq_true rfl)) d_M_learns_56 ⟨Nat.le_refl _, Nat.le_refl _⟩ rfl (fun v σ9 H locs hp hgn hw hS => ?_)
      have hg := hg.tr hgn
      have hsb := hgn _ _ hsb
      obtain ⟨r10, rfl, hB⟩ := hp
      refine W.eq (g2 := F0 m 59 ls [.int r10, .int (((nI 3341) * x1) + x2), va_rf (s_r σ b 10)]) rfl ?_
      obtain ⟨q11, n11, j12, ho, hs, hin, hj, hB⟩ := hB
      refine zr_iast hx hb hw hS ho hs hin hj d_M_learns_59 (fun H locs hw hS => ?_)
      refine lv_iinc (v := x2 + nI 1) (lv' := [(2, .int (x2 + nI 1)), (0, va_rf (some b)), (1, .int x1)]) hx hb d_M_learns_60 hl (k := 2) rfl rfl (by decide) rfl (fun ls hl => ?_)
      refine lv_goto (tgt := 22) hx hb d_M_learns_63 (by decide) ?_
      rw [hK22] at hB
      exact hB _ _ _ hg hw hS (lv_sub hl [1, 2, 0] rfl)
  · intro x1 x2 σ hB
    rw [hK68]
    intro H locs ls hg hw hS hl
    have hsb := hg _ _ hsb0
    refine lv_iload_n hx hb d_M_learns_68 rfl (lv_at hl 2 rfl) ?_
    refine lv_bipush (v := nI 33) hx hb d_M_learns_69 (by decide) ?_
    refine lv_icmp_ge (tgt := 102) hx hb d_M_learns_71 (by decide) (fun cd => ?_) (fun cd => ?_)
    · have hB := hB.1 cd
      refine zr_aload_n (o := some b) hx hb d_M_learns_102 rfl (lv_at hl 0 rfl) ?_
      refine lv_iload_n hx hb d_M_learns_103 rfl (lv_at hl 1 rfl) ?_
      refine zr_aload_n (o := some b) hx hb d_M_learns_104 rfl (lv_at hl 0 rfl) ?_
      refine zr_get (v := .int (s_i σ b 12)) hx hb hC hw rfl hsb fl_M_100 rfl d_M_learns_105 ?_
      refine lv_icmp_ge (tgt := 118) hx hb d_M_learns_108 (by decide) (fun cd => ?_) (fun cd => ?_)
      · have hB := hB.1 cd
        refine lv_iload_n hx hb d_M_learns_118 rfl (lv_at hl 1 rfl) ?_
        refine lv_iconst (v := nI 1) hx hb d_M_learns_119 (by decide) ?_
        refine lv_iadd hx hb d_M_learns_120 ?_
        refine zr_putI hx hb hC hw hS rfl hsb fl_M_100 rfl rfl d_M_learns_121 (fun H locs hw hS => ?_)
        refine lv_iinc (v := x1 + nI 1) (lv' := [(1, .int (x1 + nI 1)), (0, va_rf (some b)), (2, .int x2)]) hx hb d_M_learns_124 hl (k := 1) rfl rfl (by decide) rfl (fun ls hl => ?_)
        refine lv_goto (tgt := 2) hx hb d_M_learns_127 (by decide) ?_
        rw [hK2] at hB
        exact hB _ _ _ hg hw hS (lv_sub hl [1, 0] rfl)
      · have hB := hB.2 cd
        refine zr_aload_n (o := some b) hx hb d_M_learns_111 rfl (lv_at hl 0 rfl) ?_
        refine zr_get (v := .int (s_i σ b 12)) hx hb hC hw rfl hsb fl_M_100 rfl d_M_learns_112 ?_
        refine lv_goto (tgt := 121) hx hb d_M_learns_115 (by decide) ?_
        refine zr_putI hx hb hC hw hS rfl hsb fl_M_100 rfl rfl d_M_learns_121 (fun H locs hw hS => ?_)
        refine lv_iinc (v := x1 + nI 1) (lv' := [(1, .int (x1 + nI 1)), (0, va_rf (some b)), (2, .int x2)]) hx hb d_M_learns_124 hl (k := 1) rfl rfl (by decide) rfl (fun ls hl => ?_)
        refine lv_goto (tgt := 2) hx hb d_M_learns_127 (by decide) ?_
        rw [hK2] at hB
        exact hB _ _ _ hg hw hS (lv_sub hl [1, 0] rfl)
    · have hB := hB.2 cd
      refine zr_aload_n (o := some b) hx hb d_M_learns_74 rfl (lv_at hl 0 rfl) ?_
      refine zr_get (v := va_rf (s_r σ b 11)) hx hb hC hw rfl hsb fl_M_37 rfl d_M_learns_75 ?_
      refine lv_bipush (v := nI 33) hx hb d_M_learns_78 (by decide) ?_
      refine lv_iload_n hx hb d_M_learns_80 rfl (lv_at hl 1 rfl) ?_
      refine lv_imul hx hb d_M_learns_81 ?_
      refine lv_iload_n hx hb d_M_learns_82 rfl (lv_at hl 2 rfl) ?_
      refine lv_iadd hx hb d_M_learns_83 ?_
      refine zr_aload_n (o := some b) hx hb d_M_learns_84 rfl (lv_at hl 0 rfl) ?_
      refine zr_get (v := va_rf (s_r σ b 0)) hx hb hC hw rfl hsb fl_M_7 rfl d_M_learns_85 ?_
      refine lv_iload_n hx hb d_M_learns_88 rfl (lv_at hl 1 rfl) ?_
      refine zr_callS (As := [.int x1]) (rest := [va_rf (s_r σ b 0), .int (((nI 33) * x1) + x2), va_rf (s_r σ b 11)]) hx hb hml hC hwk hw hS hl.1 (c_M_lawAt l D B x1 σ _ hB) mk_M_lawAt mt_M_lawAt ml_M_86 ⟨Nat.le_of_ble_eq_true rfl, Nat.le_of_ble_eq_true rfl⟩ rfl (cat_8 (cat_c (va_rf_cat _) (cat_c rfl (cat_c (va_rf_cat _) cat_n))) (Nat.le_of_ble_eq_true rfl)) d_M_learns_89 ⟨Nat.le_refl _, Nat.le_refl _⟩ rfl (fun v σ13 H locs hp hgn hw hS => ?_)
      have hg := hg.tr hgn
      have hsb := hgn _ _ hsb
      obtain ⟨r14, rfl, hB⟩ := hp
      refine W.eq (g2 := F0 m 92 ls [.int r14, va_rf (s_r σ b 0), .int (((nI 33) * x1) + x2), va_rf (s_r σ b 11)]) rfl ?_
      refine lv_iload_n hx hb d_M_learns_92 rfl (lv_at hl 2 rfl) ?_
      refine lv_iadd hx hb d_M_learns_93 ?_
      obtain ⟨q15, n15, j16, ho, hs, hin, hj, hB⟩ := hB
      refine zr_iald hx hb hw ho hs hin hj d_M_learns_94 ?_
      obtain ⟨q17, n17, j18, ho, hs, hin, hj, hB⟩ := hB
      refine zr_iast hx hb hw hS ho hs hin hj d_M_learns_95 (fun H locs hw hS => ?_)
      refine lv_iinc (v := x2 + nI 1) (lv' := [(2, .int (x2 + nI 1)), (0, va_rf (some b)), (1, .int x1)]) hx hb d_M_learns_96 hl (k := 2) rfl rfl (by decide) rfl (fun ls hl => ?_)
      refine lv_goto (tgt := 68) hx hb d_M_learns_99 (by decide) ?_
      rw [hK68] at hB
      exact hB _ _ _ hg hw hS (lv_sub hl [1, 2, 0] rfl)

set_option maxHeartbeats 4000000 in
set_option maxRecDepth 100000 in
theorem c_M_hold (l : Launch) (D : va_G) (B : Nat) (b : Nat) (x1 : Int32) (x2 : Int32) (σ : St) (Q : Int32 → St → Prop) (h : P_M_hold b x1 x2 σ Q) : zM l y_M_hold b_M_hold 5 (some (.boolean)) (rm_M_hold) D B [.ref b, .int x1, .int x2] σ (zQi Q) := by
  refine zM.ofW (own := "LawWorldsModel") (by decide +kernel) rfl (Nat.le_of_ble_eq_true rfl) ?_
  intro p e s m args below meth c ls hx hb hml hr hlocks hname hC hwk hw hS hl
  obtain ⟨σ0, eσ⟩ : ∃ z, z = σ := ⟨_, rfl⟩
  have hg : gr σ0 σ := by rw [eσ]; exact gr.rf
  have hl : lv_has ls 5 [(0, va_rf (some b)), (1, .int x1), (2, .int x2)] := hl
  obtain ⟨hsb, hB⟩ := h
  have hsb0 : s_s σ0 b = some (.inl 9) := by rw [eσ]; exact hsb
  rw [← eσ]
  skip
  obtain ⟨K5, hK5⟩ : ∃ K : Int32 → Int32 → Int32 → Int32 → St → Prop, K = (fun (x1 : Int32) (x2 : Int32) (x3 : Int32) (x4 : Int32) (σ : St) => ∀ (H : Heap) (locs : List Loc) (ls : Array Slot), gr σ0 σ → wh D B σ s H → va_S (zA B) s.heap H locs → lv_has ls 5 [(0, va_rf (some b)), (1, .int x1), (2, .int x2), (3, .int x3), (4, .int x4)] → W p l e (rm_M_hold) s m args below meth c H locs 0 0 (MQ below (zQ D B σ0 (zQi Q)) args s (rm_M_hold).cells (rm_M_hold).slots (zA B)) (F0 m 5 ls [])) := ⟨_, rfl⟩
  refine (fun hB => ?_) (hB K5 ?_)
  · skip
    refine lv_iconst (v := nI 1) hx hb d_M_hold_0 (by decide) ?_
    refine lv_istore_n (lv' := [(3, .int (nI 1)), (0, va_rf (some b)), (1, .int x1), (2, .int x2)]) hx hb d_M_hold_1 rfl hl (by decide) rfl (fun ls hl => ?_)
    refine lv_iconst (v := nI 0) hx hb d_M_hold_2 (by decide) ?_
    refine lv_istore (lv' := [(4, .int (nI 0)), (3, .int (nI 1)), (0, va_rf (some b)), (1, .int x1), (2, .int x2)]) hx hb d_M_hold_3 hl (by decide) rfl (fun ls hl => ?_)
    rw [hK5] at hB
    exact hB _ _ _ hg hw hS (lv_sub hl [2, 3, 4, 1, 0] rfl)
  · intro x1 x2 x3 x4 σ hB
    rw [hK5]
    intro H locs ls hg hw hS hl
    have hsb := hg _ _ hsb0
    refine lv_iload hx hb d_M_hold_5 (lv_at hl 4 rfl) ?_
    refine zr_aload_n (o := some b) hx hb d_M_hold_7 rfl (lv_at hl 0 rfl) ?_
    refine zr_get (v := va_rf (s_r σ b 0)) hx hb hC hw rfl hsb fl_M_7 rfl d_M_hold_8 ?_
    refine lv_iconst (v := nI 2) hx hb d_M_hold_11 (by decide) ?_
    obtain ⟨q1, n1, j2, ho, hs, hin, hj, hB⟩ := hB
    refine zr_iald hx hb hw ho hs hin hj d_M_hold_12 ?_
    refine lv_icmp_ge (tgt := 63) hx hb d_M_hold_13 (by decide) (fun cd => ?_) (fun cd => ?_)
    · have hB := hB.1 cd
      refine lv_iload_n hx hb d_M_hold_63 rfl (lv_at hl 3 rfl) ?_
      exact zr_zret hx hb hr hlocks hB.1 hB.2 hg hw hS d_M_hold_64
    · have hB := hB.2 cd
      refine lv_iload_n hx hb d_M_hold_16 rfl (lv_at hl 3 rfl) ?_
      refine lv_if_eq (tgt := 63) hx hb d_M_hold_17 (by decide) (fun cd => ?_) (fun cd => ?_)
      · have hB := hB.1 cd
        refine lv_iload_n hx hb d_M_hold_63 rfl (lv_at hl 3 rfl) ?_
        exact zr_zret hx hb hr hlocks hB.1 hB.2 hg hw hS d_M_hold_64
      · have hB := hB.2 cd
        refine lv_iload hx hb d_M_hold_20 (lv_at hl 4 rfl) ?_
        refine lv_iload_n hx hb d_M_hold_22 rfl (lv_at hl 2 rfl) ?_
        refine lv_icmp_eq (tgt := 51) hx hb d_M_hold_23 (by decide) (fun cd => ?_) (fun cd => ?_)
        · have hB := hB.1 cd
          refine lv_iconst (v := nI 1) hx hb d_M_hold_51 (by decide) ?_
          refine lv_goto (tgt := 56) hx hb d_M_hold_52 (by decide) ?_
          refine lv_istore_n (lv' := [(3, .int (nI 1)), (0, va_rf (some b)), (1, .int x1), (2, .int x2), (4, .int x4)]) hx hb d_M_hold_56 rfl hl (by decide) rfl (fun ls hl => ?_)
          refine lv_iinc (v := x4 + nI 1) (lv' := [(4, .int (x4 + nI 1)), (3, .int (nI 1)), (0, va_rf (some b)), (1, .int x1), (2, .int x2)]) hx hb d_M_hold_57 hl (k := 4) rfl rfl (by decide) rfl (fun ls hl => ?_)
          refine lv_goto (tgt := 5) hx hb d_M_hold_60 (by decide) ?_
          rw [hK5] at hB
          exact hB _ _ _ hg hw hS (lv_sub hl [2, 3, 4, 1, 0] rfl)
        · have hB := hB.2 cd
          refine zr_aload_n (o := some b) hx hb d_M_hold_26 rfl (lv_at hl 0 rfl) ?_
          refine lv_iload hx hb d_M_hold_27 (lv_at hl 4 rfl) ?_
          have hsr := And.left hB
          refine zr_callV (ci := 9) (As := [.int x4]) (rest := []) hx hb hml hC hwk hw hS hl.1 (c_M_isOn l D B b x4 σ _ hB) mk_M_isOn mi_M_isOn ms_M_isOn ml_M_111 ⟨Nat.le_of_ble_eq_true rfl, Nat.le_of_ble_eq_true rfl⟩ rfl hsr rfl (cat_8 cat_n (Nat.le_of_ble_eq_true rfl)) d_M_hold_29 ⟨Nat.le_refl _, Nat.le_refl _⟩ rfl (fun v σ3 H locs hp hgn hw hS => ?_)
          have hg := hg.tr hgn
          have hsb := hgn _ _ hsb
          obtain ⟨r4, rfl, hB⟩ := hp
          refine W.eq (g2 := F0 m 32 ls [.int r4]) rfl ?_
          refine lv_if_eq (tgt := 51) hx hb d_M_hold_32 (by decide) (fun cd => ?_) (fun cd => ?_)
          · have hB := hB.1 cd
            refine lv_iconst (v := nI 1) hx hb d_M_hold_51 (by decide) ?_
            refine lv_goto (tgt := 56) hx hb d_M_hold_52 (by decide) ?_
            refine lv_istore_n (lv' := [(3, .int (nI 1)), (0, va_rf (some b)), (1, .int x1), (2, .int x2), (4, .int x4)]) hx hb d_M_hold_56 rfl hl (by decide) rfl (fun ls hl => ?_)
            refine lv_iinc (v := x4 + nI 1) (lv' := [(4, .int (x4 + nI 1)), (3, .int (nI 1)), (0, va_rf (some b)), (1, .int x1), (2, .int x2)]) hx hb d_M_hold_57 hl (k := 4) rfl rfl (by decide) rfl (fun ls hl => ?_)
            refine lv_goto (tgt := 5) hx hb d_M_hold_60 (by decide) ?_
            rw [hK5] at hB
            exact hB _ _ _ hg hw hS (lv_sub hl [2, 3, 4, 1, 0] rfl)
          · have hB := hB.2 cd
            refine zr_aload_n (o := some b) hx hb d_M_hold_35 rfl (lv_at hl 0 rfl) ?_
            refine zr_get (v := va_rf (s_r σ3 b 10)) hx hb hC hw rfl hsb fl_M_34 rfl d_M_hold_36 ?_
            refine lv_sipush (v := nI 3341) hx hb d_M_hold_39 (by decide) ?_
            refine lv_iload hx hb d_M_hold_42 (lv_at hl 4 rfl) ?_
            refine lv_imul hx hb d_M_hold_44 ?_
            refine lv_iload_n hx hb d_M_hold_45 rfl (lv_at hl 1 rfl) ?_
            refine lv_iadd hx hb d_M_hold_46 ?_
            obtain ⟨q5, n5, j6, ho, hs, hin, hj, hB⟩ := hB
            refine zr_iald hx hb hw ho hs hin hj d_M_hold_47 ?_
            refine lv_if_ne (tgt := 55) hx hb d_M_hold_48 (by decide) (fun cd => ?_) (fun cd => ?_)
            · have hB := hB.2 cd
              refine lv_iconst (v := nI 0) hx hb d_M_hold_55 (by decide) ?_
              refine lv_istore_n (lv' := [(3, .int (nI 0)), (0, va_rf (some b)), (1, .int x1), (2, .int x2), (4, .int x4)]) hx hb d_M_hold_56 rfl hl (by decide) rfl (fun ls hl => ?_)
              refine lv_iinc (v := x4 + nI 1) (lv' := [(4, .int (x4 + nI 1)), (3, .int (nI 0)), (0, va_rf (some b)), (1, .int x1), (2, .int x2)]) hx hb d_M_hold_57 hl (k := 4) rfl rfl (by decide) rfl (fun ls hl => ?_)
              refine lv_goto (tgt := 5) hx hb d_M_hold_60 (by decide) ?_
              rw [hK5] at hB
              exact hB _ _ _ hg hw hS (lv_sub hl [2, 3, 4, 1, 0] rfl)
            · have hB := hB.1 cd
              refine lv_iconst (v := nI 1) hx hb d_M_hold_51 (by decide) ?_
              refine lv_goto (tgt := 56) hx hb d_M_hold_52 (by decide) ?_
              refine lv_istore_n (lv' := [(3, .int (nI 1)), (0, va_rf (some b)), (1, .int x1), (2, .int x2), (4, .int x4)]) hx hb d_M_hold_56 rfl hl (by decide) rfl (fun ls hl => ?_)
              refine lv_iinc (v := x4 + nI 1) (lv' := [(4, .int (x4 + nI 1)), (3, .int (nI 1)), (0, va_rf (some b)), (1, .int x1), (2, .int x2)]) hx hb d_M_hold_57 hl (k := 4) rfl rfl (by decide) rfl (fun ls hl => ?_)
              refine lv_goto (tgt := 5) hx hb d_M_hold_60 (by decide) ?_
              rw [hK5] at hB
              exact hB _ _ _ hg hw hS (lv_sub hl [2, 3, 4, 1, 0] rfl)

set_option maxHeartbeats 4000000 in
set_option maxRecDepth 100000 in
theorem c_M_findsWitnesses (l : Launch) (D : va_G) (B : Nat) (b : Nat) (x1 : Int32) (σ : St) (Q : St → Prop) (h : P_M_findsWitnesses b x1 σ Q) : zM l y_M_findsWitnesses b_M_findsWitnesses 4 none (rm_M_findsWitnesses) D B [.ref b, .int x1] σ (zQv Q) := by
  refine zM.ofW (own := "LawWorldsModel") (by decide +kernel) rfl (Nat.le_of_ble_eq_true rfl) ?_
  intro p e s m args below meth c ls hx hb hml hr hlocks hname hC hwk hw hS hl
  obtain ⟨σ0, eσ⟩ : ∃ z, z = σ := ⟨_, rfl⟩
  have hg : gr σ0 σ := by rw [eσ]; exact gr.rf
  have hl : lv_has ls 4 [(0, va_rf (some b)), (1, .int x1)] := hl
  obtain ⟨hsb, hB⟩ := h
  have hsb0 : s_s σ0 b = some (.inl 9) := by rw [eσ]; exact hsb
  rw [← eσ]
  skip
  obtain ⟨K11, hK11⟩ : ∃ K : Int32 → Int32 → St → Prop, K = (fun (x1 : Int32) (x2 : Int32) (σ : St) => ∀ (H : Heap) (locs : List Loc) (ls : Array Slot), gr σ0 σ → wh D B σ s H → va_S (zA B) s.heap H locs → lv_has ls 4 [(0, va_rf (some b)), (1, .int x1), (2, .int x2)] → W p l e (rm_M_findsWitnesses) s m args below meth c H locs 0 0 (MQ below (zQ D B σ0 (zQv Q)) args s (rm_M_findsWitnesses).cells (rm_M_findsWitnesses).slots (zA B)) (F0 m 11 ls [])) := ⟨_, rfl⟩
  obtain ⟨K28, hK28⟩ : ∃ K : Int32 → Int32 → Int32 → St → Prop, K = (fun (x1 : Int32) (x2 : Int32) (x3 : Int32) (σ : St) => ∀ (H : Heap) (locs : List Loc) (ls : Array Slot), gr σ0 σ → wh D B σ s H → va_S (zA B) s.heap H locs → lv_has ls 4 [(0, va_rf (some b)), (1, .int x1), (2, .int x2), (3, .int x3)] → W p l e (rm_M_findsWitnesses) s m args below meth c H locs 0 0 (MQ below (zQ D B σ0 (zQv Q)) args s (rm_M_findsWitnesses).cells (rm_M_findsWitnesses).slots (zA B)) (F0 m 28 ls [])) := ⟨_, rfl⟩
  refine (fun hB => ?_) (hB K11 K28 ?_ ?_)
  · skip
    refine zr_aload_n (o := some b) hx hb d_M_findsWitnesses_0 rfl (lv_at hl 0 rfl) ?_
    have hsr := And.left hB
    refine zr_callV (ci := 9) (As := []) (rest := []) hx hb hml hC hwk hw hS hl.1 (c_M_learns l D B b σ _ hB) mk_M_learns mi_M_learns ms_M_learns ml_M_114 ⟨Nat.le_of_ble_eq_true rfl, Nat.le_of_ble_eq_true rfl⟩ rfl hsr rfl (cat_8 cat_n (Nat.le_of_ble_eq_true rfl)) d_M_findsWitnesses_1 ⟨Nat.le_refl _, Nat.le_refl _⟩ rfl (fun v σ7 H locs hp hgn hw hS => ?_)
    have hg := hg.tr hgn
    have hsb := hgn _ _ hsb
    obtain ⟨rfl, hB⟩ := hp
    refine W.eq (g2 := F0 m 4 ls []) rfl ?_
    refine zr_aload_n (o := some b) hx hb d_M_findsWitnesses_4 rfl (lv_at hl 0 rfl) ?_
    refine lv_iconst (v := nI 0) hx hb d_M_findsWitnesses_5 (by decide) ?_
    refine zr_putI hx hb hC hw hS rfl hsb fl_M_117 rfl rfl d_M_findsWitnesses_6 (fun H locs hw hS => ?_)
    refine lv_iconst (v := nI 1) hx hb d_M_findsWitnesses_9 (by decide) ?_
    refine lv_istore_n (lv' := [(2, .int (nI 1)), (0, va_rf (some b)), (1, .int x1)]) hx hb d_M_findsWitnesses_10 rfl hl (by decide) rfl (fun ls hl => ?_)
    rw [hK11] at hB
    exact hB _ _ _ hg hw hS (lv_sub hl [1, 2, 0] rfl)
  · intro x1 x2 σ hB
    rw [hK11]
    intro H locs ls hg hw hS hl
    have hsb := hg _ _ hsb0
    refine lv_iload_n hx hb d_M_findsWitnesses_11 rfl (lv_at hl 2 rfl) ?_
    refine lv_bipush (v := nI 27) hx hb d_M_findsWitnesses_12 (by decide) ?_
    refine lv_icmp_gt (tgt := 101) hx hb d_M_findsWitnesses_14 (by decide) (fun cd => ?_) (fun cd => ?_)
    · have hB := hB.1 cd
      exact zr_vret hx hb hr hlocks hB hg hw hS d_M_findsWitnesses_101
    · have hB := hB.2 cd
      refine zr_aload_n (o := some b) hx hb d_M_findsWitnesses_17 rfl (lv_at hl 0 rfl) ?_
      refine zr_get (v := .int (s_i σ b 14)) hx hb hC hw rfl hsb fl_M_117 rfl d_M_findsWitnesses_18 ?_
      refine lv_bipush (v := nI 12) hx hb d_M_findsWitnesses_21 (by decide) ?_
      refine lv_icmp_ge (tgt := 101) hx hb d_M_findsWitnesses_23 (by decide) (fun cd => ?_) (fun cd => ?_)
      · have hB := hB.1 cd
        exact zr_vret hx hb hr hlocks hB hg hw hS d_M_findsWitnesses_101
      · have hB := hB.2 cd
        refine lv_iconst (v := nI 0) hx hb d_M_findsWitnesses_26 (by decide) ?_
        refine lv_istore_n (lv' := [(3, .int (nI 0)), (0, va_rf (some b)), (1, .int x1), (2, .int x2)]) hx hb d_M_findsWitnesses_27 rfl hl (by decide) rfl (fun ls hl => ?_)
        rw [hK28] at hB
        exact hB _ _ _ hg hw hS (lv_sub hl [1, 2, 3, 0] rfl)
  · intro x1 x2 x3 σ hB
    rw [hK28]
    intro H locs ls hg hw hS hl
    have hsb := hg _ _ hsb0
    refine lv_iload_n hx hb d_M_findsWitnesses_28 rfl (lv_at hl 3 rfl) ?_
    refine lv_sipush (v := nI 3341) hx hb d_M_findsWitnesses_29 (by decide) ?_
    refine lv_icmp_ge (tgt := 95) hx hb d_M_findsWitnesses_32 (by decide) (fun cd => ?_) (fun cd => ?_)
    · have hB := hB.1 cd
      refine lv_iinc (v := x2 + nI 1) (lv' := [(2, .int (x2 + nI 1)), (0, va_rf (some b)), (1, .int x1), (3, .int x3)]) hx hb d_M_findsWitnesses_95 hl (k := 2) rfl rfl (by decide) rfl (fun ls hl => ?_)
      refine lv_goto (tgt := 11) hx hb d_M_findsWitnesses_98 (by decide) ?_
      rw [hK11] at hB
      exact hB _ _ _ hg hw hS (lv_sub hl [1, 2, 0] rfl)
    · have hB := hB.2 cd
      refine zr_aload_n (o := some b) hx hb d_M_findsWitnesses_35 rfl (lv_at hl 0 rfl) ?_
      refine zr_get (v := .int (s_i σ b 14)) hx hb hC hw rfl hsb fl_M_117 rfl d_M_findsWitnesses_36 ?_
      refine lv_bipush (v := nI 12) hx hb d_M_findsWitnesses_39 (by decide) ?_
      refine lv_icmp_ge (tgt := 95) hx hb d_M_findsWitnesses_41 (by decide) (fun cd => ?_) (fun cd => ?_)
      · have hB := hB.1 cd
        refine lv_iinc (v := x2 + nI 1) (lv' := [(2, .int (x2 + nI 1)), (0, va_rf (some b)), (1, .int x1), (3, .int x3)]) hx hb d_M_findsWitnesses_95 hl (k := 2) rfl rfl (by decide) rfl (fun ls hl => ?_)
        refine lv_goto (tgt := 11) hx hb d_M_findsWitnesses_98 (by decide) ?_
        rw [hK11] at hB
        exact hB _ _ _ hg hw hS (lv_sub hl [1, 2, 0] rfl)
      · have hB := hB.2 cd
        refine zr_aload_n (o := some b) hx hb d_M_findsWitnesses_44 rfl (lv_at hl 0 rfl) ?_
        refine zr_get (v := va_rf (s_r σ b 10)) hx hb hC hw rfl hsb fl_M_34 rfl d_M_findsWitnesses_45 ?_
        refine lv_sipush (v := nI 3341) hx hb d_M_findsWitnesses_48 (by decide) ?_
        refine lv_iload_n hx hb d_M_findsWitnesses_51 rfl (lv_at hl 1 rfl) ?_
        refine lv_imul hx hb d_M_findsWitnesses_52 ?_
        refine lv_iload_n hx hb d_M_findsWitnesses_53 rfl (lv_at hl 3 rfl) ?_
        refine lv_iadd hx hb d_M_findsWitnesses_54 ?_
        obtain ⟨q1, n1, j2, ho, hs, hin, hj, hB⟩ := hB
        refine zr_iald hx hb hw ho hs hin hj d_M_findsWitnesses_55 ?_
        refine lv_iload_n hx hb d_M_findsWitnesses_56 rfl (lv_at hl 2 rfl) ?_
        refine lv_icmp_ne (tgt := 89) hx hb d_M_findsWitnesses_57 (by decide) (fun cd => ?_) (fun cd => ?_)
        · have hB := hB.2 cd
          refine lv_iinc (v := x3 + nI 1) (lv' := [(3, .int (x3 + nI 1)), (0, va_rf (some b)), (1, .int x1), (2, .int x2)]) hx hb d_M_findsWitnesses_89 hl (k := 3) rfl rfl (by decide) rfl (fun ls hl => ?_)
          refine lv_goto (tgt := 28) hx hb d_M_findsWitnesses_92 (by decide) ?_
          rw [hK28] at hB
          exact hB _ _ _ hg hw hS (lv_sub hl [1, 2, 3, 0] rfl)
        · have hB := hB.1 cd
          refine zr_aload_n (o := some b) hx hb d_M_findsWitnesses_60 rfl (lv_at hl 0 rfl) ?_
          refine lv_iload_n hx hb d_M_findsWitnesses_61 rfl (lv_at hl 3 rfl) ?_
          refine lv_iload_n hx hb d_M_findsWitnesses_62 rfl (lv_at hl 1 rfl) ?_
          have hsr := And.left hB
          refine zr_callV (ci := 9) (As := [.int x3, .int x1]) (rest := []) hx hb hml hC hwk hw hS hl.1 (c_M_hold l D B b x3 x1 σ _ hB) mk_M_hold mi_M_hold ms_M_hold ml_M_120 ⟨Nat.le_of_ble_eq_true rfl, Nat.le_of_ble_eq_true rfl⟩ rfl hsr rfl (cat_8 cat_n (Nat.le_of_ble_eq_true rfl)) d_M_findsWitnesses_63 ⟨Nat.le_refl _, Nat.le_refl _⟩ rfl (fun v σ3 H locs hp hgn hw hS => ?_)
          have hg := hg.tr hgn
          have hsb := hgn _ _ hsb
          obtain ⟨r4, rfl, hB⟩ := hp
          refine W.eq (g2 := F0 m 66 ls [.int r4]) rfl ?_
          refine lv_if_eq (tgt := 89) hx hb d_M_findsWitnesses_66 (by decide) (fun cd => ?_) (fun cd => ?_)
          · have hB := hB.1 cd
            refine lv_iinc (v := x3 + nI 1) (lv' := [(3, .int (x3 + nI 1)), (0, va_rf (some b)), (1, .int x1), (2, .int x2)]) hx hb d_M_findsWitnesses_89 hl (k := 3) rfl rfl (by decide) rfl (fun ls hl => ?_)
            refine lv_goto (tgt := 28) hx hb d_M_findsWitnesses_92 (by decide) ?_
            rw [hK28] at hB
            exact hB _ _ _ hg hw hS (lv_sub hl [1, 2, 3, 0] rfl)
          · have hB := hB.2 cd
            refine zr_aload_n (o := some b) hx hb d_M_findsWitnesses_69 rfl (lv_at hl 0 rfl) ?_
            refine zr_get (v := va_rf (s_r σ3 b 13)) hx hb hC hw rfl hsb fl_M_40 rfl d_M_findsWitnesses_70 ?_
            refine zr_aload_n (o := some b) hx hb d_M_findsWitnesses_73 rfl (lv_at hl 0 rfl) ?_
            refine zr_get (v := .int (s_i σ3 b 14)) hx hb hC hw rfl hsb fl_M_117 rfl d_M_findsWitnesses_74 ?_
            refine lv_iload_n hx hb d_M_findsWitnesses_77 rfl (lv_at hl 3 rfl) ?_
            obtain ⟨q5, n5, j6, ho, hs, hin, hj, hB⟩ := hB
            refine zr_iast hx hb hw hS ho hs hin hj d_M_findsWitnesses_78 (fun H locs hw hS => ?_)
            refine zr_aload_n (o := some b) hx hb d_M_findsWitnesses_79 rfl (lv_at hl 0 rfl) ?_
            refine lv_dup hx hb d_M_findsWitnesses_80 (va_rf_cat _) ?_
            refine zr_get (v := .int (s_i (w_i σ3 q5 j6 x3) b 14)) hx hb hC hw rfl hsb fl_M_117 rfl d_M_findsWitnesses_81 ?_
            refine lv_iconst (v := nI 1) hx hb d_M_findsWitnesses_84 (by decide) ?_
            refine lv_iadd hx hb d_M_findsWitnesses_85 ?_
            refine zr_putI hx hb hC hw hS rfl hsb fl_M_117 rfl rfl d_M_findsWitnesses_86 (fun H locs hw hS => ?_)
            refine lv_iinc (v := x3 + nI 1) (lv' := [(3, .int (x3 + nI 1)), (0, va_rf (some b)), (1, .int x1), (2, .int x2)]) hx hb d_M_findsWitnesses_89 hl (k := 3) rfl rfl (by decide) rfl (fun ls hl => ?_)
            refine lv_goto (tgt := 28) hx hb d_M_findsWitnesses_92 (by decide) ?_
            rw [hK28] at hB
            exact hB _ _ _ hg hw hS (lv_sub hl [1, 2, 3, 0] rfl)

set_option maxHeartbeats 4000000 in
set_option maxRecDepth 100000 in
theorem c_M_refute (l : Launch) (D : va_G) (B : Nat) (b : Nat) (x1 : Int32) (σ : St) (Q : Int32 → St → Prop) (h : P_M_refute b x1 σ Q) : zM l y_M_refute b_M_refute 2 (some (.int)) (rm_M_refute) D B [.ref b, .int x1] σ (zQi Q) := by
  refine zM.ofW (own := "LawWorldsModel") (by decide +kernel) rfl (Nat.le_of_ble_eq_true rfl) ?_
  intro p e s m args below meth c ls hx hb hml hr hlocks hname hC hwk hw hS hl
  obtain ⟨σ0, eσ⟩ : ∃ z, z = σ := ⟨_, rfl⟩
  have hg : gr σ0 σ := by rw [eσ]; exact gr.rf
  have hl : lv_has ls 2 [(0, va_rf (some b)), (1, .int x1)] := hl
  obtain ⟨hsb, hB⟩ := h
  have hsb0 : s_s σ0 b = some (.inl 9) := by rw [eσ]; exact hsb
  rw [← eσ]
  skip
  refine zr_aload_n (o := some b) hx hb d_M_refute_0 rfl (lv_at hl 0 rfl) ?_
  refine lv_iload_n hx hb d_M_refute_1 rfl (lv_at hl 1 rfl) ?_
  have hsr := And.left hB
  refine zr_callV (ci := 9) (As := [.int x1]) (rest := []) hx hb hml hC hwk hw hS hl.1 (c_M_isLaw l D B b x1 σ _ hB) mk_M_isLaw mi_M_isLaw ms_M_isLaw ml_M_189 ⟨Nat.le_of_ble_eq_true rfl, Nat.le_of_ble_eq_true rfl⟩ rfl hsr rfl (cat_8 cat_n (Nat.le_of_ble_eq_true rfl)) d_M_refute_2 ⟨Nat.le_refl _, Nat.le_refl _⟩ rfl (fun v σ1 H locs hp hgn hw hS => ?_)
  have hg := hg.tr hgn
  have hsb := hgn _ _ hsb
  obtain ⟨r2, rfl, hB⟩ := hp
  refine W.eq (g2 := F0 m 5 ls [.int r2]) rfl ?_
  refine lv_if_ne (tgt := 10) hx hb d_M_refute_5 (by decide) (fun cd => ?_) (fun cd => ?_)
  · have hB := hB.2 cd
    refine zr_aload_n (o := some b) hx hb d_M_refute_10 rfl (lv_at hl 0 rfl) ?_
    refine lv_iload_n hx hb d_M_refute_11 rfl (lv_at hl 1 rfl) ?_
    have hsr := And.left hB
    refine zr_callV (ci := 9) (As := [.int x1]) (rest := []) hx hb hml hC hwk hw hS hl.1 (c_M_findsWitnesses l D B b x1 σ1 _ hB) mk_M_findsWitnesses mi_M_findsWitnesses ms_M_findsWitnesses ml_M_124 ⟨Nat.le_of_ble_eq_true rfl, Nat.le_of_ble_eq_true rfl⟩ rfl hsr rfl (cat_8 cat_n (Nat.le_of_ble_eq_true rfl)) d_M_refute_12 ⟨Nat.le_refl _, Nat.le_refl _⟩ rfl (fun v σ3 H locs hp hgn hw hS => ?_)
    have hg := hg.tr hgn
    have hsb := hgn _ _ hsb
    obtain ⟨rfl, hB⟩ := hp
    refine W.eq (g2 := F0 m 15 ls []) rfl ?_
    refine zr_aload_n (o := some b) hx hb d_M_refute_15 rfl (lv_at hl 0 rfl) ?_
    refine zr_get (v := .int (s_i σ3 b 14)) hx hb hC hw rfl hsb fl_M_117 rfl d_M_refute_16 ?_
    refine lv_if_ne (tgt := 25) hx hb d_M_refute_19 (by decide) (fun cd => ?_) (fun cd => ?_)
    · have hB := hB.2 cd
      refine zr_aload_n (o := some b) hx hb d_M_refute_25 rfl (lv_at hl 0 rfl) ?_
      have hsr := And.left hB
      refine zr_callV (ci := 9) (As := []) (rest := []) hx hb hml hC hwk hw hS hl.1 (c_M_remember l D B b σ3 _ hB) mk_M_remember mi_M_remember ms_M_remember ml_M_128 ⟨Nat.le_of_ble_eq_true rfl, Nat.le_of_ble_eq_true rfl⟩ rfl hsr rfl (cat_8 cat_n (Nat.le_of_ble_eq_true rfl)) d_M_refute_26 ⟨Nat.le_refl _, Nat.le_refl _⟩ rfl (fun v σ4 H locs hp hgn hw hS => ?_)
      have hg := hg.tr hgn
      have hsb := hgn _ _ hsb
      obtain ⟨rfl, hB⟩ := hp
      refine W.eq (g2 := F0 m 29 ls []) rfl ?_
      refine zr_aload_n (o := some b) hx hb d_M_refute_29 rfl (lv_at hl 0 rfl) ?_
      refine zr_get (v := va_rf (s_r σ4 b 0)) hx hb hC hw rfl hsb fl_M_7 rfl d_M_refute_30 ?_
      refine lv_iconst (v := nI 0) hx hb d_M_refute_33 (by decide) ?_
      refine zr_aload_n (o := some b) hx hb d_M_refute_34 rfl (lv_at hl 0 rfl) ?_
      refine zr_get (v := va_rf (s_r σ4 b 7)) hx hb hC hw rfl hsb fl_M_25 rfl d_M_refute_35 ?_
      refine zr_aload_n (o := some b) hx hb d_M_refute_38 rfl (lv_at hl 0 rfl) ?_
      refine zr_get (v := va_rf (s_r σ4 b 13)) hx hb hC hw rfl hsb fl_M_40 rfl d_M_refute_39 ?_
      refine lv_iconst (v := nI 0) hx hb d_M_refute_42 (by decide) ?_
      obtain ⟨q5, n5, j6, ho, hs, hin, hj, hB⟩ := hB
      refine zr_iald hx hb hw ho hs hin hj d_M_refute_43 ?_
      refine zr_callS (As := [va_rf (s_r σ4 b 7), .int (s_i σ4 q5 j6)]) (rest := [.int (nI 0), va_rf (s_r σ4 b 0)]) hx hb hml hC hwk hw hS hl.1 (c_M_sizeAt l D B (s_r σ4 b 7) (s_i σ4 q5 j6) σ4 _ hB) mk_M_sizeAt mt_M_sizeAt ml_M_107 ⟨Nat.le_of_ble_eq_true rfl, Nat.le_of_ble_eq_true rfl⟩ rfl (cat_8 (cat_c rfl (cat_c (va_rf_cat _) cat_n)) (Nat.le_of_ble_eq_true rfl)) d_M_refute_44 ⟨Nat.le_refl _, Nat.le_refl _⟩ rfl (fun v σ7 H locs hp hgn hw hS => ?_)
      have hg := hg.tr hgn
      have hsb := hgn _ _ hsb
      obtain ⟨r8, rfl, hB⟩ := hp
      refine W.eq (g2 := F0 m 47 ls [.int r8, .int (nI 0), va_rf (s_r σ4 b 0)]) rfl ?_
      obtain ⟨q9, n9, j10, ho, hs, hin, hj, hB⟩ := hB
      refine zr_iast hx hb hw hS ho hs hin hj d_M_refute_47 (fun H locs hw hS => ?_)
      refine zr_aload_n (o := some b) hx hb d_M_refute_48 rfl (lv_at hl 0 rfl) ?_
      refine zr_get (v := va_rf (s_r (w_i σ7 q9 j10 r8) b 0)) hx hb hC hw rfl hsb fl_M_7 rfl d_M_refute_49 ?_
      refine lv_iconst (v := nI 1) hx hb d_M_refute_52 (by decide) ?_
      refine zr_aload_n (o := some b) hx hb d_M_refute_53 rfl (lv_at hl 0 rfl) ?_
      refine zr_get (v := va_rf (s_r (w_i σ7 q9 j10 r8) b 6)) hx hb hC hw rfl hsb fl_M_22 rfl d_M_refute_54 ?_
      refine zr_aload_n (o := some b) hx hb d_M_refute_57 rfl (lv_at hl 0 rfl) ?_
      refine zr_get (v := va_rf (s_r (w_i σ7 q9 j10 r8) b 13)) hx hb hC hw rfl hsb fl_M_40 rfl d_M_refute_58 ?_
      refine lv_iconst (v := nI 0) hx hb d_M_refute_61 (by decide) ?_
      obtain ⟨q11, n11, j12, ho, hs, hin, hj, hB⟩ := hB
      refine zr_iald hx hb hw ho hs hin hj d_M_refute_62 ?_
      obtain ⟨q13, n13, j14, ho, hs, hin, hj, hB⟩ := hB
      refine zr_iald hx hb hw ho hs hin hj d_M_refute_63 ?_
      obtain ⟨q15, n15, j16, ho, hs, hin, hj, hB⟩ := hB
      refine zr_iast hx hb hw hS ho hs hin hj d_M_refute_64 (fun H locs hw hS => ?_)
      refine zr_aload_n (o := some b) hx hb d_M_refute_65 rfl (lv_at hl 0 rfl) ?_
      refine zr_aload_n (o := some b) hx hb d_M_refute_66 rfl (lv_at hl 0 rfl) ?_
      refine zr_get (v := va_rf (s_r (w_i (w_i σ7 q9 j10 r8) q15 j16 (s_i (w_i σ7 q9 j10 r8) q13 j14)) b 0)) hx hb hC hw rfl hsb fl_M_7 rfl d_M_refute_67 ?_
      refine lv_iconst (v := nI 1) hx hb d_M_refute_70 (by decide) ?_
      obtain ⟨q17, n17, j18, ho, hs, hin, hj, hB⟩ := hB
      refine zr_iald hx hb hw ho hs hin hj d_M_refute_71 ?_
      have hsr := And.left hB
      refine zr_callV (ci := 9) (As := [.int (s_i (w_i (w_i σ7 q9 j10 r8) q15 j16 (s_i (w_i σ7 q9 j10 r8) q13 j14)) q17 j18)]) (rest := []) hx hb hml hC hwk hw hS hl.1 (c_M_acted l D B b (s_i (w_i (w_i σ7 q9 j10 r8) q15 j16 (s_i (w_i σ7 q9 j10 r8) q13 j14)) q17 j18) (w_i (w_i σ7 q9 j10 r8) q15 j16 (s_i (w_i σ7 q9 j10 r8) q13 j14)) _ hB) mk_M_acted mi_M_acted ms_M_acted ml_M_131 ⟨Nat.le_of_ble_eq_true rfl, Nat.le_of_ble_eq_true rfl⟩ rfl hsr rfl (cat_8 cat_n (Nat.le_of_ble_eq_true rfl)) d_M_refute_72 ⟨Nat.le_refl _, Nat.le_refl _⟩ rfl (fun v σ19 H locs hp hgn hw hS => ?_)
      have hg := hg.tr hgn
      have hsb := hgn _ _ hsb
      obtain ⟨r20, rfl, hB⟩ := hp
      refine W.eq (g2 := F0 m 75 ls [.int r20]) rfl ?_
      exact zr_iret hx hb hr hlocks hB hg hw hS d_M_refute_75
    · have hB := hB.1 cd
      refine lv_bipush (v := (-5)) hx hb d_M_refute_22 (by decide) ?_
      exact zr_iret hx hb hr hlocks hB hg hw hS d_M_refute_24
  · have hB := hB.1 cd
    refine lv_iconst (v := (-1)) hx hb d_M_refute_8 (by decide) ?_
    exact zr_iret hx hb hr hlocks hB hg hw hS d_M_refute_9

set_option maxHeartbeats 4000000 in
set_option maxRecDepth 100000 in
theorem c_M_undo (l : Launch) (D : va_G) (B : Nat) (b : Nat) (σ : St) (Q : Int32 → St → Prop) (h : P_M_undo b σ Q) : zM l y_M_undo b_M_undo 2 (some (.int)) (rm_M_undo) D B [.ref b] σ (zQi Q) := by
  refine zM.ofW (own := "LawWorldsModel") (by decide +kernel) rfl (Nat.le_of_ble_eq_true rfl) ?_
  intro p e s m args below meth c ls hx hb hml hr hlocks hname hC hwk hw hS hl
  obtain ⟨σ0, eσ⟩ : ∃ z, z = σ := ⟨_, rfl⟩
  have hg : gr σ0 σ := by rw [eσ]; exact gr.rf
  have hl : lv_has ls 2 [(0, va_rf (some b))] := hl
  obtain ⟨hsb, hB⟩ := h
  have hsb0 : s_s σ0 b = some (.inl 9) := by rw [eσ]; exact hsb
  rw [← eσ]
  skip
  obtain ⟨K22, hK22⟩ : ∃ K : Int32 → St → Prop, K = (fun (x1 : Int32) (σ : St) => ∀ (H : Heap) (locs : List Loc) (ls : Array Slot), gr σ0 σ → wh D B σ s H → va_S (zA B) s.heap H locs → lv_has ls 2 [(0, va_rf (some b)), (1, .int x1)] → W p l e (rm_M_undo) s m args below meth c H locs 0 0 (MQ below (zQ D B σ0 (zQi Q)) args s (rm_M_undo).cells (rm_M_undo).slots (zA B)) (F0 m 22 ls [])) := ⟨_, rfl⟩
  refine (fun hB => ?_) (hB K22 ?_)
  · skip
    refine zr_aload_n (o := some b) hx hb d_M_undo_0 rfl (lv_at hl 0 rfl) ?_
    refine zr_get (v := .int (s_i σ b 3)) hx hb hC hw rfl hsb fl_M_60 rfl d_M_undo_1 ?_
    refine lv_if_ne (tgt := 10) hx hb d_M_undo_4 (by decide) (fun cd => ?_) (fun cd => ?_)
    · have hB := hB.2 cd
      refine zr_aload_n (o := some b) hx hb d_M_undo_10 rfl (lv_at hl 0 rfl) ?_
      refine lv_dup hx hb d_M_undo_11 (va_rf_cat _) ?_
      refine zr_get (v := .int (s_i σ b 3)) hx hb hC hw rfl hsb fl_M_60 rfl d_M_undo_12 ?_
      refine lv_iconst (v := nI 1) hx hb d_M_undo_15 (by decide) ?_
      refine lv_isub hx hb d_M_undo_16 ?_
      refine zr_putI hx hb hC hw hS rfl hsb fl_M_60 rfl rfl d_M_undo_17 (fun H locs hw hS => ?_)
      refine lv_iconst (v := nI 0) hx hb d_M_undo_20 (by decide) ?_
      refine lv_istore_n (lv' := [(1, .int (nI 0)), (0, va_rf (some b))]) hx hb d_M_undo_21 rfl hl (by decide) rfl (fun ls hl => ?_)
      rw [hK22] at hB
      exact hB _ _ _ hg hw hS (lv_sub hl [1, 0] rfl)
    · have hB := hB.1 cd
      refine lv_bipush (v := (-5)) hx hb d_M_undo_7 (by decide) ?_
      exact zr_iret hx hb hr hlocks hB hg hw hS d_M_undo_9
  · intro x1 σ hB
    rw [hK22]
    intro H locs ls hg hw hS hl
    have hsb := hg _ _ hsb0
    refine lv_iload_n hx hb d_M_undo_22 rfl (lv_at hl 1 rfl) ?_
    refine lv_sipush (v := nI 176) hx hb d_M_undo_23 (by decide) ?_
    refine lv_icmp_ge (tgt := 56) hx hb d_M_undo_26 (by decide) (fun cd => ?_) (fun cd => ?_)
    · have hB := hB.1 cd
      refine zr_aload_n (o := some b) hx hb d_M_undo_56 rfl (lv_at hl 0 rfl) ?_
      refine zr_get (v := .int (s_i σ b 3)) hx hb hC hw rfl hsb fl_M_60 rfl d_M_undo_57 ?_
      exact zr_iret hx hb hr hlocks hB hg hw hS d_M_undo_60
    · have hB := hB.2 cd
      refine zr_aload_n (o := some b) hx hb d_M_undo_29 rfl (lv_at hl 0 rfl) ?_
      refine zr_get (v := va_rf (s_r σ b 0)) hx hb hC hw rfl hsb fl_M_7 rfl d_M_undo_30 ?_
      refine lv_iload_n hx hb d_M_undo_33 rfl (lv_at hl 1 rfl) ?_
      refine zr_aload_n (o := some b) hx hb d_M_undo_34 rfl (lv_at hl 0 rfl) ?_
      refine zr_get (v := va_rf (s_r σ b 2)) hx hb hC hw rfl hsb fl_M_16 rfl d_M_undo_35 ?_
      refine lv_sipush (v := nI 176) hx hb d_M_undo_38 (by decide) ?_
      refine zr_aload_n (o := some b) hx hb d_M_undo_41 rfl (lv_at hl 0 rfl) ?_
      refine zr_get (v := .int (s_i σ b 3)) hx hb hC hw rfl hsb fl_M_60 rfl d_M_undo_42 ?_
      refine lv_imul hx hb d_M_undo_45 ?_
      refine lv_iload_n hx hb d_M_undo_46 rfl (lv_at hl 1 rfl) ?_
      refine lv_iadd hx hb d_M_undo_47 ?_
      obtain ⟨q1, n1, j2, ho, hs, hin, hj, hB⟩ := hB
      refine zr_iald hx hb hw ho hs hin hj d_M_undo_48 ?_
      obtain ⟨q3, n3, j4, ho, hs, hin, hj, hB⟩ := hB
      refine zr_iast hx hb hw hS ho hs hin hj d_M_undo_49 (fun H locs hw hS => ?_)
      refine lv_iinc (v := x1 + nI 1) (lv' := [(1, .int (x1 + nI 1)), (0, va_rf (some b))]) hx hb d_M_undo_50 hl (k := 1) rfl rfl (by decide) rfl (fun ls hl => ?_)
      refine lv_goto (tgt := 22) hx hb d_M_undo_53 (by decide) ?_
      rw [hK22] at hB
      exact hB _ _ _ hg hw hS (lv_sub hl [1, 0] rfl)

set_option maxHeartbeats 4000000 in
set_option maxRecDepth 100000 in
theorem c_M_keep (l : Launch) (D : va_G) (B : Nat) (b : Nat) (σ : St) (Q : Int32 → St → Prop) (h : P_M_keep b σ Q) : zM l y_M_keep b_M_keep 2 (some (.int)) (rm_M_keep) D B [.ref b] σ (zQi Q) := by
  refine zM.ofW (own := "LawWorldsModel") (by decide +kernel) rfl (Nat.le_of_ble_eq_true rfl) ?_
  intro p e s m args below meth c ls hx hb hml hr hlocks hname hC hwk hw hS hl
  obtain ⟨σ0, eσ⟩ : ∃ z, z = σ := ⟨_, rfl⟩
  have hg : gr σ0 σ := by rw [eσ]; exact gr.rf
  have hl : lv_has ls 2 [(0, va_rf (some b))] := hl
  obtain ⟨hsb, hB⟩ := h
  have hsb0 : s_s σ0 b = some (.inl 9) := by rw [eσ]; exact hsb
  rw [← eσ]
  skip
  obtain ⟨K2, hK2⟩ : ∃ K : Int32 → St → Prop, K = (fun (x1 : Int32) (σ : St) => ∀ (H : Heap) (locs : List Loc) (ls : Array Slot), gr σ0 σ → wh D B σ s H → va_S (zA B) s.heap H locs → lv_has ls 2 [(0, va_rf (some b)), (1, .int x1)] → W p l e (rm_M_keep) s m args below meth c H locs 0 0 (MQ below (zQ D B σ0 (zQi Q)) args s (rm_M_keep).cells (rm_M_keep).slots (zA B)) (F0 m 2 ls [])) := ⟨_, rfl⟩
  refine (fun hB => ?_) (hB K2 ?_)
  · skip
    refine lv_iconst (v := nI 0) hx hb d_M_keep_0 (by decide) ?_
    refine lv_istore_n (lv' := [(1, .int (nI 0)), (0, va_rf (some b))]) hx hb d_M_keep_1 rfl hl (by decide) rfl (fun ls hl => ?_)
    rw [hK2] at hB
    exact hB _ _ _ hg hw hS (lv_sub hl [1, 0] rfl)
  · intro x1 σ hB
    rw [hK2]
    intro H locs ls hg hw hS hl
    have hsb := hg _ _ hsb0
    refine lv_iload_n hx hb d_M_keep_2 rfl (lv_at hl 1 rfl) ?_
    refine lv_sipush (v := nI 176) hx hb d_M_keep_3 (by decide) ?_
    refine lv_icmp_ge (tgt := 27) hx hb d_M_keep_6 (by decide) (fun cd => ?_) (fun cd => ?_)
    · have hB := hB.1 cd
      refine zr_aload_n (o := some b) hx hb d_M_keep_27 rfl (lv_at hl 0 rfl) ?_
      refine lv_iconst (v := nI 1) hx hb d_M_keep_28 (by decide) ?_
      refine zr_putI hx hb hC hw hS rfl hsb fl_M_195 rfl rfl d_M_keep_29 (fun H locs hw hS => ?_)
      refine zr_aload_n (o := some b) hx hb d_M_keep_32 rfl (lv_at hl 0 rfl) ?_
      refine zr_get (v := va_rf (s_r (w_i σ b 5 (nI 1)) b 0)) hx hb hC hw rfl hsb fl_M_7 rfl d_M_keep_33 ?_
      refine lv_iconst (v := nI 2) hx hb d_M_keep_36 (by decide) ?_
      obtain ⟨q1, n1, j2, ho, hs, hin, hj, hB⟩ := hB
      refine zr_iald hx hb hw ho hs hin hj d_M_keep_37 ?_
      exact zr_iret hx hb hr hlocks hB hg hw hS d_M_keep_38
    · have hB := hB.2 cd
      refine zr_aload_n (o := some b) hx hb d_M_keep_9 rfl (lv_at hl 0 rfl) ?_
      refine zr_get (v := va_rf (s_r σ b 4)) hx hb hC hw rfl hsb fl_M_19 rfl d_M_keep_10 ?_
      refine lv_iload_n hx hb d_M_keep_13 rfl (lv_at hl 1 rfl) ?_
      refine zr_aload_n (o := some b) hx hb d_M_keep_14 rfl (lv_at hl 0 rfl) ?_
      refine zr_get (v := va_rf (s_r σ b 0)) hx hb hC hw rfl hsb fl_M_7 rfl d_M_keep_15 ?_
      refine lv_iload_n hx hb d_M_keep_18 rfl (lv_at hl 1 rfl) ?_
      obtain ⟨q3, n3, j4, ho, hs, hin, hj, hB⟩ := hB
      refine zr_iald hx hb hw ho hs hin hj d_M_keep_19 ?_
      obtain ⟨q5, n5, j6, ho, hs, hin, hj, hB⟩ := hB
      refine zr_iast hx hb hw hS ho hs hin hj d_M_keep_20 (fun H locs hw hS => ?_)
      refine lv_iinc (v := x1 + nI 1) (lv' := [(1, .int (x1 + nI 1)), (0, va_rf (some b))]) hx hb d_M_keep_21 hl (k := 1) rfl rfl (by decide) rfl (fun ls hl => ?_)
      refine lv_goto (tgt := 2) hx hb d_M_keep_24 (by decide) ?_
      rw [hK2] at hB
      exact hB _ _ _ hg hw hS (lv_sub hl [1, 0] rfl)

set_option maxHeartbeats 4000000 in
set_option maxRecDepth 100000 in
theorem c_M_restore (l : Launch) (D : va_G) (B : Nat) (b : Nat) (σ : St) (Q : Int32 → St → Prop) (h : P_M_restore b σ Q) : zM l y_M_restore b_M_restore 2 (some (.int)) (rm_M_restore) D B [.ref b] σ (zQi Q) := by
  refine zM.ofW (own := "LawWorldsModel") (by decide +kernel) rfl (Nat.le_of_ble_eq_true rfl) ?_
  intro p e s m args below meth c ls hx hb hml hr hlocks hname hC hwk hw hS hl
  obtain ⟨σ0, eσ⟩ : ∃ z, z = σ := ⟨_, rfl⟩
  have hg : gr σ0 σ := by rw [eσ]; exact gr.rf
  have hl : lv_has ls 2 [(0, va_rf (some b))] := hl
  obtain ⟨hsb, hB⟩ := h
  have hsb0 : s_s σ0 b = some (.inl 9) := by rw [eσ]; exact hsb
  rw [← eσ]
  skip
  obtain ⟨K16, hK16⟩ : ∃ K : Int32 → St → Prop, K = (fun (x1 : Int32) (σ : St) => ∀ (H : Heap) (locs : List Loc) (ls : Array Slot), gr σ0 σ → wh D B σ s H → va_S (zA B) s.heap H locs → lv_has ls 2 [(0, va_rf (some b)), (1, .int x1)] → W p l e (rm_M_restore) s m args below meth c H locs 0 0 (MQ below (zQ D B σ0 (zQi Q)) args s (rm_M_restore).cells (rm_M_restore).slots (zA B)) (F0 m 16 ls [])) := ⟨_, rfl⟩
  refine (fun hB => ?_) (hB K16 ?_)
  · skip
    refine zr_aload_n (o := some b) hx hb d_M_restore_0 rfl (lv_at hl 0 rfl) ?_
    refine zr_get (v := .int (s_i σ b 5)) hx hb hC hw rfl hsb fl_M_195 rfl d_M_restore_1 ?_
    refine lv_if_ne (tgt := 10) hx hb d_M_restore_4 (by decide) (fun cd => ?_) (fun cd => ?_)
    · have hB := hB.2 cd
      refine zr_aload_n (o := some b) hx hb d_M_restore_10 rfl (lv_at hl 0 rfl) ?_
      have hsr := And.left hB
      refine zr_callV (ci := 9) (As := []) (rest := []) hx hb hml hC hwk hw hS hl.1 (c_M_remember l D B b σ _ hB) mk_M_remember mi_M_remember ms_M_remember ml_M_128 ⟨Nat.le_of_ble_eq_true rfl, Nat.le_of_ble_eq_true rfl⟩ rfl hsr rfl (cat_8 cat_n (Nat.le_of_ble_eq_true rfl)) d_M_restore_11 ⟨Nat.le_refl _, Nat.le_refl _⟩ rfl (fun v σ9 H locs hp hgn hw hS => ?_)
      have hg := hg.tr hgn
      have hsb := hgn _ _ hsb
      obtain ⟨rfl, hB⟩ := hp
      refine W.eq (g2 := F0 m 14 ls []) rfl ?_
      refine lv_iconst (v := nI 0) hx hb d_M_restore_14 (by decide) ?_
      refine lv_istore_n (lv' := [(1, .int (nI 0)), (0, va_rf (some b))]) hx hb d_M_restore_15 rfl hl (by decide) rfl (fun ls hl => ?_)
      rw [hK16] at hB
      exact hB _ _ _ hg hw hS (lv_sub hl [1, 0] rfl)
    · have hB := hB.1 cd
      refine lv_bipush (v := (-5)) hx hb d_M_restore_7 (by decide) ?_
      exact zr_iret hx hb hr hlocks hB hg hw hS d_M_restore_9
  · intro x1 σ hB
    rw [hK16]
    intro H locs ls hg hw hS hl
    have hsb := hg _ _ hsb0
    refine lv_iload_n hx hb d_M_restore_16 rfl (lv_at hl 1 rfl) ?_
    refine lv_sipush (v := nI 176) hx hb d_M_restore_17 (by decide) ?_
    refine lv_icmp_ge (tgt := 41) hx hb d_M_restore_20 (by decide) (fun cd => ?_) (fun cd => ?_)
    · have hB := hB.1 cd
      refine zr_aload_n (o := some b) hx hb d_M_restore_41 rfl (lv_at hl 0 rfl) ?_
      refine zr_aload_n (o := some b) hx hb d_M_restore_42 rfl (lv_at hl 0 rfl) ?_
      refine zr_get (v := va_rf (s_r σ b 0)) hx hb hC hw rfl hsb fl_M_7 rfl d_M_restore_43 ?_
      refine lv_iconst (v := nI 2) hx hb d_M_restore_46 (by decide) ?_
      obtain ⟨q1, n1, j2, ho, hs, hin, hj, hB⟩ := hB
      refine zr_iald hx hb hw ho hs hin hj d_M_restore_47 ?_
      have hsr := And.left hB
      refine zr_callV (ci := 9) (As := [.int (s_i σ q1 j2)]) (rest := []) hx hb hml hC hwk hw hS hl.1 (c_M_acted l D B b (s_i σ q1 j2) σ _ hB) mk_M_acted mi_M_acted ms_M_acted ml_M_131 ⟨Nat.le_of_ble_eq_true rfl, Nat.le_of_ble_eq_true rfl⟩ rfl hsr rfl (cat_8 cat_n (Nat.le_of_ble_eq_true rfl)) d_M_restore_48 ⟨Nat.le_refl _, Nat.le_refl _⟩ rfl (fun v σ3 H locs hp hgn hw hS => ?_)
      have hg := hg.tr hgn
      have hsb := hgn _ _ hsb
      obtain ⟨r4, rfl, hB⟩ := hp
      refine W.eq (g2 := F0 m 51 ls [.int r4]) rfl ?_
      exact zr_iret hx hb hr hlocks hB hg hw hS d_M_restore_51
    · have hB := hB.2 cd
      refine zr_aload_n (o := some b) hx hb d_M_restore_23 rfl (lv_at hl 0 rfl) ?_
      refine zr_get (v := va_rf (s_r σ b 0)) hx hb hC hw rfl hsb fl_M_7 rfl d_M_restore_24 ?_
      refine lv_iload_n hx hb d_M_restore_27 rfl (lv_at hl 1 rfl) ?_
      refine zr_aload_n (o := some b) hx hb d_M_restore_28 rfl (lv_at hl 0 rfl) ?_
      refine zr_get (v := va_rf (s_r σ b 4)) hx hb hC hw rfl hsb fl_M_19 rfl d_M_restore_29 ?_
      refine lv_iload_n hx hb d_M_restore_32 rfl (lv_at hl 1 rfl) ?_
      obtain ⟨q5, n5, j6, ho, hs, hin, hj, hB⟩ := hB
      refine zr_iald hx hb hw ho hs hin hj d_M_restore_33 ?_
      obtain ⟨q7, n7, j8, ho, hs, hin, hj, hB⟩ := hB
      refine zr_iast hx hb hw hS ho hs hin hj d_M_restore_34 (fun H locs hw hS => ?_)
      refine lv_iinc (v := x1 + nI 1) (lv' := [(1, .int (x1 + nI 1)), (0, va_rf (some b))]) hx hb d_M_restore_35 hl (k := 1) rfl rfl (by decide) rfl (fun ls hl => ?_)
      refine lv_goto (tgt := 16) hx hb d_M_restore_38 (by decide) ?_
      rw [hK16] at hB
      exact hB _ _ _ hg hw hS (lv_sub hl [1, 0] rfl)

set_option maxHeartbeats 4000000 in
set_option maxRecDepth 100000 in
theorem c_M_of (l : Launch) (D : va_G) (B : Nat) (b : Nat) (x1 : Int32) (x2 : Int32) (σ : St) (Q : Int32 → St → Prop) (h : P_M_of b x1 x2 σ Q) : zM l y_M_of b_M_of 3 (some (.int)) (rm_M_of) D B [.ref b, .int x1, .int x2] σ (zQi Q) := by
  refine zM.ofW (own := "LawWorldsModel") (by decide +kernel) rfl (Nat.le_of_ble_eq_true rfl) ?_
  intro p e s m args below meth c ls hx hb hml hr hlocks hname hC hwk hw hS hl
  obtain ⟨σ0, eσ⟩ : ∃ z, z = σ := ⟨_, rfl⟩
  have hg : gr σ0 σ := by rw [eσ]; exact gr.rf
  have hl : lv_has ls 3 [(0, va_rf (some b)), (1, .int x1), (2, .int x2)] := hl
  obtain ⟨hsb, hB⟩ := h
  have hsb0 : s_s σ0 b = some (.inl 9) := by rw [eσ]; exact hsb
  rw [← eσ]
  skip
  refine zr_aload_n (o := some b) hx hb d_M_of_0 rfl (lv_at hl 0 rfl) ?_
  refine lv_iload_n hx hb d_M_of_1 rfl (lv_at hl 1 rfl) ?_
  have hsr := And.left hB
  refine zr_callV (ci := 9) (As := [.int x1]) (rest := []) hx hb hml hC hwk hw hS hl.1 (c_M_isThing l D B b x1 σ _ hB) mk_M_isThing mi_M_isThing ms_M_isThing ml_M_137 ⟨Nat.le_of_ble_eq_true rfl, Nat.le_of_ble_eq_true rfl⟩ rfl hsr rfl (cat_8 cat_n (Nat.le_of_ble_eq_true rfl)) d_M_of_2 ⟨Nat.le_refl _, Nat.le_refl _⟩ rfl (fun v σ1 H locs hp hgn hw hS => ?_)
  have hg := hg.tr hgn
  have hsb := hgn _ _ hsb
  obtain ⟨r2, rfl, hB⟩ := hp
  refine W.eq (g2 := F0 m 5 ls [.int r2]) rfl ?_
  refine lv_if_eq (tgt := 36) hx hb d_M_of_5 (by decide) (fun cd => ?_) (fun cd => ?_)
  · have hB := hB.1 cd
    refine lv_iconst (v := (-1)) hx hb d_M_of_36 (by decide) ?_
    exact zr_iret hx hb hr hlocks hB hg hw hS d_M_of_37
  · have hB := hB.2 cd
    refine zr_aload_n (o := some b) hx hb d_M_of_8 rfl (lv_at hl 0 rfl) ?_
    refine lv_iload_n hx hb d_M_of_9 rfl (lv_at hl 2 rfl) ?_
    have hsr := And.left hB
    refine zr_callV (ci := 9) (As := [.int x2]) (rest := []) hx hb hml hC hwk hw hS hl.1 (c_M_isThing l D B b x2 σ1 _ hB) mk_M_isThing mi_M_isThing ms_M_isThing ml_M_137 ⟨Nat.le_of_ble_eq_true rfl, Nat.le_of_ble_eq_true rfl⟩ rfl hsr rfl (cat_8 cat_n (Nat.le_of_ble_eq_true rfl)) d_M_of_10 ⟨Nat.le_refl _, Nat.le_refl _⟩ rfl (fun v σ3 H locs hp hgn hw hS => ?_)
    have hg := hg.tr hgn
    have hsb := hgn _ _ hsb
    obtain ⟨r4, rfl, hB⟩ := hp
    refine W.eq (g2 := F0 m 13 ls [.int r4]) rfl ?_
    refine lv_if_eq (tgt := 36) hx hb d_M_of_13 (by decide) (fun cd => ?_) (fun cd => ?_)
    · have hB := hB.1 cd
      refine lv_iconst (v := (-1)) hx hb d_M_of_36 (by decide) ?_
      exact zr_iret hx hb hr hlocks hB hg hw hS d_M_of_37
    · have hB := hB.2 cd
      refine zr_aload_n (o := some b) hx hb d_M_of_16 rfl (lv_at hl 0 rfl) ?_
      refine zr_get (v := va_rf (s_r σ3 b 0)) hx hb hC hw rfl hsb fl_M_7 rfl d_M_of_17 ?_
      refine lv_iconst (v := nI 0) hx hb d_M_of_20 (by decide) ?_
      obtain ⟨q5, n5, j6, ho, hs, hin, hj, hB⟩ := hB
      refine zr_iald hx hb hw ho hs hin hj d_M_of_21 ?_
      refine zr_aload_n (o := some b) hx hb d_M_of_22 rfl (lv_at hl 0 rfl) ?_
      refine zr_get (v := va_rf (s_r σ3 b 0)) hx hb hC hw rfl hsb fl_M_7 rfl d_M_of_23 ?_
      refine lv_iconst (v := nI 1) hx hb d_M_of_26 (by decide) ?_
      obtain ⟨q7, n7, j8, ho, hs, hin, hj, hB⟩ := hB
      refine zr_iald hx hb hw ho hs hin hj d_M_of_27 ?_
      refine lv_iload_n hx hb d_M_of_28 rfl (lv_at hl 1 rfl) ?_
      refine lv_iload_n hx hb d_M_of_29 rfl (lv_at hl 2 rfl) ?_
      refine zr_callS (As := [.int (s_i σ3 q5 j6), .int (s_i σ3 q7 j8), .int x1, .int x2]) (rest := []) hx hb hml hC hwk hw hS hl.1 (c_M_comes l D B (s_i σ3 q5 j6) (s_i σ3 q7 j8) x1 x2 σ3 _ hB) mk_M_comes mt_M_comes ml_M_140 ⟨Nat.le_of_ble_eq_true rfl, Nat.le_of_ble_eq_true rfl⟩ rfl (cat_8 cat_n (Nat.le_of_ble_eq_true rfl)) d_M_of_30 ⟨Nat.le_refl _, Nat.le_refl _⟩ rfl (fun v σ9 H locs hp hgn hw hS => ?_)
      have hg := hg.tr hgn
      have hsb := hgn _ _ hsb
      obtain ⟨r10, rfl, hB⟩ := hp
      refine W.eq (g2 := F0 m 33 ls [.int r10]) rfl ?_
      refine lv_goto (tgt := 37) hx hb d_M_of_33 (by decide) ?_
      exact zr_iret hx hb hr hlocks hB hg hw hS d_M_of_37

set_option maxHeartbeats 4000000 in
set_option maxRecDepth 100000 in
theorem c_M_alikeTo (l : Launch) (D : va_G) (B : Nat) (b : Nat) (x1 : Int32) (x2 : Int32) (σ : St) (Q : Int32 → St → Prop) (h : P_M_alikeTo b x1 x2 σ Q) : zM l y_M_alikeTo b_M_alikeTo 5 (some (.int)) (rm_M_alikeTo) D B [.ref b, .int x1, .int x2] σ (zQi Q) := by
  refine zM.ofW (own := "LawWorldsModel") (by decide +kernel) rfl (Nat.le_of_ble_eq_true rfl) ?_
  intro p e s m args below meth c ls hx hb hml hr hlocks hname hC hwk hw hS hl
  obtain ⟨σ0, eσ⟩ : ∃ z, z = σ := ⟨_, rfl⟩
  have hg : gr σ0 σ := by rw [eσ]; exact gr.rf
  have hl : lv_has ls 5 [(0, va_rf (some b)), (1, .int x1), (2, .int x2)] := hl
  obtain ⟨hsb, hB⟩ := h
  have hsb0 : s_s σ0 b = some (.inl 9) := by rw [eσ]; exact hsb
  rw [← eσ]
  skip
  obtain ⟨K11, hK11⟩ : ∃ K : Int32 → Int32 → Int32 → Int32 → St → Prop, K = (fun (x1 : Int32) (x2 : Int32) (x3 : Int32) (x4 : Int32) (σ : St) => ∀ (H : Heap) (locs : List Loc) (ls : Array Slot), gr σ0 σ → wh D B σ s H → va_S (zA B) s.heap H locs → lv_has ls 5 [(0, va_rf (some b)), (1, .int x1), (2, .int x2), (3, .int x3), (4, .int x4)] → W p l e (rm_M_alikeTo) s m args below meth c H locs 0 0 (MQ below (zQ D B σ0 (zQi Q)) args s (rm_M_alikeTo).cells (rm_M_alikeTo).slots (zA B)) (F0 m 11 ls [])) := ⟨_, rfl⟩
  refine (fun hB => ?_) (hB K11 ?_)
  · skip
    refine zr_aload_n (o := some b) hx hb d_M_alikeTo_0 rfl (lv_at hl 0 rfl) ?_
    refine lv_iload_n hx hb d_M_alikeTo_1 rfl (lv_at hl 1 rfl) ?_
    refine lv_iload_n hx hb d_M_alikeTo_2 rfl (lv_at hl 2 rfl) ?_
    have hsr := And.left hB
    refine zr_callV (ci := 9) (As := [.int x1, .int x2]) (rest := []) hx hb hml hC hwk hw hS hl.1 (c_M_unfolds l D B b x1 x2 σ _ hB) mk_M_unfolds mi_M_unfolds ms_M_unfolds ml_M_76 ⟨Nat.le_of_ble_eq_true rfl, Nat.le_of_ble_eq_true rfl⟩ rfl hsr rfl (cat_8 cat_n (Nat.le_of_ble_eq_true rfl)) d_M_alikeTo_3 ⟨Nat.le_refl _, Nat.le_refl _⟩ rfl (fun v σ7 H locs hp hgn hw hS => ?_)
    have hg := hg.tr hgn
    have hsb := hgn _ _ hsb
    obtain ⟨rfl, hB⟩ := hp
    refine W.eq (g2 := F0 m 6 ls []) rfl ?_
    refine lv_iconst (v := nI 0) hx hb d_M_alikeTo_6 (by decide) ?_
    refine lv_istore_n (lv' := [(3, .int (nI 0)), (0, va_rf (some b)), (1, .int x1), (2, .int x2)]) hx hb d_M_alikeTo_7 rfl hl (by decide) rfl (fun ls hl => ?_)
    refine lv_iconst (v := nI 0) hx hb d_M_alikeTo_8 (by decide) ?_
    refine lv_istore (lv' := [(4, .int (nI 0)), (3, .int (nI 0)), (0, va_rf (some b)), (1, .int x1), (2, .int x2)]) hx hb d_M_alikeTo_9 hl (by decide) rfl (fun ls hl => ?_)
    rw [hK11] at hB
    exact hB _ _ _ hg hw hS (lv_sub hl [2, 3, 4, 1, 0] rfl)
  · intro x1 x2 x3 x4 σ hB
    rw [hK11]
    intro H locs ls hg hw hS hl
    have hsb := hg _ _ hsb0
    refine lv_iload hx hb d_M_alikeTo_11 (lv_at hl 4 rfl) ?_
    refine lv_iload_n hx hb d_M_alikeTo_13 rfl (lv_at hl 1 rfl) ?_
    refine zr_callS (As := [.int x1]) (rest := [.int x4]) hx hb hml hC hwk hw hS hl.1 (c_M_waysOf l D B x1 σ _ hB) mk_M_waysOf mt_M_waysOf ml_M_80 ⟨Nat.le_of_ble_eq_true rfl, Nat.le_of_ble_eq_true rfl⟩ rfl (cat_8 (cat_c rfl cat_n) (Nat.le_of_ble_eq_true rfl)) d_M_alikeTo_14 ⟨Nat.le_refl _, Nat.le_refl _⟩ rfl (fun v σ1 H locs hp hgn hw hS => ?_)
    have hg := hg.tr hgn
    have hsb := hgn _ _ hsb
    obtain ⟨r2, rfl, hB⟩ := hp
    refine W.eq (g2 := F0 m 17 ls [.int r2, .int x4]) rfl ?_
    refine lv_icmp_ge (tgt := 45) hx hb d_M_alikeTo_17 (by decide) (fun cd => ?_) (fun cd => ?_)
    · have hB := hB.1 cd
      refine lv_iload_n hx hb d_M_alikeTo_45 rfl (lv_at hl 1 rfl) ?_
      refine zr_callS (As := [.int x1]) (rest := []) hx hb hml hC hwk hw hS hl.1 (c_M_waysOf l D B x1 σ1 _ hB) mk_M_waysOf mt_M_waysOf ml_M_80 ⟨Nat.le_of_ble_eq_true rfl, Nat.le_of_ble_eq_true rfl⟩ rfl (cat_8 cat_n (Nat.le_of_ble_eq_true rfl)) d_M_alikeTo_46 ⟨Nat.le_refl _, Nat.le_refl _⟩ rfl (fun v σ3 H locs hp hgn hw hS => ?_)
      have hg := hg.tr hgn
      have hsb := hgn _ _ hsb
      obtain ⟨r4, rfl, hB⟩ := hp
      refine W.eq (g2 := F0 m 49 ls [.int r4]) rfl ?_
      refine lv_iload_n hx hb d_M_alikeTo_49 rfl (lv_at hl 3 rfl) ?_
      refine lv_idiv hx hb d_M_alikeTo_50 hB.1 ?_
      have hB := hB.2
      exact zr_iret hx hb hr hlocks hB hg hw hS d_M_alikeTo_51
    · have hB := hB.2 cd
      refine lv_iload_n hx hb d_M_alikeTo_20 rfl (lv_at hl 3 rfl) ?_
      refine zr_aload_n (o := some b) hx hb d_M_alikeTo_21 rfl (lv_at hl 0 rfl) ?_
      refine lv_iload_n hx hb d_M_alikeTo_22 rfl (lv_at hl 1 rfl) ?_
      refine lv_iload hx hb d_M_alikeTo_23 (lv_at hl 4 rfl) ?_
      have hsr := And.left hB
      refine zr_callV (ci := 9) (As := [.int x1, .int x4]) (rest := [.int x3]) hx hb hml hC hwk hw hS hl.1 (c_M_codeBy l D B b x1 x4 σ1 _ hB) mk_M_codeBy mi_M_codeBy ms_M_codeBy ml_M_83 ⟨Nat.le_of_ble_eq_true rfl, Nat.le_of_ble_eq_true rfl⟩ rfl hsr rfl (cat_8 (cat_c rfl cat_n) (Nat.le_of_ble_eq_true rfl)) d_M_alikeTo_25 ⟨Nat.le_refl _, Nat.le_refl _⟩ rfl (fun v σ5 H locs hp hgn hw hS => ?_)
      have hg := hg.tr hgn
      have hsb := hgn _ _ hsb
      obtain ⟨r6, rfl, hB⟩ := hp
      refine W.eq (g2 := F0 m 28 ls [.int r6, .int x3]) rfl ?_
      refine lv_iload_n hx hb d_M_alikeTo_28 rfl (lv_at hl 2 rfl) ?_
      refine lv_icmp_ne (tgt := 36) hx hb d_M_alikeTo_29 (by decide) (fun cd => ?_) (fun cd => ?_)
      · have hB := hB.2 cd
        refine lv_iconst (v := nI 0) hx hb d_M_alikeTo_36 (by decide) ?_
        refine lv_iadd hx hb d_M_alikeTo_37 ?_
        refine lv_istore_n (lv' := [(3, .int (x3 + (nI 0))), (0, va_rf (some b)), (1, .int x1), (2, .int x2), (4, .int x4)]) hx hb d_M_alikeTo_38 rfl hl (by decide) rfl (fun ls hl => ?_)
        refine lv_iinc (v := x4 + nI 1) (lv' := [(4, .int (x4 + nI 1)), (3, .int (x3 + (nI 0))), (0, va_rf (some b)), (1, .int x1), (2, .int x2)]) hx hb d_M_alikeTo_39 hl (k := 4) rfl rfl (by decide) rfl (fun ls hl => ?_)
        refine lv_goto (tgt := 11) hx hb d_M_alikeTo_42 (by decide) ?_
        rw [hK11] at hB
        exact hB _ _ _ hg hw hS (lv_sub hl [2, 3, 4, 1, 0] rfl)
      · have hB := hB.1 cd
        refine lv_iconst (v := nI 1) hx hb d_M_alikeTo_32 (by decide) ?_
        refine lv_goto (tgt := 37) hx hb d_M_alikeTo_33 (by decide) ?_
        refine lv_iadd hx hb d_M_alikeTo_37 ?_
        refine lv_istore_n (lv' := [(3, .int (x3 + (nI 1))), (0, va_rf (some b)), (1, .int x1), (2, .int x2), (4, .int x4)]) hx hb d_M_alikeTo_38 rfl hl (by decide) rfl (fun ls hl => ?_)
        refine lv_iinc (v := x4 + nI 1) (lv' := [(4, .int (x4 + nI 1)), (3, .int (x3 + (nI 1))), (0, va_rf (some b)), (1, .int x1), (2, .int x2)]) hx hb d_M_alikeTo_39 hl (k := 4) rfl rfl (by decide) rfl (fun ls hl => ?_)
        refine lv_goto (tgt := 11) hx hb d_M_alikeTo_42 (by decide) ?_
        rw [hK11] at hB
        exact hB _ _ _ hg hw hS (lv_sub hl [2, 3, 4, 1, 0] rfl)

set_option maxHeartbeats 4000000 in
set_option maxRecDepth 100000 in
theorem c_M_things (l : Launch) (D : va_G) (B : Nat) (b : Nat) (x1 : Int32) (σ : St) (Q : Int32 → St → Prop) (h : P_M_things b x1 σ Q) : zM l y_M_things b_M_things 7 (some (.int)) (rm_M_things) D B [.ref b, .int x1] σ (zQi Q) := by
  refine zM.ofW (own := "LawWorldsModel") (by decide +kernel) rfl (Nat.le_of_ble_eq_true rfl) ?_
  intro p e s m args below meth c ls hx hb hml hr hlocks hname hC hwk hw hS hl
  obtain ⟨σ0, eσ⟩ : ∃ z, z = σ := ⟨_, rfl⟩
  have hg : gr σ0 σ := by rw [eσ]; exact gr.rf
  have hl : lv_has ls 7 [(0, va_rf (some b)), (1, .int x1)] := hl
  obtain ⟨hsb, hB⟩ := h
  have hsb0 : s_s σ0 b = some (.inl 9) := by rw [eσ]; exact hsb
  rw [← eσ]
  skip
  obtain ⟨K23, hK23⟩ : ∃ K : Int32 → Int32 → Int32 → Int32 → St → Prop, K = (fun (x1 : Int32) (x2 : Int32) (x3 : Int32) (x4 : Int32) (σ : St) => ∀ (H : Heap) (locs : List Loc) (ls : Array Slot), gr σ0 σ → wh D B σ s H → va_S (zA B) s.heap H locs → lv_has ls 7 [(0, va_rf (some b)), (1, .int x1), (2, .int x2), (3, .int x3), (4, .int x4)] → W p l e (rm_M_things) s m args below meth c H locs 0 0 (MQ below (zQ D B σ0 (zQi Q)) args s (rm_M_things).cells (rm_M_things).slots (zA B)) (F0 m 23 ls [])) := ⟨_, rfl⟩
  obtain ⟨K35, hK35⟩ : ∃ K : Int32 → Int32 → Int32 → Int32 → Int32 → Int32 → St → Prop, K = (fun (x1 : Int32) (x2 : Int32) (x3 : Int32) (x4 : Int32) (x5 : Int32) (x6 : Int32) (σ : St) => ∀ (H : Heap) (locs : List Loc) (ls : Array Slot), gr σ0 σ → wh D B σ s H → va_S (zA B) s.heap H locs → lv_has ls 7 [(0, va_rf (some b)), (1, .int x1), (2, .int x2), (3, .int x3), (4, .int x4), (5, .int x5), (6, .int x6)] → W p l e (rm_M_things) s m args below meth c H locs 0 0 (MQ below (zQ D B σ0 (zQi Q)) args s (rm_M_things).cells (rm_M_things).slots (zA B)) (F0 m 35 ls [])) := ⟨_, rfl⟩
  refine (fun hB => ?_) (hB K23 K35 ?_ ?_)
  · skip
    refine zr_aload_n (o := some b) hx hb d_M_things_0 rfl (lv_at hl 0 rfl) ?_
    refine zr_get (v := va_rf (s_r σ b 0)) hx hb hC hw rfl hsb fl_M_7 rfl d_M_things_1 ?_
    refine lv_iconst (v := nI 0) hx hb d_M_things_4 (by decide) ?_
    obtain ⟨q7, n7, j8, ho, hs, hin, hj, hB⟩ := hB
    refine zr_iald hx hb hw ho hs hin hj d_M_things_5 ?_
    refine lv_istore_n (lv' := [(2, .int (s_i σ q7 j8)), (0, va_rf (some b)), (1, .int x1)]) hx hb d_M_things_6 rfl hl (by decide) rfl (fun ls hl => ?_)
    refine lv_iconst (v := nI 0) hx hb d_M_things_7 (by decide) ?_
    refine lv_istore_n (lv' := [(3, .int (nI 0)), (2, .int (s_i σ q7 j8)), (0, va_rf (some b)), (1, .int x1)]) hx hb d_M_things_8 rfl hl (by decide) rfl (fun ls hl => ?_)
    refine zr_aload_n (o := some b) hx hb d_M_things_9 rfl (lv_at hl 2 rfl) ?_
    refine lv_iload_n hx hb d_M_things_10 rfl (lv_at hl 1 rfl) ?_
    refine zr_aload_n (o := some b) hx hb d_M_things_11 rfl (lv_at hl 2 rfl) ?_
    refine zr_get (v := va_rf (s_r σ b 0)) hx hb hC hw rfl hsb fl_M_7 rfl d_M_things_12 ?_
    refine lv_iconst (v := nI 1) hx hb d_M_things_15 (by decide) ?_
    obtain ⟨q9, n9, j10, ho, hs, hin, hj, hB⟩ := hB
    refine zr_iald hx hb hw ho hs hin hj d_M_things_16 ?_
    have hsr := And.left hB
    refine zr_callV (ci := 9) (As := [.int (s_i σ q7 j8), .int (s_i σ q9 j10)]) (rest := []) hx hb hml hC hwk hw hS hl.1 (c_M_unfolds l D B b (s_i σ q7 j8) (s_i σ q9 j10) σ _ hB) mk_M_unfolds mi_M_unfolds ms_M_unfolds ml_M_76 ⟨Nat.le_of_ble_eq_true rfl, Nat.le_of_ble_eq_true rfl⟩ rfl hsr rfl (cat_8 cat_n (Nat.le_of_ble_eq_true rfl)) d_M_things_17 ⟨Nat.le_refl _, Nat.le_refl _⟩ rfl (fun v σ11 H locs hp hgn hw hS => ?_)
    have hg := hg.tr hgn
    have hsb := hgn _ _ hsb
    obtain ⟨rfl, hB⟩ := hp
    refine W.eq (g2 := F0 m 20 ls []) rfl ?_
    refine lv_iconst (v := nI 0) hx hb d_M_things_20 (by decide) ?_
    refine lv_istore (lv' := [(4, .int (nI 0)), (3, .int (nI 0)), (2, .int (s_i σ q7 j8)), (0, va_rf (some b)), (1, .int x1)]) hx hb d_M_things_21 hl (by decide) rfl (fun ls hl => ?_)
    rw [hK23] at hB
    exact hB _ _ _ hg hw hS (lv_sub hl [3, 4, 2, 1, 0] rfl)
  · intro x1 x2 x3 x4 σ hB
    rw [hK23]
    intro H locs ls hg hw hS hl
    have hsb := hg _ _ hsb0
    refine lv_iload hx hb d_M_things_23 (lv_at hl 4 rfl) ?_
    refine lv_iload_n hx hb d_M_things_25 rfl (lv_at hl 2 rfl) ?_
    refine lv_icmp_ge (tgt := 148) hx hb d_M_things_26 (by decide) (fun cd => ?_) (fun cd => ?_)
    · have hB := hB.1 cd
      refine lv_iload_n hx hb d_M_things_148 rfl (lv_at hl 3 rfl) ?_
      exact zr_iret hx hb hr hlocks hB hg hw hS d_M_things_149
    · have hB := hB.2 cd
      refine lv_iconst (v := nI 1) hx hb d_M_things_29 (by decide) ?_
      refine lv_istore (lv' := [(5, .int (nI 1)), (0, va_rf (some b)), (1, .int x1), (2, .int x2), (3, .int x3), (4, .int x4)]) hx hb d_M_things_30 hl (by decide) rfl (fun ls hl => ?_)
      refine lv_iconst (v := nI 0) hx hb d_M_things_32 (by decide) ?_
      refine lv_istore (lv' := [(6, .int (nI 0)), (5, .int (nI 1)), (0, va_rf (some b)), (1, .int x1), (2, .int x2), (3, .int x3), (4, .int x4)]) hx hb d_M_things_33 hl (by decide) rfl (fun ls hl => ?_)
      rw [hK35] at hB
      exact hB _ _ _ hg hw hS (lv_sub hl [2, 3, 4, 5, 6, 1, 0] rfl)
  · intro x1 x2 x3 x4 x5 x6 σ hB
    rw [hK35]
    intro H locs ls hg hw hS hl
    have hsb := hg _ _ hsb0
    refine lv_iload hx hb d_M_things_35 (lv_at hl 6 rfl) ?_
    refine lv_iload_n hx hb d_M_things_37 rfl (lv_at hl 2 rfl) ?_
    refine lv_icmp_ge (tgt := 126) hx hb d_M_things_38 (by decide) (fun cd => ?_) (fun cd => ?_)
    · have hB := hB.1 cd
      refine lv_iload_n hx hb d_M_things_126 rfl (lv_at hl 3 rfl) ?_
      refine lv_iload hx hb d_M_things_127 (lv_at hl 5 rfl) ?_
      refine lv_if_eq (tgt := 139) hx hb d_M_things_129 (by decide) (fun cd => ?_) (fun cd => ?_)
      · have hB := hB.1 cd
        refine lv_iconst (v := nI 0) hx hb d_M_things_139 (by decide) ?_
        refine lv_ior hx hb d_M_things_140 ?_
        refine lv_istore_n (lv' := [(3, .int (x3 ||| (nI 0))), (0, va_rf (some b)), (1, .int x1), (2, .int x2), (4, .int x4), (5, .int x5), (6, .int x6)]) hx hb d_M_things_141 rfl hl (by decide) rfl (fun ls hl => ?_)
        refine lv_iinc (v := x4 + nI 1) (lv' := [(4, .int (x4 + nI 1)), (3, .int (x3 ||| (nI 0))), (0, va_rf (some b)), (1, .int x1), (2, .int x2), (5, .int x5), (6, .int x6)]) hx hb d_M_things_142 hl (k := 4) rfl rfl (by decide) rfl (fun ls hl => ?_)
        refine lv_goto (tgt := 23) hx hb d_M_things_145 (by decide) ?_
        rw [hK23] at hB
        exact hB _ _ _ hg hw hS (lv_sub hl [2, 3, 4, 1, 0] rfl)
      · have hB := hB.2 cd
        refine lv_iconst (v := nI 1) hx hb d_M_things_132 (by decide) ?_
        refine lv_iload hx hb d_M_things_133 (lv_at hl 4 rfl) ?_
        refine zr_ishl hx hb d_M_things_135 ?_
        refine lv_goto (tgt := 140) hx hb d_M_things_136 (by decide) ?_
        refine lv_ior hx hb d_M_things_140 ?_
        refine lv_istore_n (lv' := [(3, .int (x3 ||| (shl (nI 1) x4))), (0, va_rf (some b)), (1, .int x1), (2, .int x2), (4, .int x4), (5, .int x5), (6, .int x6)]) hx hb d_M_things_141 rfl hl (by decide) rfl (fun ls hl => ?_)
        refine lv_iinc (v := x4 + nI 1) (lv' := [(4, .int (x4 + nI 1)), (3, .int (x3 ||| (shl (nI 1) x4))), (0, va_rf (some b)), (1, .int x1), (2, .int x2), (5, .int x5), (6, .int x6)]) hx hb d_M_things_142 hl (k := 4) rfl rfl (by decide) rfl (fun ls hl => ?_)
        refine lv_goto (tgt := 23) hx hb d_M_things_145 (by decide) ?_
        rw [hK23] at hB
        exact hB _ _ _ hg hw hS (lv_sub hl [2, 3, 4, 1, 0] rfl)
    · have hB := hB.2 cd
      refine lv_iload hx hb d_M_things_41 (lv_at hl 5 rfl) ?_
      refine lv_if_eq (tgt := 117) hx hb d_M_things_43 (by decide) (fun cd => ?_) (fun cd => ?_)
      · have hB := hB.1 cd
        refine lv_iconst (v := nI 0) hx hb d_M_things_117 (by decide) ?_
        refine lv_istore (lv' := [(5, .int (nI 0)), (0, va_rf (some b)), (1, .int x1), (2, .int x2), (3, .int x3), (4, .int x4), (6, .int x6)]) hx hb d_M_things_118 hl (by decide) rfl (fun ls hl => ?_)
        refine lv_iinc (v := x6 + nI 1) (lv' := [(6, .int (x6 + nI 1)), (5, .int (nI 0)), (0, va_rf (some b)), (1, .int x1), (2, .int x2), (3, .int x3), (4, .int x4)]) hx hb d_M_things_120 hl (k := 6) rfl rfl (by decide) rfl (fun ls hl => ?_)
        refine lv_goto (tgt := 35) hx hb d_M_things_123 (by decide) ?_
        rw [hK35] at hB
        exact hB _ _ _ hg hw hS (lv_sub hl [2, 3, 4, 5, 6, 1, 0] rfl)
      · have hB := hB.2 cd
        refine lv_iload_n hx hb d_M_things_46 rfl (lv_at hl 1 rfl) ?_
        refine lv_iconst (v := nI 4) hx hb d_M_things_47 (by decide) ?_
        refine lv_icmp_ne (tgt := 71) hx hb d_M_things_48 (by decide) (fun cd => ?_) (fun cd => ?_)
        · have hB := hB.2 cd
          refine lv_iload_n hx hb d_M_things_71 rfl (lv_at hl 1 rfl) ?_
          refine lv_iconst (v := nI 5) hx hb d_M_things_72 (by decide) ?_
          refine lv_icmp_ne (tgt := 96) hx hb d_M_things_73 (by decide) (fun cd => ?_) (fun cd => ?_)
          · have hB := hB.2 cd
            refine zr_aload_n (o := some b) hx hb d_M_things_96 rfl (lv_at hl 0 rfl) ?_
            refine zr_get (v := va_rf (s_r σ b 8)) hx hb hC hw rfl hsb fl_M_28 rfl d_M_things_97 ?_
            refine lv_iload_n hx hb d_M_things_100 rfl (lv_at hl 2 rfl) ?_
            refine lv_iload hx hb d_M_things_101 (lv_at hl 6 rfl) ?_
            refine lv_imul hx hb d_M_things_103 ?_
            refine lv_iload hx hb d_M_things_104 (lv_at hl 4 rfl) ?_
            refine lv_iadd hx hb d_M_things_106 ?_
            obtain ⟨q1, n1, j2, ho, hs, hin, hj, hB⟩ := hB
            refine zr_iald hx hb hw ho hs hin hj d_M_things_107 ?_
            refine lv_iload hx hb d_M_things_108 (lv_at hl 6 rfl) ?_
            refine lv_icmp_ne (tgt := 117) hx hb d_M_things_110 (by decide) (fun cd => ?_) (fun cd => ?_)
            · have hB := hB.2 cd
              refine lv_iconst (v := nI 0) hx hb d_M_things_117 (by decide) ?_
              refine lv_istore (lv' := [(5, .int (nI 0)), (0, va_rf (some b)), (1, .int x1), (2, .int x2), (3, .int x3), (4, .int x4), (6, .int x6)]) hx hb d_M_things_118 hl (by decide) rfl (fun ls hl => ?_)
              refine lv_iinc (v := x6 + nI 1) (lv' := [(6, .int (x6 + nI 1)), (5, .int (nI 0)), (0, va_rf (some b)), (1, .int x1), (2, .int x2), (3, .int x3), (4, .int x4)]) hx hb d_M_things_120 hl (k := 6) rfl rfl (by decide) rfl (fun ls hl => ?_)
              refine lv_goto (tgt := 35) hx hb d_M_things_123 (by decide) ?_
              rw [hK35] at hB
              exact hB _ _ _ hg hw hS (lv_sub hl [2, 3, 4, 5, 6, 1, 0] rfl)
            · have hB := hB.1 cd
              refine lv_iconst (v := nI 1) hx hb d_M_things_113 (by decide) ?_
              refine lv_goto (tgt := 118) hx hb d_M_things_114 (by decide) ?_
              refine lv_istore (lv' := [(5, .int (nI 1)), (0, va_rf (some b)), (1, .int x1), (2, .int x2), (3, .int x3), (4, .int x4), (6, .int x6)]) hx hb d_M_things_118 hl (by decide) rfl (fun ls hl => ?_)
              refine lv_iinc (v := x6 + nI 1) (lv' := [(6, .int (x6 + nI 1)), (5, .int (nI 1)), (0, va_rf (some b)), (1, .int x1), (2, .int x2), (3, .int x3), (4, .int x4)]) hx hb d_M_things_120 hl (k := 6) rfl rfl (by decide) rfl (fun ls hl => ?_)
              refine lv_goto (tgt := 35) hx hb d_M_things_123 (by decide) ?_
              rw [hK35] at hB
              exact hB _ _ _ hg hw hS (lv_sub hl [2, 3, 4, 5, 6, 1, 0] rfl)
          · have hB := hB.1 cd
            refine zr_aload_n (o := some b) hx hb d_M_things_76 rfl (lv_at hl 0 rfl) ?_
            refine zr_get (v := va_rf (s_r σ b 8)) hx hb hC hw rfl hsb fl_M_28 rfl d_M_things_77 ?_
            refine lv_iload_n hx hb d_M_things_80 rfl (lv_at hl 2 rfl) ?_
            refine lv_iload hx hb d_M_things_81 (lv_at hl 4 rfl) ?_
            refine lv_imul hx hb d_M_things_83 ?_
            refine lv_iload hx hb d_M_things_84 (lv_at hl 6 rfl) ?_
            refine lv_iadd hx hb d_M_things_86 ?_
            obtain ⟨q3, n3, j4, ho, hs, hin, hj, hB⟩ := hB
            refine zr_iald hx hb hw ho hs hin hj d_M_things_87 ?_
            refine lv_iload hx hb d_M_things_88 (lv_at hl 6 rfl) ?_
            refine lv_icmp_ne (tgt := 117) hx hb d_M_things_90 (by decide) (fun cd => ?_) (fun cd => ?_)
            · have hB := hB.2 cd
              refine lv_iconst (v := nI 0) hx hb d_M_things_117 (by decide) ?_
              refine lv_istore (lv' := [(5, .int (nI 0)), (0, va_rf (some b)), (1, .int x1), (2, .int x2), (3, .int x3), (4, .int x4), (6, .int x6)]) hx hb d_M_things_118 hl (by decide) rfl (fun ls hl => ?_)
              refine lv_iinc (v := x6 + nI 1) (lv' := [(6, .int (x6 + nI 1)), (5, .int (nI 0)), (0, va_rf (some b)), (1, .int x1), (2, .int x2), (3, .int x3), (4, .int x4)]) hx hb d_M_things_120 hl (k := 6) rfl rfl (by decide) rfl (fun ls hl => ?_)
              refine lv_goto (tgt := 35) hx hb d_M_things_123 (by decide) ?_
              rw [hK35] at hB
              exact hB _ _ _ hg hw hS (lv_sub hl [2, 3, 4, 5, 6, 1, 0] rfl)
            · have hB := hB.1 cd
              refine lv_goto (tgt := 113) hx hb d_M_things_93 (by decide) ?_
              refine lv_iconst (v := nI 1) hx hb d_M_things_113 (by decide) ?_
              refine lv_goto (tgt := 118) hx hb d_M_things_114 (by decide) ?_
              refine lv_istore (lv' := [(5, .int (nI 1)), (0, va_rf (some b)), (1, .int x1), (2, .int x2), (3, .int x3), (4, .int x4), (6, .int x6)]) hx hb d_M_things_118 hl (by decide) rfl (fun ls hl => ?_)
              refine lv_iinc (v := x6 + nI 1) (lv' := [(6, .int (x6 + nI 1)), (5, .int (nI 1)), (0, va_rf (some b)), (1, .int x1), (2, .int x2), (3, .int x3), (4, .int x4)]) hx hb d_M_things_120 hl (k := 6) rfl rfl (by decide) rfl (fun ls hl => ?_)
              refine lv_goto (tgt := 35) hx hb d_M_things_123 (by decide) ?_
              rw [hK35] at hB
              exact hB _ _ _ hg hw hS (lv_sub hl [2, 3, 4, 5, 6, 1, 0] rfl)
        · have hB := hB.1 cd
          refine zr_aload_n (o := some b) hx hb d_M_things_51 rfl (lv_at hl 0 rfl) ?_
          refine zr_get (v := va_rf (s_r σ b 8)) hx hb hC hw rfl hsb fl_M_28 rfl d_M_things_52 ?_
          refine lv_iload_n hx hb d_M_things_55 rfl (lv_at hl 2 rfl) ?_
          refine lv_iload hx hb d_M_things_56 (lv_at hl 4 rfl) ?_
          refine lv_imul hx hb d_M_things_58 ?_
          refine lv_iload hx hb d_M_things_59 (lv_at hl 4 rfl) ?_
          refine lv_iadd hx hb d_M_things_61 ?_
          obtain ⟨q5, n5, j6, ho, hs, hin, hj, hB⟩ := hB
          refine zr_iald hx hb hw ho hs hin hj d_M_things_62 ?_
          refine lv_iload hx hb d_M_things_63 (lv_at hl 4 rfl) ?_
          refine lv_icmp_ne (tgt := 117) hx hb d_M_things_65 (by decide) (fun cd => ?_) (fun cd => ?_)
          · have hB := hB.2 cd
            refine lv_iconst (v := nI 0) hx hb d_M_things_117 (by decide) ?_
            refine lv_istore (lv' := [(5, .int (nI 0)), (0, va_rf (some b)), (1, .int x1), (2, .int x2), (3, .int x3), (4, .int x4), (6, .int x6)]) hx hb d_M_things_118 hl (by decide) rfl (fun ls hl => ?_)
            refine lv_iinc (v := x6 + nI 1) (lv' := [(6, .int (x6 + nI 1)), (5, .int (nI 0)), (0, va_rf (some b)), (1, .int x1), (2, .int x2), (3, .int x3), (4, .int x4)]) hx hb d_M_things_120 hl (k := 6) rfl rfl (by decide) rfl (fun ls hl => ?_)
            refine lv_goto (tgt := 35) hx hb d_M_things_123 (by decide) ?_
            rw [hK35] at hB
            exact hB _ _ _ hg hw hS (lv_sub hl [2, 3, 4, 5, 6, 1, 0] rfl)
          · have hB := hB.1 cd
            refine lv_goto (tgt := 113) hx hb d_M_things_68 (by decide) ?_
            refine lv_iconst (v := nI 1) hx hb d_M_things_113 (by decide) ?_
            refine lv_goto (tgt := 118) hx hb d_M_things_114 (by decide) ?_
            refine lv_istore (lv' := [(5, .int (nI 1)), (0, va_rf (some b)), (1, .int x1), (2, .int x2), (3, .int x3), (4, .int x4), (6, .int x6)]) hx hb d_M_things_118 hl (by decide) rfl (fun ls hl => ?_)
            refine lv_iinc (v := x6 + nI 1) (lv' := [(6, .int (x6 + nI 1)), (5, .int (nI 1)), (0, va_rf (some b)), (1, .int x1), (2, .int x2), (3, .int x3), (4, .int x4)]) hx hb d_M_things_120 hl (k := 6) rfl rfl (by decide) rfl (fun ls hl => ?_)
            refine lv_goto (tgt := 35) hx hb d_M_things_123 (by decide) ?_
            rw [hK35] at hB
            exact hB _ _ _ hg hw hS (lv_sub hl [2, 3, 4, 5, 6, 1, 0] rfl)

set_option maxHeartbeats 4000000 in
set_option maxRecDepth 100000 in
theorem c_M_brokenNow (l : Launch) (D : va_G) (B : Nat) (b : Nat) (x1 : Int32) (σ : St) (Q : Int32 → St → Prop) (h : P_M_brokenNow b x1 σ Q) : zM l y_M_brokenNow b_M_brokenNow 2 (some (.int)) (rm_M_brokenNow) D B [.ref b, .int x1] σ (zQi Q) := by
  refine zM.ofW (own := "LawWorldsModel") (by decide +kernel) rfl (Nat.le_of_ble_eq_true rfl) ?_
  intro p e s m args below meth c ls hx hb hml hr hlocks hname hC hwk hw hS hl
  obtain ⟨σ0, eσ⟩ : ∃ z, z = σ := ⟨_, rfl⟩
  have hg : gr σ0 σ := by rw [eσ]; exact gr.rf
  have hl : lv_has ls 2 [(0, va_rf (some b)), (1, .int x1)] := hl
  obtain ⟨hsb, hB⟩ := h
  have hsb0 : s_s σ0 b = some (.inl 9) := by rw [eσ]; exact hsb
  rw [← eσ]
  skip
  refine zr_aload_n (o := some b) hx hb d_M_brokenNow_0 rfl (lv_at hl 0 rfl) ?_
  refine zr_aload_n (o := some b) hx hb d_M_brokenNow_1 rfl (lv_at hl 0 rfl) ?_
  refine zr_get (v := va_rf (s_r σ b 0)) hx hb hC hw rfl hsb fl_M_7 rfl d_M_brokenNow_2 ?_
  refine lv_iconst (v := nI 0) hx hb d_M_brokenNow_5 (by decide) ?_
  obtain ⟨q1, n1, j2, ho, hs, hin, hj, hB⟩ := hB
  refine zr_iald hx hb hw ho hs hin hj d_M_brokenNow_6 ?_
  refine zr_aload_n (o := some b) hx hb d_M_brokenNow_7 rfl (lv_at hl 0 rfl) ?_
  refine zr_get (v := va_rf (s_r σ b 0)) hx hb hC hw rfl hsb fl_M_7 rfl d_M_brokenNow_8 ?_
  refine lv_iconst (v := nI 1) hx hb d_M_brokenNow_11 (by decide) ?_
  obtain ⟨q3, n3, j4, ho, hs, hin, hj, hB⟩ := hB
  refine zr_iald hx hb hw ho hs hin hj d_M_brokenNow_12 ?_
  refine lv_iload_n hx hb d_M_brokenNow_13 rfl (lv_at hl 1 rfl) ?_
  have hsr := And.left hB
  refine zr_callV (ci := 9) (As := [.int (s_i σ q1 j2), .int (s_i σ q3 j4), .int x1]) (rest := []) hx hb hml hC hwk hw hS hl.1 (c_M_brokenIn l D B b (s_i σ q1 j2) (s_i σ q3 j4) x1 σ _ hB) mk_M_brokenIn mi_M_brokenIn ms_M_brokenIn ml_M_97 ⟨Nat.le_of_ble_eq_true rfl, Nat.le_of_ble_eq_true rfl⟩ rfl hsr rfl (cat_8 cat_n (Nat.le_of_ble_eq_true rfl)) d_M_brokenNow_14 ⟨Nat.le_refl _, Nat.le_refl _⟩ rfl (fun v σ5 H locs hp hgn hw hS => ?_)
  have hg := hg.tr hgn
  have hsb := hgn _ _ hsb
  obtain ⟨r6, rfl, hB⟩ := hp
  refine W.eq (g2 := F0 m 17 ls [.int r6]) rfl ?_
  exact zr_iret hx hb hr hlocks hB hg hw hS d_M_brokenNow_17

set_option maxHeartbeats 4000000 in
set_option maxRecDepth 100000 in
theorem c_M_lawsThatHold (l : Launch) (D : va_G) (B : Nat) (b : Nat) (x1 : Int32) (σ : St) (Q : Int32 → St → Prop) (h : P_M_lawsThatHold b x1 σ Q) : zM l y_M_lawsThatHold b_M_lawsThatHold 4 (some (.int)) (rm_M_lawsThatHold) D B [.ref b, .int x1] σ (zQi Q) := by
  refine zM.ofW (own := "LawWorldsModel") (by decide +kernel) rfl (Nat.le_of_ble_eq_true rfl) ?_
  intro p e s m args below meth c ls hx hb hml hr hlocks hname hC hwk hw hS hl
  obtain ⟨σ0, eσ⟩ : ∃ z, z = σ := ⟨_, rfl⟩
  have hg : gr σ0 σ := by rw [eσ]; exact gr.rf
  have hl : lv_has ls 4 [(0, va_rf (some b)), (1, .int x1)] := hl
  obtain ⟨hsb, hB⟩ := h
  have hsb0 : s_s σ0 b = some (.inl 9) := by rw [eσ]; exact hsb
  rw [← eσ]
  skip
  obtain ⟨K4, hK4⟩ : ∃ K : Int32 → Int32 → Int32 → St → Prop, K = (fun (x1 : Int32) (x2 : Int32) (x3 : Int32) (σ : St) => ∀ (H : Heap) (locs : List Loc) (ls : Array Slot), gr σ0 σ → wh D B σ s H → va_S (zA B) s.heap H locs → lv_has ls 4 [(0, va_rf (some b)), (1, .int x1), (2, .int x2), (3, .int x3)] → W p l e (rm_M_lawsThatHold) s m args below meth c H locs 0 0 (MQ below (zQ D B σ0 (zQi Q)) args s (rm_M_lawsThatHold).cells (rm_M_lawsThatHold).slots (zA B)) (F0 m 4 ls [])) := ⟨_, rfl⟩
  refine (fun hB => ?_) (hB K4 ?_)
  · skip
    refine lv_iconst (v := nI 0) hx hb d_M_lawsThatHold_0 (by decide) ?_
    refine lv_istore_n (lv' := [(2, .int (nI 0)), (0, va_rf (some b)), (1, .int x1)]) hx hb d_M_lawsThatHold_1 rfl hl (by decide) rfl (fun ls hl => ?_)
    refine lv_iconst (v := nI 0) hx hb d_M_lawsThatHold_2 (by decide) ?_
    refine lv_istore_n (lv' := [(3, .int (nI 0)), (2, .int (nI 0)), (0, va_rf (some b)), (1, .int x1)]) hx hb d_M_lawsThatHold_3 rfl hl (by decide) rfl (fun ls hl => ?_)
    rw [hK4] at hB
    exact hB _ _ _ hg hw hS (lv_sub hl [2, 3, 1, 0] rfl)
  · intro x1 x2 x3 σ hB
    rw [hK4]
    intro H locs ls hg hw hS hl
    have hsb := hg _ _ hsb0
    refine lv_iload_n hx hb d_M_lawsThatHold_4 rfl (lv_at hl 3 rfl) ?_
    refine zr_aload_n (o := some b) hx hb d_M_lawsThatHold_5 rfl (lv_at hl 0 rfl) ?_
    refine zr_get (v := va_rf (s_r σ b 0)) hx hb hC hw rfl hsb fl_M_7 rfl d_M_lawsThatHold_6 ?_
    refine lv_iconst (v := nI 2) hx hb d_M_lawsThatHold_9 (by decide) ?_
    obtain ⟨q1, n1, j2, ho, hs, hin, hj, hB⟩ := hB
    refine zr_iald hx hb hw ho hs hin hj d_M_lawsThatHold_10 ?_
    refine lv_icmp_ge (tgt := 48) hx hb d_M_lawsThatHold_11 (by decide) (fun cd => ?_) (fun cd => ?_)
    · have hB := hB.1 cd
      refine lv_iload_n hx hb d_M_lawsThatHold_48 rfl (lv_at hl 2 rfl) ?_
      exact zr_iret hx hb hr hlocks hB hg hw hS d_M_lawsThatHold_49
    · have hB := hB.2 cd
      refine lv_iload_n hx hb d_M_lawsThatHold_14 rfl (lv_at hl 2 rfl) ?_
      refine lv_iload_n hx hb d_M_lawsThatHold_15 rfl (lv_at hl 1 rfl) ?_
      refine lv_if_eq (tgt := 27) hx hb d_M_lawsThatHold_16 (by decide) (fun cd => ?_) (fun cd => ?_)
      · have hB := hB.1 cd
        refine zr_aload_n (o := some b) hx hb d_M_lawsThatHold_27 rfl (lv_at hl 0 rfl) ?_
        refine lv_iload_n hx hb d_M_lawsThatHold_28 rfl (lv_at hl 3 rfl) ?_
        have hsr := And.left hB
        refine zr_callV (ci := 9) (As := [.int x3]) (rest := [.int x2]) hx hb hml hC hwk hw hS hl.1 (c_M_brokenNow l D B b x3 σ _ hB) mk_M_brokenNow mi_M_brokenNow ms_M_brokenNow ml_M_198 ⟨Nat.le_of_ble_eq_true rfl, Nat.le_of_ble_eq_true rfl⟩ rfl hsr rfl (cat_8 (cat_c rfl cat_n) (Nat.le_of_ble_eq_true rfl)) d_M_lawsThatHold_29 ⟨Nat.le_refl _, Nat.le_refl _⟩ rfl (fun v σ3 H locs hp hgn hw hS => ?_)
        have hg := hg.tr hgn
        have hsb := hgn _ _ hsb
        obtain ⟨r4, rfl, hB⟩ := hp
        refine W.eq (g2 := F0 m 32 ls [.int r4, .int x2]) rfl ?_
        refine lv_if_ne (tgt := 39) hx hb d_M_lawsThatHold_32 (by decide) (fun cd => ?_) (fun cd => ?_)
        · have hB := hB.2 cd
          refine lv_iconst (v := nI 0) hx hb d_M_lawsThatHold_39 (by decide) ?_
          refine lv_iadd hx hb d_M_lawsThatHold_40 ?_
          refine lv_istore_n (lv' := [(2, .int (x2 + (nI 0))), (0, va_rf (some b)), (1, .int x1), (3, .int x3)]) hx hb d_M_lawsThatHold_41 rfl hl (by decide) rfl (fun ls hl => ?_)
          refine lv_iinc (v := x3 + nI 1) (lv' := [(3, .int (x3 + nI 1)), (2, .int (x2 + (nI 0))), (0, va_rf (some b)), (1, .int x1)]) hx hb d_M_lawsThatHold_42 hl (k := 3) rfl rfl (by decide) rfl (fun ls hl => ?_)
          refine lv_goto (tgt := 4) hx hb d_M_lawsThatHold_45 (by decide) ?_
          rw [hK4] at hB
          exact hB _ _ _ hg hw hS (lv_sub hl [2, 3, 1, 0] rfl)
        · have hB := hB.1 cd
          refine lv_iconst (v := nI 1) hx hb d_M_lawsThatHold_35 (by decide) ?_
          refine lv_goto (tgt := 40) hx hb d_M_lawsThatHold_36 (by decide) ?_
          refine lv_iadd hx hb d_M_lawsThatHold_40 ?_
          refine lv_istore_n (lv' := [(2, .int (x2 + (nI 1))), (0, va_rf (some b)), (1, .int x1), (3, .int x3)]) hx hb d_M_lawsThatHold_41 rfl hl (by decide) rfl (fun ls hl => ?_)
          refine lv_iinc (v := x3 + nI 1) (lv' := [(3, .int (x3 + nI 1)), (2, .int (x2 + (nI 1))), (0, va_rf (some b)), (1, .int x1)]) hx hb d_M_lawsThatHold_42 hl (k := 3) rfl rfl (by decide) rfl (fun ls hl => ?_)
          refine lv_goto (tgt := 4) hx hb d_M_lawsThatHold_45 (by decide) ?_
          rw [hK4] at hB
          exact hB _ _ _ hg hw hS (lv_sub hl [2, 3, 1, 0] rfl)
      · have hB := hB.2 cd
        refine zr_aload_n (o := some b) hx hb d_M_lawsThatHold_19 rfl (lv_at hl 0 rfl) ?_
        refine lv_iload_n hx hb d_M_lawsThatHold_20 rfl (lv_at hl 3 rfl) ?_
        have hsr := And.left hB
        refine zr_callV (ci := 9) (As := [.int x3]) (rest := [.int x2]) hx hb hml hC hwk hw hS hl.1 (c_M_isOn l D B b x3 σ _ hB) mk_M_isOn mi_M_isOn ms_M_isOn ml_M_111 ⟨Nat.le_of_ble_eq_true rfl, Nat.le_of_ble_eq_true rfl⟩ rfl hsr rfl (cat_8 (cat_c rfl cat_n) (Nat.le_of_ble_eq_true rfl)) d_M_lawsThatHold_21 ⟨Nat.le_refl _, Nat.le_refl _⟩ rfl (fun v σ5 H locs hp hgn hw hS => ?_)
        have hg := hg.tr hgn
        have hsb := hgn _ _ hsb
        obtain ⟨r6, rfl, hB⟩ := hp
        refine W.eq (g2 := F0 m 24 ls [.int r6, .int x2]) rfl ?_
        refine lv_if_eq (tgt := 39) hx hb d_M_lawsThatHold_24 (by decide) (fun cd => ?_) (fun cd => ?_)
        · have hB := hB.1 cd
          refine lv_iconst (v := nI 0) hx hb d_M_lawsThatHold_39 (by decide) ?_
          refine lv_iadd hx hb d_M_lawsThatHold_40 ?_
          refine lv_istore_n (lv' := [(2, .int (x2 + (nI 0))), (0, va_rf (some b)), (1, .int x1), (3, .int x3)]) hx hb d_M_lawsThatHold_41 rfl hl (by decide) rfl (fun ls hl => ?_)
          refine lv_iinc (v := x3 + nI 1) (lv' := [(3, .int (x3 + nI 1)), (2, .int (x2 + (nI 0))), (0, va_rf (some b)), (1, .int x1)]) hx hb d_M_lawsThatHold_42 hl (k := 3) rfl rfl (by decide) rfl (fun ls hl => ?_)
          refine lv_goto (tgt := 4) hx hb d_M_lawsThatHold_45 (by decide) ?_
          rw [hK4] at hB
          exact hB _ _ _ hg hw hS (lv_sub hl [2, 3, 1, 0] rfl)
        · have hB := hB.2 cd
          refine zr_aload_n (o := some b) hx hb d_M_lawsThatHold_27 rfl (lv_at hl 0 rfl) ?_
          refine lv_iload_n hx hb d_M_lawsThatHold_28 rfl (lv_at hl 3 rfl) ?_
          have hsr := And.left hB
          refine zr_callV (ci := 9) (As := [.int x3]) (rest := [.int x2]) hx hb hml hC hwk hw hS hl.1 (c_M_brokenNow l D B b x3 σ5 _ hB) mk_M_brokenNow mi_M_brokenNow ms_M_brokenNow ml_M_198 ⟨Nat.le_of_ble_eq_true rfl, Nat.le_of_ble_eq_true rfl⟩ rfl hsr rfl (cat_8 (cat_c rfl cat_n) (Nat.le_of_ble_eq_true rfl)) d_M_lawsThatHold_29 ⟨Nat.le_refl _, Nat.le_refl _⟩ rfl (fun v σ7 H locs hp hgn hw hS => ?_)
          have hg := hg.tr hgn
          have hsb := hgn _ _ hsb
          obtain ⟨r8, rfl, hB⟩ := hp
          refine W.eq (g2 := F0 m 32 ls [.int r8, .int x2]) rfl ?_
          refine lv_if_ne (tgt := 39) hx hb d_M_lawsThatHold_32 (by decide) (fun cd => ?_) (fun cd => ?_)
          · have hB := hB.2 cd
            refine lv_iconst (v := nI 0) hx hb d_M_lawsThatHold_39 (by decide) ?_
            refine lv_iadd hx hb d_M_lawsThatHold_40 ?_
            refine lv_istore_n (lv' := [(2, .int (x2 + (nI 0))), (0, va_rf (some b)), (1, .int x1), (3, .int x3)]) hx hb d_M_lawsThatHold_41 rfl hl (by decide) rfl (fun ls hl => ?_)
            refine lv_iinc (v := x3 + nI 1) (lv' := [(3, .int (x3 + nI 1)), (2, .int (x2 + (nI 0))), (0, va_rf (some b)), (1, .int x1)]) hx hb d_M_lawsThatHold_42 hl (k := 3) rfl rfl (by decide) rfl (fun ls hl => ?_)
            refine lv_goto (tgt := 4) hx hb d_M_lawsThatHold_45 (by decide) ?_
            rw [hK4] at hB
            exact hB _ _ _ hg hw hS (lv_sub hl [2, 3, 1, 0] rfl)
          · have hB := hB.1 cd
            refine lv_iconst (v := nI 1) hx hb d_M_lawsThatHold_35 (by decide) ?_
            refine lv_goto (tgt := 40) hx hb d_M_lawsThatHold_36 (by decide) ?_
            refine lv_iadd hx hb d_M_lawsThatHold_40 ?_
            refine lv_istore_n (lv' := [(2, .int (x2 + (nI 1))), (0, va_rf (some b)), (1, .int x1), (3, .int x3)]) hx hb d_M_lawsThatHold_41 rfl hl (by decide) rfl (fun ls hl => ?_)
            refine lv_iinc (v := x3 + nI 1) (lv' := [(3, .int (x3 + nI 1)), (2, .int (x2 + (nI 1))), (0, va_rf (some b)), (1, .int x1)]) hx hb d_M_lawsThatHold_42 hl (k := 3) rfl rfl (by decide) rfl (fun ls hl => ?_)
            refine lv_goto (tgt := 4) hx hb d_M_lawsThatHold_45 (by decide) ?_
            rw [hK4] at hB
            exact hB _ _ _ hg hw hS (lv_sub hl [2, 3, 1, 0] rfl)

set_option maxHeartbeats 4000000 in
set_option maxRecDepth 100000 in
theorem c_M_world (l : Launch) (D : va_G) (B : Nat) (b : Nat) (x1 : Int32) (σ : St) (Q : Int32 → St → Prop) (h : P_M_world b x1 σ Q) : zM l y_M_world b_M_world 2 (some (.int)) (rm_M_world) D B [.ref b, .int x1] σ (zQi Q) := by
  refine zM.ofW (own := "LawWorldsModel") (by decide +kernel) rfl (Nat.le_of_ble_eq_true rfl) ?_
  intro p e s m args below meth c ls hx hb hml hr hlocks hname hC hwk hw hS hl
  obtain ⟨σ0, eσ⟩ : ∃ z, z = σ := ⟨_, rfl⟩
  have hg : gr σ0 σ := by rw [eσ]; exact gr.rf
  have hl : lv_has ls 2 [(0, va_rf (some b)), (1, .int x1)] := hl
  obtain ⟨hsb, hB⟩ := h
  have hsb0 : s_s σ0 b = some (.inl 9) := by rw [eσ]; exact hsb
  rw [← eσ]
  skip
  refine lv_iload_n hx hb d_M_world_0 rfl (lv_at hl 1 rfl) ?_
  by_cases c0 : x1 = nI 0
  · have hB := hB.1 c0
    refine lv_tableIn (tgt := 48) (off := 47) hx hb d_M_world_1 (by rw [c0]; decide) (by rw [c0]; decide) (by rw [c0]; decide) (by decide) ?_
    refine zr_aload_n (o := some b) hx hb d_M_world_48 rfl (lv_at hl 0 rfl) ?_
    refine zr_get (v := va_rf (s_r σ b 0)) hx hb hC hw rfl hsb fl_M_7 rfl d_M_world_49 ?_
    refine lv_iconst (v := nI 0) hx hb d_M_world_52 (by decide) ?_
    obtain ⟨q1, n1, j2, ho, hs, hin, hj, hB⟩ := hB
    refine zr_iald hx hb hw ho hs hin hj d_M_world_53 ?_
    exact zr_iret hx hb hr hlocks hB hg hw hS d_M_world_54
  · have hB := hB.2 c0
    by_cases c1 : x1 = nI 1
    · have hB := hB.1 c1
      refine lv_tableIn (tgt := 55) (off := 54) hx hb d_M_world_1 (by rw [c1]; decide) (by rw [c1]; decide) (by rw [c1]; decide) (by decide) ?_
      refine zr_aload_n (o := some b) hx hb d_M_world_55 rfl (lv_at hl 0 rfl) ?_
      refine zr_get (v := va_rf (s_r σ b 0)) hx hb hC hw rfl hsb fl_M_7 rfl d_M_world_56 ?_
      refine lv_iconst (v := nI 1) hx hb d_M_world_59 (by decide) ?_
      obtain ⟨q3, n3, j4, ho, hs, hin, hj, hB⟩ := hB
      refine zr_iald hx hb hw ho hs hin hj d_M_world_60 ?_
      exact zr_iret hx hb hr hlocks hB hg hw hS d_M_world_61
    · have hB := hB.2 c1
      by_cases c2 : x1 = nI 2
      · have hB := hB.1 c2
        refine lv_tableIn (tgt := 62) (off := 61) hx hb d_M_world_1 (by rw [c2]; decide) (by rw [c2]; decide) (by rw [c2]; decide) (by decide) ?_
        refine zr_aload_n (o := some b) hx hb d_M_world_62 rfl (lv_at hl 0 rfl) ?_
        refine zr_aload_n (o := some b) hx hb d_M_world_63 rfl (lv_at hl 0 rfl) ?_
        refine zr_get (v := va_rf (s_r σ b 0)) hx hb hC hw rfl hsb fl_M_7 rfl d_M_world_64 ?_
        refine lv_iconst (v := nI 0) hx hb d_M_world_67 (by decide) ?_
        obtain ⟨q5, n5, j6, ho, hs, hin, hj, hB⟩ := hB
        refine zr_iald hx hb hw ho hs hin hj d_M_world_68 ?_
        refine zr_aload_n (o := some b) hx hb d_M_world_69 rfl (lv_at hl 0 rfl) ?_
        refine zr_get (v := va_rf (s_r σ b 0)) hx hb hC hw rfl hsb fl_M_7 rfl d_M_world_70 ?_
        refine lv_iconst (v := nI 1) hx hb d_M_world_73 (by decide) ?_
        obtain ⟨q7, n7, j8, ho, hs, hin, hj, hB⟩ := hB
        refine zr_iald hx hb hw ho hs hin hj d_M_world_74 ?_
        have hsr := And.left hB
        refine zr_callV (ci := 9) (As := [.int (s_i σ q5 j6), .int (s_i σ q7 j8)]) (rest := []) hx hb hml hC hwk hw hS hl.1 (c_M_plainOf l D B b (s_i σ q5 j6) (s_i σ q7 j8) σ _ hB) mk_M_plainOf mi_M_plainOf ms_M_plainOf ml_M_56 ⟨Nat.le_of_ble_eq_true rfl, Nat.le_of_ble_eq_true rfl⟩ rfl hsr rfl (cat_8 cat_n (Nat.le_of_ble_eq_true rfl)) d_M_world_75 ⟨Nat.le_refl _, Nat.le_refl _⟩ rfl (fun v σ9 H locs hp hgn hw hS => ?_)
        have hg := hg.tr hgn
        have hsb := hgn _ _ hsb
        obtain ⟨r10, rfl, hB⟩ := hp
        refine W.eq (g2 := F0 m 78 ls [.int r10]) rfl ?_
        exact zr_iret hx hb hr hlocks hB hg hw hS d_M_world_78
      · have hB := hB.2 c2
        by_cases c3 : x1 = nI 3
        · have hB := hB.1 c3
          refine lv_tableIn (tgt := 79) (off := 78) hx hb d_M_world_1 (by rw [c3]; decide) (by rw [c3]; decide) (by rw [c3]; decide) (by decide) ?_
          refine zr_aload_n (o := some b) hx hb d_M_world_79 rfl (lv_at hl 0 rfl) ?_
          refine zr_aload_n (o := some b) hx hb d_M_world_80 rfl (lv_at hl 0 rfl) ?_
          refine zr_get (v := va_rf (s_r σ b 0)) hx hb hC hw rfl hsb fl_M_7 rfl d_M_world_81 ?_
          refine lv_iconst (v := nI 0) hx hb d_M_world_84 (by decide) ?_
          obtain ⟨q11, n11, j12, ho, hs, hin, hj, hB⟩ := hB
          refine zr_iald hx hb hw ho hs hin hj d_M_world_85 ?_
          refine zr_aload_n (o := some b) hx hb d_M_world_86 rfl (lv_at hl 0 rfl) ?_
          refine zr_get (v := va_rf (s_r σ b 0)) hx hb hC hw rfl hsb fl_M_7 rfl d_M_world_87 ?_
          refine lv_iconst (v := nI 1) hx hb d_M_world_90 (by decide) ?_
          obtain ⟨q13, n13, j14, ho, hs, hin, hj, hB⟩ := hB
          refine zr_iald hx hb hw ho hs hin hj d_M_world_91 ?_
          have hsr := And.left hB
          refine zr_callV (ci := 9) (As := [.int (s_i σ q11 j12), .int (s_i σ q13 j14)]) (rest := []) hx hb hml hC hwk hw hS hl.1 (c_M_alikeTo l D B b (s_i σ q11 j12) (s_i σ q13 j14) σ _ hB) mk_M_alikeTo mi_M_alikeTo ms_M_alikeTo ml_M_201 ⟨Nat.le_of_ble_eq_true rfl, Nat.le_of_ble_eq_true rfl⟩ rfl hsr rfl (cat_8 cat_n (Nat.le_of_ble_eq_true rfl)) d_M_world_92 ⟨Nat.le_refl _, Nat.le_refl _⟩ rfl (fun v σ15 H locs hp hgn hw hS => ?_)
          have hg := hg.tr hgn
          have hsb := hgn _ _ hsb
          obtain ⟨r16, rfl, hB⟩ := hp
          refine W.eq (g2 := F0 m 95 ls [.int r16]) rfl ?_
          exact zr_iret hx hb hr hlocks hB hg hw hS d_M_world_95
        · have hB := hB.2 c3
          by_cases c4 : x1 = nI 4
          · have hB := hB.1 c4
            refine lv_tableIn (tgt := 96) (off := 95) hx hb d_M_world_1 (by rw [c4]; decide) (by rw [c4]; decide) (by rw [c4]; decide) (by decide) ?_
            refine zr_aload_n (o := some b) hx hb d_M_world_96 rfl (lv_at hl 0 rfl) ?_
            refine lv_iload_n hx hb d_M_world_97 rfl (lv_at hl 1 rfl) ?_
            have hsr := And.left hB
            refine zr_callV (ci := 9) (As := [.int x1]) (rest := []) hx hb hml hC hwk hw hS hl.1 (c_M_things l D B b x1 σ _ hB) mk_M_things mi_M_things ms_M_things ml_M_204 ⟨Nat.le_of_ble_eq_true rfl, Nat.le_of_ble_eq_true rfl⟩ rfl hsr rfl (cat_8 cat_n (Nat.le_of_ble_eq_true rfl)) d_M_world_98 ⟨Nat.le_refl _, Nat.le_refl _⟩ rfl (fun v σ17 H locs hp hgn hw hS => ?_)
            have hg := hg.tr hgn
            have hsb := hgn _ _ hsb
            obtain ⟨r18, rfl, hB⟩ := hp
            refine W.eq (g2 := F0 m 101 ls [.int r18]) rfl ?_
            exact zr_iret hx hb hr hlocks hB hg hw hS d_M_world_101
          · have hB := hB.2 c4
            by_cases c5 : x1 = nI 5
            · have hB := hB.1 c5
              refine lv_tableIn (tgt := 96) (off := 95) hx hb d_M_world_1 (by rw [c5]; decide) (by rw [c5]; decide) (by rw [c5]; decide) (by decide) ?_
              refine zr_aload_n (o := some b) hx hb d_M_world_96 rfl (lv_at hl 0 rfl) ?_
              refine lv_iload_n hx hb d_M_world_97 rfl (lv_at hl 1 rfl) ?_
              have hsr := And.left hB
              refine zr_callV (ci := 9) (As := [.int x1]) (rest := []) hx hb hml hC hwk hw hS hl.1 (c_M_things l D B b x1 σ _ hB) mk_M_things mi_M_things ms_M_things ml_M_204 ⟨Nat.le_of_ble_eq_true rfl, Nat.le_of_ble_eq_true rfl⟩ rfl hsr rfl (cat_8 cat_n (Nat.le_of_ble_eq_true rfl)) d_M_world_98 ⟨Nat.le_refl _, Nat.le_refl _⟩ rfl (fun v σ19 H locs hp hgn hw hS => ?_)
              have hg := hg.tr hgn
              have hsb := hgn _ _ hsb
              obtain ⟨r20, rfl, hB⟩ := hp
              refine W.eq (g2 := F0 m 101 ls [.int r20]) rfl ?_
              exact zr_iret hx hb hr hlocks hB hg hw hS d_M_world_101
            · have hB := hB.2 c5
              by_cases c6 : x1 = nI 6
              · have hB := hB.1 c6
                refine lv_tableIn (tgt := 96) (off := 95) hx hb d_M_world_1 (by rw [c6]; decide) (by rw [c6]; decide) (by rw [c6]; decide) (by decide) ?_
                refine zr_aload_n (o := some b) hx hb d_M_world_96 rfl (lv_at hl 0 rfl) ?_
                refine lv_iload_n hx hb d_M_world_97 rfl (lv_at hl 1 rfl) ?_
                have hsr := And.left hB
                refine zr_callV (ci := 9) (As := [.int x1]) (rest := []) hx hb hml hC hwk hw hS hl.1 (c_M_things l D B b x1 σ _ hB) mk_M_things mi_M_things ms_M_things ml_M_204 ⟨Nat.le_of_ble_eq_true rfl, Nat.le_of_ble_eq_true rfl⟩ rfl hsr rfl (cat_8 cat_n (Nat.le_of_ble_eq_true rfl)) d_M_world_98 ⟨Nat.le_refl _, Nat.le_refl _⟩ rfl (fun v σ21 H locs hp hgn hw hS => ?_)
                have hg := hg.tr hgn
                have hsb := hgn _ _ hsb
                obtain ⟨r22, rfl, hB⟩ := hp
                refine W.eq (g2 := F0 m 101 ls [.int r22]) rfl ?_
                exact zr_iret hx hb hr hlocks hB hg hw hS d_M_world_101
              · have hB := hB.2 c6
                by_cases c7 : x1 = nI 7
                · have hB := hB.1 c7
                  refine lv_tableIn (tgt := 102) (off := 101) hx hb d_M_world_1 (by rw [c7]; decide) (by rw [c7]; decide) (by rw [c7]; decide) (by decide) ?_
                  refine zr_aload_n (o := some b) hx hb d_M_world_102 rfl (lv_at hl 0 rfl) ?_
                  refine lv_iconst (v := nI 1) hx hb d_M_world_103 (by decide) ?_
                  have hsr := And.left hB
                  refine zr_callV (ci := 9) (As := [.int (nI 1)]) (rest := []) hx hb hml hC hwk hw hS hl.1 (c_M_lawsThatHold l D B b (nI 1) σ _ hB) mk_M_lawsThatHold mi_M_lawsThatHold ms_M_lawsThatHold ml_M_207 ⟨Nat.le_of_ble_eq_true rfl, Nat.le_of_ble_eq_true rfl⟩ rfl hsr rfl (cat_8 cat_n (Nat.le_of_ble_eq_true rfl)) d_M_world_104 ⟨Nat.le_refl _, Nat.le_refl _⟩ rfl (fun v σ23 H locs hp hgn hw hS => ?_)
                  have hg := hg.tr hgn
                  have hsb := hgn _ _ hsb
                  obtain ⟨r24, rfl, hB⟩ := hp
                  refine W.eq (g2 := F0 m 107 ls [.int r24]) rfl ?_
                  refine zr_aload_n (o := some b) hx hb d_M_world_107 rfl (lv_at hl 0 rfl) ?_
                  have hsr := And.left hB
                  refine zr_callV (ci := 9) (As := []) (rest := [.int r24]) hx hb hml hC hwk hw hS hl.1 (c_M_lawsOn l D B b σ23 _ hB) mk_M_lawsOn mi_M_lawsOn ms_M_lawsOn ml_M_192 ⟨Nat.le_of_ble_eq_true rfl, Nat.le_of_ble_eq_true rfl⟩ rfl hsr rfl (cat_8 (cat_c rfl cat_n) (Nat.le_of_ble_eq_true rfl)) d_M_world_108 ⟨Nat.le_refl _, Nat.le_refl _⟩ rfl (fun v σ25 H locs hp hgn hw hS => ?_)
                  have hg := hg.tr hgn
                  have hsb := hgn _ _ hsb
                  obtain ⟨r26, rfl, hB⟩ := hp
                  refine W.eq (g2 := F0 m 111 ls [.int r26, .int r24]) rfl ?_
                  refine lv_icmp_ne (tgt := 118) hx hb d_M_world_111 (by decide) (fun cd => ?_) (fun cd => ?_)
                  · have hB := hB.2 cd
                    refine lv_iconst (v := nI 0) hx hb d_M_world_118 (by decide) ?_
                    exact zr_iret hx hb hr hlocks hB hg hw hS d_M_world_119
                  · have hB := hB.1 cd
                    refine lv_iconst (v := nI 1) hx hb d_M_world_114 (by decide) ?_
                    refine lv_goto (tgt := 119) hx hb d_M_world_115 (by decide) ?_
                    exact zr_iret hx hb hr hlocks hB hg hw hS d_M_world_119
                · have hB := hB.2 c7
                  refine lv_tableOut (tgt := 120) hx hb d_M_world_1 (sw_out (n := 8) (by decide) (fun k hk => ?_)) (by decide) ?_
                  · match k, hk with
                    | 0, _ => exact c0
                    | 1, _ => exact c1
                    | 2, _ => exact c2
                    | 3, _ => exact c3
                    | 4, _ => exact c4
                    | 5, _ => exact c5
                    | 6, _ => exact c6
                    | 7, _ => exact c7
                    | k + 8, h => exact absurd h (by omega)
                  · skip
                    refine lv_bipush (v := (-2)) hx hb d_M_world_120 (by decide) ?_
                    exact zr_iret hx hb hr hlocks hB hg hw hS d_M_world_122

set_option maxHeartbeats 4000000 in
set_option maxRecDepth 100000 in
theorem c_M_closed (l : Launch) (D : va_G) (B : Nat) (b : Nat) (x1 : Int32) (σ : St) (Q : Int32 → St → Prop) (h : P_M_closed b x1 σ Q) : zM l y_M_closed b_M_closed 7 (some (.int)) (rm_M_closed) D B [.ref b, .int x1] σ (zQi Q) := by
  refine zM.ofW (own := "LawWorldsModel") (by decide +kernel) rfl (Nat.le_of_ble_eq_true rfl) ?_
  intro p e s m args below meth c ls hx hb hml hr hlocks hname hC hwk hw hS hl
  obtain ⟨σ0, eσ⟩ : ∃ z, z = σ := ⟨_, rfl⟩
  have hg : gr σ0 σ := by rw [eσ]; exact gr.rf
  have hl : lv_has ls 7 [(0, va_rf (some b)), (1, .int x1)] := hl
  obtain ⟨hsb, hB⟩ := h
  have hsb0 : s_s σ0 b = some (.inl 9) := by rw [eσ]; exact hsb
  rw [← eσ]
  skip
  obtain ⟨K41, hK41⟩ : ∃ K : Int32 → Int32 → Int32 → St → Prop, K = (fun (x2 : Int32) (x3 : Int32) (x4 : Int32) (σ : St) => ∀ (H : Heap) (locs : List Loc) (ls : Array Slot), gr σ0 σ → wh D B σ s H → va_S (zA B) s.heap H locs → lv_has ls 7 [(0, va_rf (some b)), (2, .int x2), (3, .int x3), (4, .int x4)] → W p l e (rm_M_closed) s m args below meth c H locs 0 0 (MQ below (zQ D B σ0 (zQi Q)) args s (rm_M_closed).cells (rm_M_closed).slots (zA B)) (F0 m 41 ls [])) := ⟨_, rfl⟩
  obtain ⟨K52, hK52⟩ : ∃ K : Int32 → Int32 → Int32 → Int32 → St → Prop, K = (fun (x2 : Int32) (x3 : Int32) (x5 : Int32) (x6 : Int32) (σ : St) => ∀ (H : Heap) (locs : List Loc) (ls : Array Slot), gr σ0 σ → wh D B σ s H → va_S (zA B) s.heap H locs → lv_has ls 7 [(0, va_rf (some b)), (2, .int x2), (3, .int x3), (5, .int x5), (6, .int x6)] → W p l e (rm_M_closed) s m args below meth c H locs 0 0 (MQ below (zQ D B σ0 (zQi Q)) args s (rm_M_closed).cells (rm_M_closed).slots (zA B)) (F0 m 52 ls [])) := ⟨_, rfl⟩
  refine (fun hB => ?_) (hB K41 K52 ?_ ?_)
  · skip
    refine zr_aload_n (o := some b) hx hb d_M_closed_0 rfl (lv_at hl 0 rfl) ?_
    refine zr_get (v := va_rf (s_r σ b 0)) hx hb hC hw rfl hsb fl_M_7 rfl d_M_closed_1 ?_
    refine lv_iconst (v := nI 0) hx hb d_M_closed_4 (by decide) ?_
    obtain ⟨q3, n3, j4, ho, hs, hin, hj, hB⟩ := hB
    refine zr_iald hx hb hw ho hs hin hj d_M_closed_5 ?_
    refine lv_istore_n (lv' := [(2, .int (s_i σ q3 j4)), (0, va_rf (some b)), (1, .int x1)]) hx hb d_M_closed_6 rfl hl (by decide) rfl (fun ls hl => ?_)
    refine lv_iload_n hx hb d_M_closed_7 rfl (lv_at hl 2 rfl) ?_
    refine lv_i2l hx hb d_M_closed_8 rfl ?_
    refine lv_lconst (v := lN 0) hx hb d_M_closed_9 (by decide) ?_
    refine lv_iconst (v := nI 1) hx hb d_M_closed_10 (by decide) ?_
    refine lv_iload_n hx hb d_M_closed_11 rfl (lv_at hl 0 rfl) ?_
    refine zr_ishl hx hb d_M_closed_12 ?_
    refine lv_iconst (v := nI 1) hx hb d_M_closed_13 (by decide) ?_
    refine lv_isub hx hb d_M_closed_14 ?_
    refine lv_i2l hx hb d_M_closed_15 rfl ?_
    refine zr_callS (As := [.long (x1.toInt64), .long (lN 0), .long (((shl (nI 1) (s_i σ q3 j4)) - (nI 1)).toInt64)]) (rest := []) hx hb hml hC hwk hw hS hl.1 (c_M_in l D B (x1.toInt64) (lN 0) (((shl (nI 1) (s_i σ q3 j4)) - (nI 1)).toInt64) σ _ hB) mk_M_in mt_M_in ml_M_69 ⟨Nat.le_of_ble_eq_true rfl, Nat.le_of_ble_eq_true rfl⟩ rfl (cat_8 cat_n (Nat.le_of_ble_eq_true rfl)) d_M_closed_16 ⟨Nat.le_refl _, Nat.le_refl _⟩ rfl (fun v σ5 H locs hp hgn hw hS => ?_)
    have hg := hg.tr hgn
    have hsb := hgn _ _ hsb
    obtain ⟨r6, rfl, hB⟩ := hp
    refine W.eq (g2 := F0 m 19 ls [.int r6]) rfl ?_
    refine lv_if_ne (tgt := 25) hx hb d_M_closed_19 (by decide) (fun cd => ?_) (fun cd => ?_)
    · have hB := hB.2 cd
      refine zr_aload_n (o := some b) hx hb d_M_closed_25 rfl (lv_at hl 1 rfl) ?_
      refine lv_iload_n hx hb d_M_closed_26 rfl (lv_at hl 0 rfl) ?_
      refine zr_aload_n (o := some b) hx hb d_M_closed_27 rfl (lv_at hl 1 rfl) ?_
      refine zr_get (v := va_rf (s_r σ5 b 0)) hx hb hC hw rfl hsb fl_M_7 rfl d_M_closed_28 ?_
      refine lv_iconst (v := nI 1) hx hb d_M_closed_31 (by decide) ?_
      obtain ⟨q7, n7, j8, ho, hs, hin, hj, hB⟩ := hB
      refine zr_iald hx hb hw ho hs hin hj d_M_closed_32 ?_
      have hsr := And.left hB
      refine zr_callV (ci := 9) (As := [.int (s_i σ q3 j4), .int (s_i σ5 q7 j8)]) (rest := []) hx hb hml hC hwk hw hS hl.1 (c_M_unfolds l D B b (s_i σ q3 j4) (s_i σ5 q7 j8) σ5 _ hB) mk_M_unfolds mi_M_unfolds ms_M_unfolds ml_M_76 ⟨Nat.le_of_ble_eq_true rfl, Nat.le_of_ble_eq_true rfl⟩ rfl hsr rfl (cat_8 cat_n (Nat.le_of_ble_eq_true rfl)) d_M_closed_33 ⟨Nat.le_refl _, Nat.le_refl _⟩ rfl (fun v σ9 H locs hp hgn hw hS => ?_)
      have hg := hg.tr hgn
      have hsb := hgn _ _ hsb
      obtain ⟨rfl, hB⟩ := hp
      refine W.eq (g2 := F0 m 36 ls []) rfl ?_
      refine lv_iload_n hx hb d_M_closed_36 rfl (lv_at hl 2 rfl) ?_
      refine lv_istore_n (lv' := [(3, .int x1), (2, .int (s_i σ q3 j4)), (0, va_rf (some b)), (1, .int x1)]) hx hb d_M_closed_37 rfl hl (by decide) rfl (fun ls hl => ?_)
      refine lv_iconst (v := nI 1) hx hb d_M_closed_38 (by decide) ?_
      refine lv_istore (lv' := [(4, .int (nI 1)), (3, .int x1), (2, .int (s_i σ q3 j4)), (0, va_rf (some b)), (1, .int x1)]) hx hb d_M_closed_39 hl (by decide) rfl (fun ls hl => ?_)
      rw [hK41] at hB
      exact hB _ _ _ hg hw hS (lv_sub hl [3, 2, 1, 0] rfl)
    · have hB := hB.1 cd
      refine lv_bipush (v := (-2)) hx hb d_M_closed_22 (by decide) ?_
      exact zr_iret hx hb hr hlocks hB hg hw hS d_M_closed_24
  · intro x2 x3 x4 σ hB
    rw [hK41]
    intro H locs ls hg hw hS hl
    have hsb := hg _ _ hsb0
    refine lv_iload hx hb d_M_closed_41 (lv_at hl 3 rfl) ?_
    refine lv_if_eq (tgt := 122) hx hb d_M_closed_43 (by decide) (fun cd => ?_) (fun cd => ?_)
    · have hB := hB.1 cd
      refine lv_iload_n hx hb d_M_closed_122 rfl (lv_at hl 2 rfl) ?_
      exact zr_iret hx hb hr hlocks hB hg hw hS d_M_closed_123
    · have hB := hB.2 cd
      refine lv_iload_n hx hb d_M_closed_46 rfl (lv_at hl 2 rfl) ?_
      refine lv_istore (lv' := [(5, .int x3), (0, va_rf (some b)), (2, .int x2), (3, .int x3), (4, .int x4)]) hx hb d_M_closed_47 hl (by decide) rfl (fun ls hl => ?_)
      refine lv_iconst (v := nI 0) hx hb d_M_closed_49 (by decide) ?_
      refine lv_istore (lv' := [(6, .int (nI 0)), (5, .int x3), (0, va_rf (some b)), (2, .int x2), (3, .int x3), (4, .int x4)]) hx hb d_M_closed_50 hl (by decide) rfl (fun ls hl => ?_)
      rw [hK52] at hB
      exact hB _ _ _ hg hw hS (lv_sub hl [2, 3, 4, 1, 0] rfl)
  · intro x2 x3 x5 x6 σ hB
    rw [hK52]
    intro H locs ls hg hw hS hl
    have hsb := hg _ _ hsb0
    refine lv_iload hx hb d_M_closed_52 (lv_at hl 4 rfl) ?_
    refine lv_iload_n hx hb d_M_closed_54 rfl (lv_at hl 1 rfl) ?_
    refine lv_iload_n hx hb d_M_closed_55 rfl (lv_at hl 1 rfl) ?_
    refine lv_imul hx hb d_M_closed_56 ?_
    refine lv_icmp_ge (tgt := 106) hx hb d_M_closed_57 (by decide) (fun cd => ?_) (fun cd => ?_)
    · have hB := hB.1 cd
      refine lv_iload_n hx hb d_M_closed_106 rfl (lv_at hl 2 rfl) ?_
      refine lv_iload hx hb d_M_closed_107 (lv_at hl 3 rfl) ?_
      refine lv_icmp_eq (tgt := 116) hx hb d_M_closed_109 (by decide) (fun cd => ?_) (fun cd => ?_)
      · have hB := hB.1 cd
        refine lv_iconst (v := nI 0) hx hb d_M_closed_116 (by decide) ?_
        refine lv_istore (lv' := [(4, .int (nI 0)), (0, va_rf (some b)), (2, .int x2), (3, .int x3), (5, .int x5), (6, .int x6)]) hx hb d_M_closed_117 hl (by decide) rfl (fun ls hl => ?_)
        refine lv_goto (tgt := 41) hx hb d_M_closed_119 (by decide) ?_
        rw [hK41] at hB
        exact hB _ _ _ hg hw hS (lv_sub hl [1, 2, 3, 0] rfl)
      · have hB := hB.2 cd
        refine lv_iconst (v := nI 1) hx hb d_M_closed_112 (by decide) ?_
        refine lv_goto (tgt := 117) hx hb d_M_closed_113 (by decide) ?_
        refine lv_istore (lv' := [(4, .int (nI 1)), (0, va_rf (some b)), (2, .int x2), (3, .int x3), (5, .int x5), (6, .int x6)]) hx hb d_M_closed_117 hl (by decide) rfl (fun ls hl => ?_)
        refine lv_goto (tgt := 41) hx hb d_M_closed_119 (by decide) ?_
        rw [hK41] at hB
        exact hB _ _ _ hg hw hS (lv_sub hl [1, 2, 3, 0] rfl)
    · have hB := hB.2 cd
      refine lv_iload_n hx hb d_M_closed_60 rfl (lv_at hl 2 rfl) ?_
      refine lv_iload_n hx hb d_M_closed_61 rfl (lv_at hl 2 rfl) ?_
      refine lv_iload hx hb d_M_closed_62 (lv_at hl 4 rfl) ?_
      refine lv_iload_n hx hb d_M_closed_64 rfl (lv_at hl 1 rfl) ?_
      refine lv_idiv hx hb d_M_closed_65 hB.1 ?_
      have hB := hB.2
      refine zr_ishr hx hb d_M_closed_66 ?_
      refine lv_iconst (v := nI 1) hx hb d_M_closed_67 (by decide) ?_
      refine lv_iand hx hb d_M_closed_68 ?_
      refine lv_iconst (v := nI 1) hx hb d_M_closed_69 (by decide) ?_
      refine lv_icmp_ne (tgt := 97) hx hb d_M_closed_70 (by decide) (fun cd => ?_) (fun cd => ?_)
      · have hB := hB.2 cd
        refine lv_iconst (v := nI 0) hx hb d_M_closed_97 (by decide) ?_
        refine lv_ior hx hb d_M_closed_98 ?_
        refine lv_istore_n (lv' := [(3, .int (x3 ||| (nI 0))), (0, va_rf (some b)), (2, .int x2), (5, .int x5), (6, .int x6)]) hx hb d_M_closed_99 rfl hl (by decide) rfl (fun ls hl => ?_)
        refine lv_iinc (v := x6 + nI 1) (lv' := [(6, .int (x6 + nI 1)), (3, .int (x3 ||| (nI 0))), (0, va_rf (some b)), (2, .int x2), (5, .int x5)]) hx hb d_M_closed_100 hl (k := 4) rfl rfl (by decide) rfl (fun ls hl => ?_)
        refine lv_goto (tgt := 52) hx hb d_M_closed_103 (by decide) ?_
        rw [hK52] at hB
        exact hB _ _ _ hg hw hS (lv_sub hl [2, 3, 1, 4, 0] rfl)
      · have hB := hB.1 cd
        refine lv_iload_n hx hb d_M_closed_73 rfl (lv_at hl 2 rfl) ?_
        refine lv_iload hx hb d_M_closed_74 (lv_at hl 4 rfl) ?_
        refine lv_iload_n hx hb d_M_closed_76 rfl (lv_at hl 1 rfl) ?_
        refine zr_irem hx hb d_M_closed_77 hB.1 ?_
        have hB := hB.2
        refine zr_ishr hx hb d_M_closed_78 ?_
        refine lv_iconst (v := nI 1) hx hb d_M_closed_79 (by decide) ?_
        refine lv_iand hx hb d_M_closed_80 ?_
        refine lv_iconst (v := nI 1) hx hb d_M_closed_81 (by decide) ?_
        refine lv_icmp_ne (tgt := 97) hx hb d_M_closed_82 (by decide) (fun cd => ?_) (fun cd => ?_)
        · have hB := hB.2 cd
          refine lv_iconst (v := nI 0) hx hb d_M_closed_97 (by decide) ?_
          refine lv_ior hx hb d_M_closed_98 ?_
          refine lv_istore_n (lv' := [(3, .int (x3 ||| (nI 0))), (0, va_rf (some b)), (2, .int x2), (5, .int x5), (6, .int x6)]) hx hb d_M_closed_99 rfl hl (by decide) rfl (fun ls hl => ?_)
          refine lv_iinc (v := x6 + nI 1) (lv' := [(6, .int (x6 + nI 1)), (3, .int (x3 ||| (nI 0))), (0, va_rf (some b)), (2, .int x2), (5, .int x5)]) hx hb d_M_closed_100 hl (k := 4) rfl rfl (by decide) rfl (fun ls hl => ?_)
          refine lv_goto (tgt := 52) hx hb d_M_closed_103 (by decide) ?_
          rw [hK52] at hB
          exact hB _ _ _ hg hw hS (lv_sub hl [2, 3, 1, 4, 0] rfl)
        · have hB := hB.1 cd
          refine lv_iconst (v := nI 1) hx hb d_M_closed_85 (by decide) ?_
          refine zr_aload_n (o := some b) hx hb d_M_closed_86 rfl (lv_at hl 0 rfl) ?_
          refine zr_get (v := va_rf (s_r σ b 8)) hx hb hC hw rfl hsb fl_M_28 rfl d_M_closed_87 ?_
          refine lv_iload hx hb d_M_closed_90 (lv_at hl 4 rfl) ?_
          obtain ⟨q1, n1, j2, ho, hs, hin, hj, hB⟩ := hB
          refine zr_iald hx hb hw ho hs hin hj d_M_closed_92 ?_
          refine zr_ishl hx hb d_M_closed_93 ?_
          refine lv_goto (tgt := 98) hx hb d_M_closed_94 (by decide) ?_
          refine lv_ior hx hb d_M_closed_98 ?_
          refine lv_istore_n (lv' := [(3, .int (x3 ||| (shl (nI 1) (s_i σ q1 j2)))), (0, va_rf (some b)), (2, .int x2), (5, .int x5), (6, .int x6)]) hx hb d_M_closed_99 rfl hl (by decide) rfl (fun ls hl => ?_)
          refine lv_iinc (v := x6 + nI 1) (lv' := [(6, .int (x6 + nI 1)), (3, .int (x3 ||| (shl (nI 1) (s_i σ q1 j2)))), (0, va_rf (some b)), (2, .int x2), (5, .int x5)]) hx hb d_M_closed_100 hl (k := 4) rfl rfl (by decide) rfl (fun ls hl => ?_)
          refine lv_goto (tgt := 52) hx hb d_M_closed_103 (by decide) ?_
          rw [hK52] at hB
          exact hB _ _ _ hg hw hS (lv_sub hl [2, 3, 1, 4, 0] rfl)

set_option maxHeartbeats 4000000 in
set_option maxRecDepth 100000 in
theorem c_M_lettersOf (l : Launch) (D : va_G) (B : Nat) (b : Nat) (x1 : Int32) (x2 : Int32) (σ : St) (Q : Int32 → St → Prop) (h : P_M_lettersOf b x1 x2 σ Q) : zM l y_M_lettersOf b_M_lettersOf 8 (some (.int)) (rm_M_lettersOf) D B [.ref b, .int x1, .int x2] σ (zQi Q) := by
  refine zM.ofW (own := "LawWorldsModel") (by decide +kernel) rfl (Nat.le_of_ble_eq_true rfl) ?_
  intro p e s m args below meth c ls hx hb hml hr hlocks hname hC hwk hw hS hl
  obtain ⟨σ0, eσ⟩ : ∃ z, z = σ := ⟨_, rfl⟩
  have hg : gr σ0 σ := by rw [eσ]; exact gr.rf
  have hl : lv_has ls 8 [(0, va_rf (some b)), (1, .int x1), (2, .int x2)] := hl
  obtain ⟨hsb, hB⟩ := h
  have hsb0 : s_s σ0 b = some (.inl 9) := by rw [eσ]; exact hsb
  rw [← eσ]
  skip
  obtain ⟨K13, hK13⟩ : ∃ K : Int32 → Int32 → Int32 → Int32 → Int32 → St → Prop, K = (fun (x1 : Int32) (x2 : Int32) (x3 : Int32) (x4 : Int32) (x5 : Int32) (σ : St) => ∀ (H : Heap) (locs : List Loc) (ls : Array Slot), gr σ0 σ → wh D B σ s H → va_S (zA B) s.heap H locs → lv_has ls 8 [(0, va_rf (some b)), (1, .int x1), (2, .int x2), (3, .int x3), (4, .int x4), (5, .int x5)] → W p l e (rm_M_lettersOf) s m args below meth c H locs 0 0 (MQ below (zQ D B σ0 (zQi Q)) args s (rm_M_lettersOf).cells (rm_M_lettersOf).slots (zA B)) (F0 m 13 ls [])) := ⟨_, rfl⟩
  obtain ⟨K28, hK28⟩ : ∃ K : Int32 → Int32 → Int32 → Int32 → Int32 → Int32 → St → Prop, K = (fun (x1 : Int32) (x2 : Int32) (x3 : Int32) (x4 : Int32) (x5 : Int32) (x6 : Int32) (σ : St) => ∀ (H : Heap) (locs : List Loc) (ls : Array Slot), gr σ0 σ → wh D B σ s H → va_S (zA B) s.heap H locs → lv_has ls 8 [(0, va_rf (some b)), (1, .int x1), (2, .int x2), (3, .int x3), (4, .int x4), (5, .int x5), (6, .int x6)] → W p l e (rm_M_lettersOf) s m args below meth c H locs 0 0 (MQ below (zQ D B σ0 (zQi Q)) args s (rm_M_lettersOf).cells (rm_M_lettersOf).slots (zA B)) (F0 m 28 ls [])) := ⟨_, rfl⟩
  obtain ⟨K59, hK59⟩ : ∃ K : Int32 → Int32 → Int32 → Int32 → Int32 → Int32 → Int32 → St → Prop, K = (fun (x1 : Int32) (x2 : Int32) (x3 : Int32) (x4 : Int32) (x5 : Int32) (x6 : Int32) (y0 : Int32) (σ : St) => ∀ (H : Heap) (locs : List Loc) (ls : Array Slot), gr σ0 σ → wh D B σ s H → va_S (zA B) s.heap H locs → lv_has ls 8 [(0, va_rf (some b)), (1, .int x1), (2, .int x2), (3, .int x3), (4, .int x4), (5, .int x5), (6, .int x6)] → W p l e (rm_M_lettersOf) s m args below meth c H locs 0 0 (MQ below (zQ D B σ0 (zQi Q)) args s (rm_M_lettersOf).cells (rm_M_lettersOf).slots (zA B)) (F0 m 59 ls [.int y0])) := ⟨_, rfl⟩
  refine (fun hB => ?_) (hB K13 K28 K59 ?_ ?_ ?_)
  · skip
    refine lv_iconst (v := nI 0) hx hb d_M_lettersOf_0 (by decide) ?_
    refine lv_istore_n (lv' := [(3, .int (nI 0)), (0, va_rf (some b)), (1, .int x1), (2, .int x2)]) hx hb d_M_lettersOf_1 rfl hl (by decide) rfl (fun ls hl => ?_)
    refine lv_iconst (v := nI 0) hx hb d_M_lettersOf_2 (by decide) ?_
    refine lv_istore (lv' := [(4, .int (nI 0)), (3, .int (nI 0)), (0, va_rf (some b)), (1, .int x1), (2, .int x2)]) hx hb d_M_lettersOf_3 hl (by decide) rfl (fun ls hl => ?_)
    refine lv_iload_n hx hb d_M_lettersOf_5 rfl (lv_at hl 3 rfl) ?_
    refine zr_callS (As := [.int x1]) (rest := []) hx hb hml hC hwk hw hS hl.1 (c_M_lawAt l D B x1 σ _ hB) mk_M_lawAt mt_M_lawAt ml_M_86 ⟨Nat.le_of_ble_eq_true rfl, Nat.le_of_ble_eq_true rfl⟩ rfl (cat_8 cat_n (Nat.le_of_ble_eq_true rfl)) d_M_lettersOf_6 ⟨Nat.le_refl _, Nat.le_refl _⟩ rfl (fun v σ11 H locs hp hgn hw hS => ?_)
    have hg := hg.tr hgn
    have hsb := hgn _ _ hsb
    obtain ⟨r12, rfl, hB⟩ := hp
    refine W.eq (g2 := F0 m 9 ls [.int r12]) rfl ?_
    refine lv_iconst (v := nI 1) hx hb d_M_lettersOf_9 (by decide) ?_
    refine lv_iadd hx hb d_M_lettersOf_10 ?_
    refine lv_istore (lv' := [(5, .int (r12 + (nI 1))), (4, .int (nI 0)), (3, .int (nI 0)), (0, va_rf (some b)), (1, .int x1), (2, .int x2)]) hx hb d_M_lettersOf_11 hl (by decide) rfl (fun ls hl => ?_)
    rw [hK13] at hB
    exact hB _ _ _ hg hw hS (lv_sub hl [3, 4, 5, 2, 1, 0] rfl)
  · intro x1 x2 x3 x4 x5 σ hB
    rw [hK13]
    intro H locs ls hg hw hS hl
    have hsb := hg _ _ hsb0
    refine lv_iload hx hb d_M_lettersOf_13 (lv_at hl 5 rfl) ?_
    refine lv_iload_n hx hb d_M_lettersOf_15 rfl (lv_at hl 1 rfl) ?_
    refine zr_callS (As := [.int x1]) (rest := [.int x5]) hx hb hml hC hwk hw hS hl.1 (c_M_lawAt l D B x1 σ _ hB) mk_M_lawAt mt_M_lawAt ml_M_86 ⟨Nat.le_of_ble_eq_true rfl, Nat.le_of_ble_eq_true rfl⟩ rfl (cat_8 (cat_c rfl cat_n) (Nat.le_of_ble_eq_true rfl)) d_M_lettersOf_16 ⟨Nat.le_refl _, Nat.le_refl _⟩ rfl (fun v σ1 H locs hp hgn hw hS => ?_)
    have hg := hg.tr hgn
    have hsb := hgn _ _ hsb
    obtain ⟨r2, rfl, hB⟩ := hp
    refine W.eq (g2 := F0 m 19 ls [.int r2, .int x5]) rfl ?_
    refine lv_bipush (v := nI 17) hx hb d_M_lettersOf_19 (by decide) ?_
    refine lv_iadd hx hb d_M_lettersOf_21 ?_
    refine lv_icmp_gt (tgt := 112) hx hb d_M_lettersOf_22 (by decide) (fun cd => ?_) (fun cd => ?_)
    · have hB := hB.1 cd
      refine lv_iload_n hx hb d_M_lettersOf_112 rfl (lv_at hl 2 rfl) ?_
      refine lv_if_eq (tgt := 121) hx hb d_M_lettersOf_113 (by decide) (fun cd => ?_) (fun cd => ?_)
      · have hB := hB.1 cd
        refine lv_iload_n hx hb d_M_lettersOf_121 rfl (lv_at hl 3 rfl) ?_
        exact zr_iret hx hb hr hlocks hB hg hw hS d_M_lettersOf_122
      · have hB := hB.2 cd
        refine lv_iload hx hb d_M_lettersOf_116 (lv_at hl 4 rfl) ?_
        refine lv_goto (tgt := 122) hx hb d_M_lettersOf_118 (by decide) ?_
        exact zr_iret hx hb hr hlocks hB hg hw hS d_M_lettersOf_122
    · have hB := hB.2 cd
      refine lv_iconst (v := nI 1) hx hb d_M_lettersOf_25 (by decide) ?_
      refine lv_istore (lv' := [(6, .int (nI 1)), (0, va_rf (some b)), (1, .int x1), (2, .int x2), (3, .int x3), (4, .int x4), (5, .int x5)]) hx hb d_M_lettersOf_26 hl (by decide) rfl (fun ls hl => ?_)
      rw [hK28] at hB
      exact hB _ _ _ hg hw hS (lv_sub hl [1, 2, 3, 4, 5, 6, 0] rfl)
  · intro x1 x2 x3 x4 x5 x6 σ hB
    rw [hK28]
    intro H locs ls hg hw hS hl
    have hsb := hg _ _ hsb0
    refine lv_iload hx hb d_M_lettersOf_28 (lv_at hl 6 rfl) ?_
    refine zr_aload_n (o := some b) hx hb d_M_lettersOf_30 rfl (lv_at hl 0 rfl) ?_
    refine zr_get (v := va_rf (s_r σ b 0)) hx hb hC hw rfl hsb fl_M_7 rfl d_M_lettersOf_31 ?_
    refine lv_iload hx hb d_M_lettersOf_34 (lv_at hl 5 rfl) ?_
    obtain ⟨q3, n3, j4, ho, hs, hin, hj, hB⟩ := hB
    refine zr_iald hx hb hw ho hs hin hj d_M_lettersOf_36 ?_
    refine lv_icmp_gt (tgt := 106) hx hb d_M_lettersOf_37 (by decide) (fun cd => ?_) (fun cd => ?_)
    · have hB := hB.1 cd
      refine lv_iinc (v := x5 + nI 16) (lv' := [(5, .int (x5 + nI 16)), (0, va_rf (some b)), (1, .int x1), (2, .int x2), (3, .int x3), (4, .int x4), (6, .int x6)]) hx hb d_M_lettersOf_106 hl (k := 5) rfl rfl (by decide) rfl (fun ls hl => ?_)
      refine lv_goto (tgt := 13) hx hb d_M_lettersOf_109 (by decide) ?_
      rw [hK13] at hB
      exact hB _ _ _ hg hw hS (lv_sub hl [1, 2, 3, 4, 5, 0] rfl)
    · have hB := hB.2 cd
      refine zr_aload_n (o := some b) hx hb d_M_lettersOf_40 rfl (lv_at hl 0 rfl) ?_
      refine zr_get (v := va_rf (s_r σ b 0)) hx hb hC hw rfl hsb fl_M_7 rfl d_M_lettersOf_41 ?_
      refine lv_iload hx hb d_M_lettersOf_44 (lv_at hl 5 rfl) ?_
      refine lv_iload hx hb d_M_lettersOf_46 (lv_at hl 6 rfl) ?_
      refine lv_iadd hx hb d_M_lettersOf_48 ?_
      obtain ⟨q5, n5, j6, ho, hs, hin, hj, hB⟩ := hB
      refine zr_iald hx hb hw ho hs hin hj d_M_lettersOf_49 ?_
      refine lv_iconst (v := nI 3) hx hb d_M_lettersOf_50 (by decide) ?_
      refine lv_icmp_eq (tgt := 58) hx hb d_M_lettersOf_51 (by decide) (fun cd => ?_) (fun cd => ?_)
      · have hB := hB.1 cd
        refine lv_iconst (v := nI 0) hx hb d_M_lettersOf_58 (by decide) ?_
        rw [hK59] at hB
        exact hB _ _ _ hg hw hS (lv_sub hl [0, 1, 2, 3, 4, 5, 6] rfl)
      · have hB := hB.2 cd
        refine lv_iconst (v := nI 1) hx hb d_M_lettersOf_54 (by decide) ?_
        refine lv_goto (tgt := 59) hx hb d_M_lettersOf_55 (by decide) ?_
        rw [hK59] at hB
        exact hB _ _ _ hg hw hS (lv_sub hl [0, 1, 2, 3, 4, 5, 6] rfl)
  · intro x1 x2 x3 x4 x5 x6 y0 σ hB
    rw [hK59]
    intro H locs ls hg hw hS hl
    have hsb := hg _ _ hsb0
    refine lv_istore (lv' := [(7, .int y0), (0, va_rf (some b)), (1, .int x1), (2, .int x2), (3, .int x3), (4, .int x4), (5, .int x5), (6, .int x6)]) hx hb d_M_lettersOf_59 hl (by decide) rfl (fun ls hl => ?_)
    refine lv_iload_n hx hb d_M_lettersOf_61 rfl (lv_at hl 4 rfl) ?_
    refine lv_iload hx hb d_M_lettersOf_62 (lv_at hl 0 rfl) ?_
    refine lv_if_eq (tgt := 71) hx hb d_M_lettersOf_64 (by decide) (fun cd => ?_) (fun cd => ?_)
    · have hB := hB.1 cd
      refine lv_iconst (v := nI 0) hx hb d_M_lettersOf_71 (by decide) ?_
      refine lv_iadd hx hb d_M_lettersOf_72 ?_
      refine lv_istore_n (lv' := [(3, .int (x3 + (nI 0))), (7, .int y0), (0, va_rf (some b)), (1, .int x1), (2, .int x2), (4, .int x4), (5, .int x5), (6, .int x6)]) hx hb d_M_lettersOf_73 rfl hl (by decide) rfl (fun ls hl => ?_)
      refine lv_iload hx hb d_M_lettersOf_74 (lv_at hl 5 rfl) ?_
      refine lv_iload hx hb d_M_lettersOf_76 (lv_at hl 1 rfl) ?_
      refine lv_if_eq (tgt := 96) hx hb d_M_lettersOf_78 (by decide) (fun cd => ?_) (fun cd => ?_)
      · have hB := hB.1 cd
        refine lv_iconst (v := nI 0) hx hb d_M_lettersOf_96 (by decide) ?_
        refine lv_ior hx hb d_M_lettersOf_97 ?_
        refine lv_istore (lv' := [(4, .int (x4 ||| (nI 0))), (3, .int (x3 + (nI 0))), (7, .int y0), (0, va_rf (some b)), (1, .int x1), (2, .int x2), (5, .int x5), (6, .int x6)]) hx hb d_M_lettersOf_98 hl (by decide) rfl (fun ls hl => ?_)
        refine lv_iinc (v := x6 + nI 1) (lv' := [(6, .int (x6 + nI 1)), (4, .int (x4 ||| (nI 0))), (3, .int (x3 + (nI 0))), (7, .int y0), (0, va_rf (some b)), (1, .int x1), (2, .int x2), (5, .int x5)]) hx hb d_M_lettersOf_100 hl (k := 7) rfl rfl (by decide) rfl (fun ls hl => ?_)
        refine lv_goto (tgt := 28) hx hb d_M_lettersOf_103 (by decide) ?_
        rw [hK28] at hB
        exact hB _ _ _ hg hw hS (lv_sub hl [4, 5, 6, 2, 1, 7, 0] rfl)
      · have hB := hB.2 cd
        refine lv_iconst (v := nI 1) hx hb d_M_lettersOf_81 (by decide) ?_
        refine zr_aload_n (o := some b) hx hb d_M_lettersOf_82 rfl (lv_at hl 2 rfl) ?_
        refine zr_get (v := va_rf (s_r σ b 0)) hx hb hC hw rfl hsb fl_M_7 rfl d_M_lettersOf_83 ?_
        refine lv_iload hx hb d_M_lettersOf_86 (lv_at hl 6 rfl) ?_
        refine lv_iload hx hb d_M_lettersOf_88 (lv_at hl 7 rfl) ?_
        refine lv_iadd hx hb d_M_lettersOf_90 ?_
        obtain ⟨q7, n7, j8, ho, hs, hin, hj, hB⟩ := hB
        refine zr_iald hx hb hw ho hs hin hj d_M_lettersOf_91 ?_
        refine zr_ishl hx hb d_M_lettersOf_92 ?_
        refine lv_goto (tgt := 97) hx hb d_M_lettersOf_93 (by decide) ?_
        refine lv_ior hx hb d_M_lettersOf_97 ?_
        refine lv_istore (lv' := [(4, .int (x4 ||| (shl (nI 1) (s_i σ q7 j8)))), (3, .int (x3 + (nI 0))), (7, .int y0), (0, va_rf (some b)), (1, .int x1), (2, .int x2), (5, .int x5), (6, .int x6)]) hx hb d_M_lettersOf_98 hl (by decide) rfl (fun ls hl => ?_)
        refine lv_iinc (v := x6 + nI 1) (lv' := [(6, .int (x6 + nI 1)), (4, .int (x4 ||| (shl (nI 1) (s_i σ q7 j8)))), (3, .int (x3 + (nI 0))), (7, .int y0), (0, va_rf (some b)), (1, .int x1), (2, .int x2), (5, .int x5)]) hx hb d_M_lettersOf_100 hl (k := 7) rfl rfl (by decide) rfl (fun ls hl => ?_)
        refine lv_goto (tgt := 28) hx hb d_M_lettersOf_103 (by decide) ?_
        rw [hK28] at hB
        exact hB _ _ _ hg hw hS (lv_sub hl [4, 5, 6, 2, 1, 7, 0] rfl)
    · have hB := hB.2 cd
      refine lv_iconst (v := nI 1) hx hb d_M_lettersOf_67 (by decide) ?_
      refine lv_goto (tgt := 72) hx hb d_M_lettersOf_68 (by decide) ?_
      refine lv_iadd hx hb d_M_lettersOf_72 ?_
      refine lv_istore_n (lv' := [(3, .int (x3 + (nI 1))), (7, .int y0), (0, va_rf (some b)), (1, .int x1), (2, .int x2), (4, .int x4), (5, .int x5), (6, .int x6)]) hx hb d_M_lettersOf_73 rfl hl (by decide) rfl (fun ls hl => ?_)
      refine lv_iload hx hb d_M_lettersOf_74 (lv_at hl 5 rfl) ?_
      refine lv_iload hx hb d_M_lettersOf_76 (lv_at hl 1 rfl) ?_
      refine lv_if_eq (tgt := 96) hx hb d_M_lettersOf_78 (by decide) (fun cd => ?_) (fun cd => ?_)
      · have hB := hB.1 cd
        refine lv_iconst (v := nI 0) hx hb d_M_lettersOf_96 (by decide) ?_
        refine lv_ior hx hb d_M_lettersOf_97 ?_
        refine lv_istore (lv' := [(4, .int (x4 ||| (nI 0))), (3, .int (x3 + (nI 1))), (7, .int y0), (0, va_rf (some b)), (1, .int x1), (2, .int x2), (5, .int x5), (6, .int x6)]) hx hb d_M_lettersOf_98 hl (by decide) rfl (fun ls hl => ?_)
        refine lv_iinc (v := x6 + nI 1) (lv' := [(6, .int (x6 + nI 1)), (4, .int (x4 ||| (nI 0))), (3, .int (x3 + (nI 1))), (7, .int y0), (0, va_rf (some b)), (1, .int x1), (2, .int x2), (5, .int x5)]) hx hb d_M_lettersOf_100 hl (k := 7) rfl rfl (by decide) rfl (fun ls hl => ?_)
        refine lv_goto (tgt := 28) hx hb d_M_lettersOf_103 (by decide) ?_
        rw [hK28] at hB
        exact hB _ _ _ hg hw hS (lv_sub hl [4, 5, 6, 2, 1, 7, 0] rfl)
      · have hB := hB.2 cd
        refine lv_iconst (v := nI 1) hx hb d_M_lettersOf_81 (by decide) ?_
        refine zr_aload_n (o := some b) hx hb d_M_lettersOf_82 rfl (lv_at hl 2 rfl) ?_
        refine zr_get (v := va_rf (s_r σ b 0)) hx hb hC hw rfl hsb fl_M_7 rfl d_M_lettersOf_83 ?_
        refine lv_iload hx hb d_M_lettersOf_86 (lv_at hl 6 rfl) ?_
        refine lv_iload hx hb d_M_lettersOf_88 (lv_at hl 7 rfl) ?_
        refine lv_iadd hx hb d_M_lettersOf_90 ?_
        obtain ⟨q9, n9, j10, ho, hs, hin, hj, hB⟩ := hB
        refine zr_iald hx hb hw ho hs hin hj d_M_lettersOf_91 ?_
        refine zr_ishl hx hb d_M_lettersOf_92 ?_
        refine lv_goto (tgt := 97) hx hb d_M_lettersOf_93 (by decide) ?_
        refine lv_ior hx hb d_M_lettersOf_97 ?_
        refine lv_istore (lv' := [(4, .int (x4 ||| (shl (nI 1) (s_i σ q9 j10)))), (3, .int (x3 + (nI 1))), (7, .int y0), (0, va_rf (some b)), (1, .int x1), (2, .int x2), (5, .int x5), (6, .int x6)]) hx hb d_M_lettersOf_98 hl (by decide) rfl (fun ls hl => ?_)
        refine lv_iinc (v := x6 + nI 1) (lv' := [(6, .int (x6 + nI 1)), (4, .int (x4 ||| (shl (nI 1) (s_i σ q9 j10)))), (3, .int (x3 + (nI 1))), (7, .int y0), (0, va_rf (some b)), (1, .int x1), (2, .int x2), (5, .int x5)]) hx hb d_M_lettersOf_100 hl (k := 7) rfl rfl (by decide) rfl (fun ls hl => ?_)
        refine lv_goto (tgt := 28) hx hb d_M_lettersOf_103 (by decide) ?_
        rw [hK28] at hB
        exact hB _ _ _ hg hw hS (lv_sub hl [4, 5, 6, 2, 1, 7, 0] rfl)

set_option maxHeartbeats 4000000 in
set_option maxRecDepth 100000 in
theorem c_M_follows (l : Launch) (D : va_G) (B : Nat) (b : Nat) (x1 : Int32) (σ : St) (Q : Int32 → St → Prop) (h : P_M_follows b x1 σ Q) : zM l y_M_follows b_M_follows 2 (some (.boolean)) (rm_M_follows) D B [.ref b, .int x1] σ (zQi Q) := by
  refine zM.ofW (own := "LawWorldsModel") (by decide +kernel) rfl (Nat.le_of_ble_eq_true rfl) ?_
  intro p e s m args below meth c ls hx hb hml hr hlocks hname hC hwk hw hS hl
  obtain ⟨σ0, eσ⟩ : ∃ z, z = σ := ⟨_, rfl⟩
  have hg : gr σ0 σ := by rw [eσ]; exact gr.rf
  have hl : lv_has ls 2 [(0, va_rf (some b)), (1, .int x1)] := hl
  obtain ⟨hsb, hB⟩ := h
  have hsb0 : s_s σ0 b = some (.inl 9) := by rw [eσ]; exact hsb
  rw [← eσ]
  skip
  refine zr_aload_n (o := some b) hx hb d_M_follows_0 rfl (lv_at hl 0 rfl) ?_
  refine lv_iload_n hx hb d_M_follows_1 rfl (lv_at hl 1 rfl) ?_
  have hsr := And.left hB
  refine zr_callV (ci := 9) (As := [.int x1]) (rest := []) hx hb hml hC hwk hw hS hl.1 (c_M_findsWitnesses l D B b x1 σ _ hB) mk_M_findsWitnesses mi_M_findsWitnesses ms_M_findsWitnesses ml_M_124 ⟨Nat.le_of_ble_eq_true rfl, Nat.le_of_ble_eq_true rfl⟩ rfl hsr rfl (cat_8 cat_n (Nat.le_of_ble_eq_true rfl)) d_M_follows_2 ⟨Nat.le_refl _, Nat.le_refl _⟩ rfl (fun v σ1 H locs hp hgn hw hS => ?_)
  have hg := hg.tr hgn
  have hsb := hgn _ _ hsb
  obtain ⟨rfl, hB⟩ := hp
  refine W.eq (g2 := F0 m 5 ls []) rfl ?_
  refine zr_aload_n (o := some b) hx hb d_M_follows_5 rfl (lv_at hl 0 rfl) ?_
  refine zr_get (v := .int (s_i σ1 b 14)) hx hb hC hw rfl hsb fl_M_117 rfl d_M_follows_6 ?_
  refine lv_if_ne (tgt := 16) hx hb d_M_follows_9 (by decide) (fun cd => ?_) (fun cd => ?_)
  · have hB := hB.2 cd
    refine lv_iconst (v := nI 0) hx hb d_M_follows_16 (by decide) ?_
    exact zr_zret hx hb hr hlocks (Or.inl rfl) hB hg hw hS d_M_follows_17
  · have hB := hB.1 cd
    refine lv_iconst (v := nI 1) hx hb d_M_follows_12 (by decide) ?_
    refine lv_goto (tgt := 17) hx hb d_M_follows_13 (by decide) ?_
    exact zr_zret hx hb hr hlocks (Or.inr rfl) hB hg hw hS d_M_follows_17

set_option maxHeartbeats 4000000 in
set_option maxRecDepth 100000 in
theorem c_M_toldWitnesses (l : Launch) (D : va_G) (B : Nat) (b : Nat) (x1 : Int32) (σ : St) (Q : Int32 → St → Prop) (h : P_M_toldWitnesses b x1 σ Q) : zM l y_M_toldWitnesses b_M_toldWitnesses 2 (some (.int)) (rm_M_toldWitnesses) D B [.ref b, .int x1] σ (zQi Q) := by
  refine zM.ofW (own := "LawWorldsModel") (by decide +kernel) rfl (Nat.le_of_ble_eq_true rfl) ?_
  intro p e s m args below meth c ls hx hb hml hr hlocks hname hC hwk hw hS hl
  obtain ⟨σ0, eσ⟩ : ∃ z, z = σ := ⟨_, rfl⟩
  have hg : gr σ0 σ := by rw [eσ]; exact gr.rf
  have hl : lv_has ls 2 [(0, va_rf (some b)), (1, .int x1)] := hl
  obtain ⟨hsb, hB⟩ := h
  have hsb0 : s_s σ0 b = some (.inl 9) := by rw [eσ]; exact hsb
  rw [← eσ]
  skip
  refine zr_aload_n (o := some b) hx hb d_M_toldWitnesses_0 rfl (lv_at hl 0 rfl) ?_
  refine lv_iload_n hx hb d_M_toldWitnesses_1 rfl (lv_at hl 1 rfl) ?_
  have hsr := And.left hB
  refine zr_callV (ci := 9) (As := [.int x1]) (rest := []) hx hb hml hC hwk hw hS hl.1 (c_M_findsWitnesses l D B b x1 σ _ hB) mk_M_findsWitnesses mi_M_findsWitnesses ms_M_findsWitnesses ml_M_124 ⟨Nat.le_of_ble_eq_true rfl, Nat.le_of_ble_eq_true rfl⟩ rfl hsr rfl (cat_8 cat_n (Nat.le_of_ble_eq_true rfl)) d_M_toldWitnesses_2 ⟨Nat.le_refl _, Nat.le_refl _⟩ rfl (fun v σ1 H locs hp hgn hw hS => ?_)
  have hg := hg.tr hgn
  have hsb := hgn _ _ hsb
  obtain ⟨rfl, hB⟩ := hp
  refine W.eq (g2 := F0 m 5 ls []) rfl ?_
  refine zr_aload_n (o := some b) hx hb d_M_toldWitnesses_5 rfl (lv_at hl 0 rfl) ?_
  refine zr_get (v := .int (s_i σ1 b 14)) hx hb hC hw rfl hsb fl_M_117 rfl d_M_toldWitnesses_6 ?_
  exact zr_iret hx hb hr hlocks hB hg hw hS d_M_toldWitnesses_9

set_option maxHeartbeats 4000000 in
set_option maxRecDepth 100000 in
theorem c_M_firstBroken (l : Launch) (D : va_G) (B : Nat) (b : Nat) (x1 : Int32) (σ : St) (Q : Int32 → St → Prop) (h : P_M_firstBroken b x1 σ Q) : zM l y_M_firstBroken b_M_firstBroken 3 (some (.int)) (rm_M_firstBroken) D B [.ref b, .int x1] σ (zQi Q) := by
  refine zM.ofW (own := "LawWorldsModel") (by decide +kernel) rfl (Nat.le_of_ble_eq_true rfl) ?_
  intro p e s m args below meth c ls hx hb hml hr hlocks hname hC hwk hw hS hl
  obtain ⟨σ0, eσ⟩ : ∃ z, z = σ := ⟨_, rfl⟩
  have hg : gr σ0 σ := by rw [eσ]; exact gr.rf
  have hl : lv_has ls 3 [(0, va_rf (some b)), (1, .int x1)] := hl
  obtain ⟨hsb, hB⟩ := h
  have hsb0 : s_s σ0 b = some (.inl 9) := by rw [eσ]; exact hsb
  rw [← eσ]
  skip
  obtain ⟨K18, hK18⟩ : ∃ K : Int32 → Int32 → St → Prop, K = (fun (x1 : Int32) (x2 : Int32) (σ : St) => ∀ (H : Heap) (locs : List Loc) (ls : Array Slot), gr σ0 σ → wh D B σ s H → va_S (zA B) s.heap H locs → lv_has ls 3 [(0, va_rf (some b)), (1, .int x1), (2, .int x2)] → W p l e (rm_M_firstBroken) s m args below meth c H locs 0 0 (MQ below (zQ D B σ0 (zQi Q)) args s (rm_M_firstBroken).cells (rm_M_firstBroken).slots (zA B)) (F0 m 18 ls [])) := ⟨_, rfl⟩
  refine (fun hB => ?_) (hB K18 ?_)
  · skip
    refine zr_aload_n (o := some b) hx hb d_M_firstBroken_0 rfl (lv_at hl 0 rfl) ?_
    refine zr_aload_n (o := some b) hx hb d_M_firstBroken_1 rfl (lv_at hl 0 rfl) ?_
    refine zr_get (v := va_rf (s_r σ b 0)) hx hb hC hw rfl hsb fl_M_7 rfl d_M_firstBroken_2 ?_
    refine lv_iconst (v := nI 0) hx hb d_M_firstBroken_5 (by decide) ?_
    obtain ⟨q11, n11, j12, ho, hs, hin, hj, hB⟩ := hB
    refine zr_iald hx hb hw ho hs hin hj d_M_firstBroken_6 ?_
    refine zr_aload_n (o := some b) hx hb d_M_firstBroken_7 rfl (lv_at hl 0 rfl) ?_
    refine zr_get (v := va_rf (s_r σ b 0)) hx hb hC hw rfl hsb fl_M_7 rfl d_M_firstBroken_8 ?_
    refine lv_iconst (v := nI 1) hx hb d_M_firstBroken_11 (by decide) ?_
    obtain ⟨q13, n13, j14, ho, hs, hin, hj, hB⟩ := hB
    refine zr_iald hx hb hw ho hs hin hj d_M_firstBroken_12 ?_
    have hsr := And.left hB
    refine zr_callV (ci := 9) (As := [.int (s_i σ q11 j12), .int (s_i σ q13 j14)]) (rest := []) hx hb hml hC hwk hw hS hl.1 (c_M_unfolds l D B b (s_i σ q11 j12) (s_i σ q13 j14) σ _ hB) mk_M_unfolds mi_M_unfolds ms_M_unfolds ml_M_76 ⟨Nat.le_of_ble_eq_true rfl, Nat.le_of_ble_eq_true rfl⟩ rfl hsr rfl (cat_8 cat_n (Nat.le_of_ble_eq_true rfl)) d_M_firstBroken_13 ⟨Nat.le_refl _, Nat.le_refl _⟩ rfl (fun v σ15 H locs hp hgn hw hS => ?_)
    have hg := hg.tr hgn
    have hsb := hgn _ _ hsb
    obtain ⟨rfl, hB⟩ := hp
    refine W.eq (g2 := F0 m 16 ls []) rfl ?_
    refine lv_iconst (v := nI 0) hx hb d_M_firstBroken_16 (by decide) ?_
    refine lv_istore_n (lv' := [(2, .int (nI 0)), (0, va_rf (some b)), (1, .int x1)]) hx hb d_M_firstBroken_17 rfl hl (by decide) rfl (fun ls hl => ?_)
    rw [hK18] at hB
    exact hB _ _ _ hg hw hS (lv_sub hl [1, 2, 0] rfl)
  · intro x1 x2 σ hB
    rw [hK18]
    intro H locs ls hg hw hS hl
    have hsb := hg _ _ hsb0
    refine lv_iload_n hx hb d_M_firstBroken_18 rfl (lv_at hl 2 rfl) ?_
    refine zr_aload_n (o := some b) hx hb d_M_firstBroken_19 rfl (lv_at hl 0 rfl) ?_
    refine zr_get (v := va_rf (s_r σ b 0)) hx hb hC hw rfl hsb fl_M_7 rfl d_M_firstBroken_20 ?_
    refine lv_iconst (v := nI 0) hx hb d_M_firstBroken_23 (by decide) ?_
    obtain ⟨q1, n1, j2, ho, hs, hin, hj, hB⟩ := hB
    refine zr_iald hx hb hw ho hs hin hj d_M_firstBroken_24 ?_
    refine zr_aload_n (o := some b) hx hb d_M_firstBroken_25 rfl (lv_at hl 0 rfl) ?_
    refine zr_get (v := va_rf (s_r σ b 0)) hx hb hC hw rfl hsb fl_M_7 rfl d_M_firstBroken_26 ?_
    refine lv_iconst (v := nI 0) hx hb d_M_firstBroken_29 (by decide) ?_
    obtain ⟨q3, n3, j4, ho, hs, hin, hj, hB⟩ := hB
    refine zr_iald hx hb hw ho hs hin hj d_M_firstBroken_30 ?_
    refine lv_imul hx hb d_M_firstBroken_31 ?_
    refine zr_aload_n (o := some b) hx hb d_M_firstBroken_32 rfl (lv_at hl 0 rfl) ?_
    refine zr_get (v := va_rf (s_r σ b 0)) hx hb hC hw rfl hsb fl_M_7 rfl d_M_firstBroken_33 ?_
    refine lv_iconst (v := nI 0) hx hb d_M_firstBroken_36 (by decide) ?_
    obtain ⟨q5, n5, j6, ho, hs, hin, hj, hB⟩ := hB
    refine zr_iald hx hb hw ho hs hin hj d_M_firstBroken_37 ?_
    refine lv_imul hx hb d_M_firstBroken_38 ?_
    refine lv_icmp_ge (tgt := 65) hx hb d_M_firstBroken_39 (by decide) (fun cd => ?_) (fun cd => ?_)
    · have hB := hB.1 cd
      refine lv_bipush (v := (-5)) hx hb d_M_firstBroken_65 (by decide) ?_
      exact zr_iret hx hb hr hlocks hB hg hw hS d_M_firstBroken_67
    · have hB := hB.2 cd
      refine zr_aload_n (o := some b) hx hb d_M_firstBroken_42 rfl (lv_at hl 0 rfl) ?_
      refine zr_aload_n (o := some b) hx hb d_M_firstBroken_43 rfl (lv_at hl 0 rfl) ?_
      refine zr_get (v := va_rf (s_r σ b 0)) hx hb hC hw rfl hsb fl_M_7 rfl d_M_firstBroken_44 ?_
      refine lv_iconst (v := nI 0) hx hb d_M_firstBroken_47 (by decide) ?_
      obtain ⟨q7, n7, j8, ho, hs, hin, hj, hB⟩ := hB
      refine zr_iald hx hb hw ho hs hin hj d_M_firstBroken_48 ?_
      refine lv_iload_n hx hb d_M_firstBroken_49 rfl (lv_at hl 1 rfl) ?_
      refine lv_iload_n hx hb d_M_firstBroken_50 rfl (lv_at hl 2 rfl) ?_
      have hsr := And.left hB
      refine zr_callV (ci := 9) (As := [.int (s_i σ q7 j8), .int x1, .int x2]) (rest := []) hx hb hml hC hwk hw hS hl.1 (c_M_isBroken l D B b (s_i σ q7 j8) x1 x2 σ _ hB) mk_M_isBroken mi_M_isBroken ms_M_isBroken ml_M_93 ⟨Nat.le_of_ble_eq_true rfl, Nat.le_of_ble_eq_true rfl⟩ rfl hsr rfl (cat_8 cat_n (Nat.le_of_ble_eq_true rfl)) d_M_firstBroken_51 ⟨Nat.le_refl _, Nat.le_refl _⟩ rfl (fun v σ9 H locs hp hgn hw hS => ?_)
      have hg := hg.tr hgn
      have hsb := hgn _ _ hsb
      obtain ⟨r10, rfl, hB⟩ := hp
      refine W.eq (g2 := F0 m 54 ls [.int r10]) rfl ?_
      refine lv_if_eq (tgt := 59) hx hb d_M_firstBroken_54 (by decide) (fun cd => ?_) (fun cd => ?_)
      · have hB := hB.1 cd
        refine lv_iinc (v := x2 + nI 1) (lv' := [(2, .int (x2 + nI 1)), (0, va_rf (some b)), (1, .int x1)]) hx hb d_M_firstBroken_59 hl (k := 2) rfl rfl (by decide) rfl (fun ls hl => ?_)
        refine lv_goto (tgt := 18) hx hb d_M_firstBroken_62 (by decide) ?_
        rw [hK18] at hB
        exact hB _ _ _ hg hw hS (lv_sub hl [1, 2, 0] rfl)
      · have hB := hB.2 cd
        refine lv_iload_n hx hb d_M_firstBroken_57 rfl (lv_at hl 2 rfl) ?_
        exact zr_iret hx hb hr hlocks hB hg hw hS d_M_firstBroken_58

set_option maxHeartbeats 4000000 in
set_option maxRecDepth 100000 in
theorem c_M_law (l : Launch) (D : va_G) (B : Nat) (b : Nat) (x1 : Int32) (x2 : Int32) (σ : St) (Q : Int32 → St → Prop) (h : P_M_law b x1 x2 σ Q) : zM l y_M_law b_M_law 3 (some (.int)) (rm_M_law) D B [.ref b, .int x1, .int x2] σ (zQi Q) := by
  refine zM.ofW (own := "LawWorldsModel") (by decide +kernel) rfl (Nat.le_of_ble_eq_true rfl) ?_
  intro p e s m args below meth c ls hx hb hml hr hlocks hname hC hwk hw hS hl
  obtain ⟨σ0, eσ⟩ : ∃ z, z = σ := ⟨_, rfl⟩
  have hg : gr σ0 σ := by rw [eσ]; exact gr.rf
  have hl : lv_has ls 3 [(0, va_rf (some b)), (1, .int x1), (2, .int x2)] := hl
  obtain ⟨hsb, hB⟩ := h
  have hsb0 : s_s σ0 b = some (.inl 9) := by rw [eσ]; exact hsb
  rw [← eσ]
  skip
  refine zr_aload_n (o := some b) hx hb d_M_law_0 rfl (lv_at hl 0 rfl) ?_
  refine lv_iload_n hx hb d_M_law_1 rfl (lv_at hl 1 rfl) ?_
  have hsr := And.left hB
  refine zr_callV (ci := 9) (As := [.int x1]) (rest := []) hx hb hml hC hwk hw hS hl.1 (c_M_isLaw l D B b x1 σ _ hB) mk_M_isLaw mi_M_isLaw ms_M_isLaw ml_M_189 ⟨Nat.le_of_ble_eq_true rfl, Nat.le_of_ble_eq_true rfl⟩ rfl hsr rfl (cat_8 cat_n (Nat.le_of_ble_eq_true rfl)) d_M_law_2 ⟨Nat.le_refl _, Nat.le_refl _⟩ rfl (fun v σ1 H locs hp hgn hw hS => ?_)
  have hg := hg.tr hgn
  have hsb := hgn _ _ hsb
  obtain ⟨r2, rfl, hB⟩ := hp
  refine W.eq (g2 := F0 m 5 ls [.int r2]) rfl ?_
  refine lv_if_ne (tgt := 10) hx hb d_M_law_5 (by decide) (fun cd => ?_) (fun cd => ?_)
  · have hB := hB.2 cd
    refine lv_iload_n hx hb d_M_law_10 rfl (lv_at hl 2 rfl) ?_
    by_cases c0 : x2 = nI 0
    · have hB := hB.1 c0
      refine lv_tableIn (tgt := 52) (off := 41) hx hb d_M_law_11 (by rw [c0]; decide) (by rw [c0]; decide) (by rw [c0]; decide) (by decide) ?_
      refine zr_aload_n (o := some b) hx hb d_M_law_52 rfl (lv_at hl 0 rfl) ?_
      refine zr_get (v := va_rf (s_r σ1 b 0)) hx hb hC hw rfl hsb fl_M_7 rfl d_M_law_53 ?_
      refine lv_iload_n hx hb d_M_law_56 rfl (lv_at hl 1 rfl) ?_
      refine zr_callS (As := [.int x1]) (rest := [va_rf (s_r σ1 b 0)]) hx hb hml hC hwk hw hS hl.1 (c_M_lawAt l D B x1 σ1 _ hB) mk_M_lawAt mt_M_lawAt ml_M_86 ⟨Nat.le_of_ble_eq_true rfl, Nat.le_of_ble_eq_true rfl⟩ rfl (cat_8 (cat_c (va_rf_cat _) cat_n) (Nat.le_of_ble_eq_true rfl)) d_M_law_57 ⟨Nat.le_refl _, Nat.le_refl _⟩ rfl (fun v σ3 H locs hp hgn hw hS => ?_)
      have hg := hg.tr hgn
      have hsb := hgn _ _ hsb
      obtain ⟨r4, rfl, hB⟩ := hp
      refine W.eq (g2 := F0 m 60 ls [.int r4, va_rf (s_r σ1 b 0)]) rfl ?_
      obtain ⟨q5, n5, j6, ho, hs, hin, hj, hB⟩ := hB
      refine zr_iald hx hb hw ho hs hin hj d_M_law_60 ?_
      exact zr_iret hx hb hr hlocks hB hg hw hS d_M_law_61
    · have hB := hB.2 c0
      by_cases c1 : x2 = nI 1
      · have hB := hB.1 c1
        refine lv_tableIn (tgt := 62) (off := 51) hx hb d_M_law_11 (by rw [c1]; decide) (by rw [c1]; decide) (by rw [c1]; decide) (by decide) ?_
        refine zr_aload_n (o := some b) hx hb d_M_law_62 rfl (lv_at hl 0 rfl) ?_
        refine lv_iload_n hx hb d_M_law_63 rfl (lv_at hl 1 rfl) ?_
        have hsr := And.left hB
        refine zr_callV (ci := 9) (As := [.int x1]) (rest := []) hx hb hml hC hwk hw hS hl.1 (c_M_brokenNow l D B b x1 σ1 _ hB) mk_M_brokenNow mi_M_brokenNow ms_M_brokenNow ml_M_198 ⟨Nat.le_of_ble_eq_true rfl, Nat.le_of_ble_eq_true rfl⟩ rfl hsr rfl (cat_8 cat_n (Nat.le_of_ble_eq_true rfl)) d_M_law_64 ⟨Nat.le_refl _, Nat.le_refl _⟩ rfl (fun v σ7 H locs hp hgn hw hS => ?_)
        have hg := hg.tr hgn
        have hsb := hgn _ _ hsb
        obtain ⟨r8, rfl, hB⟩ := hp
        refine W.eq (g2 := F0 m 67 ls [.int r8]) rfl ?_
        exact zr_iret hx hb hr hlocks hB hg hw hS d_M_law_67
      · have hB := hB.2 c1
        by_cases c2 : x2 = nI 2
        · have hB := hB.1 c2
          refine lv_tableIn (tgt := 68) (off := 57) hx hb d_M_law_11 (by rw [c2]; decide) (by rw [c2]; decide) (by rw [c2]; decide) (by decide) ?_
          refine zr_aload_n (o := some b) hx hb d_M_law_68 rfl (lv_at hl 0 rfl) ?_
          refine lv_iload_n hx hb d_M_law_69 rfl (lv_at hl 1 rfl) ?_
          refine lv_iconst (v := nI 0) hx hb d_M_law_70 (by decide) ?_
          have hsr := And.left hB
          refine zr_callV (ci := 9) (As := [.int x1, .int (nI 0)]) (rest := []) hx hb hml hC hwk hw hS hl.1 (c_M_lettersOf l D B b x1 (nI 0) σ1 _ hB) mk_M_lettersOf mi_M_lettersOf ms_M_lettersOf ml_M_211 ⟨Nat.le_of_ble_eq_true rfl, Nat.le_of_ble_eq_true rfl⟩ rfl hsr rfl (cat_8 cat_n (Nat.le_of_ble_eq_true rfl)) d_M_law_71 ⟨Nat.le_refl _, Nat.le_refl _⟩ rfl (fun v σ9 H locs hp hgn hw hS => ?_)
          have hg := hg.tr hgn
          have hsb := hgn _ _ hsb
          obtain ⟨r10, rfl, hB⟩ := hp
          refine W.eq (g2 := F0 m 74 ls [.int r10]) rfl ?_
          exact zr_iret hx hb hr hlocks hB hg hw hS d_M_law_74
        · have hB := hB.2 c2
          by_cases c3 : x2 = nI 3
          · have hB := hB.1 c3
            refine lv_tableIn (tgt := 75) (off := 64) hx hb d_M_law_11 (by rw [c3]; decide) (by rw [c3]; decide) (by rw [c3]; decide) (by decide) ?_
            refine zr_aload_n (o := some b) hx hb d_M_law_75 rfl (lv_at hl 0 rfl) ?_
            refine lv_iload_n hx hb d_M_law_76 rfl (lv_at hl 1 rfl) ?_
            refine lv_iconst (v := nI 1) hx hb d_M_law_77 (by decide) ?_
            have hsr := And.left hB
            refine zr_callV (ci := 9) (As := [.int x1, .int (nI 1)]) (rest := []) hx hb hml hC hwk hw hS hl.1 (c_M_lettersOf l D B b x1 (nI 1) σ1 _ hB) mk_M_lettersOf mi_M_lettersOf ms_M_lettersOf ml_M_211 ⟨Nat.le_of_ble_eq_true rfl, Nat.le_of_ble_eq_true rfl⟩ rfl hsr rfl (cat_8 cat_n (Nat.le_of_ble_eq_true rfl)) d_M_law_78 ⟨Nat.le_refl _, Nat.le_refl _⟩ rfl (fun v σ11 H locs hp hgn hw hS => ?_)
            have hg := hg.tr hgn
            have hsb := hgn _ _ hsb
            obtain ⟨r12, rfl, hB⟩ := hp
            refine W.eq (g2 := F0 m 81 ls [.int r12]) rfl ?_
            exact zr_iret hx hb hr hlocks hB hg hw hS d_M_law_81
          · have hB := hB.2 c3
            by_cases c4 : x2 = nI 4
            · have hB := hB.1 c4
              refine lv_tableIn (tgt := 82) (off := 71) hx hb d_M_law_11 (by rw [c4]; decide) (by rw [c4]; decide) (by rw [c4]; decide) (by decide) ?_
              refine zr_aload_n (o := some b) hx hb d_M_law_82 rfl (lv_at hl 0 rfl) ?_
              refine lv_iload_n hx hb d_M_law_83 rfl (lv_at hl 1 rfl) ?_
              have hsr := And.left hB
              refine zr_callV (ci := 9) (As := [.int x1]) (rest := []) hx hb hml hC hwk hw hS hl.1 (c_M_follows l D B b x1 σ1 _ hB) mk_M_follows mi_M_follows ms_M_follows ml_M_215 ⟨Nat.le_of_ble_eq_true rfl, Nat.le_of_ble_eq_true rfl⟩ rfl hsr rfl (cat_8 cat_n (Nat.le_of_ble_eq_true rfl)) d_M_law_84 ⟨Nat.le_refl _, Nat.le_refl _⟩ rfl (fun v σ13 H locs hp hgn hw hS => ?_)
              have hg := hg.tr hgn
              have hsb := hgn _ _ hsb
              obtain ⟨r14, rfl, hB⟩ := hp
              refine W.eq (g2 := F0 m 87 ls [.int r14]) rfl ?_
              refine lv_if_eq (tgt := 94) hx hb d_M_law_87 (by decide) (fun cd => ?_) (fun cd => ?_)
              · have hB := hB.1 cd
                refine lv_iconst (v := nI 0) hx hb d_M_law_94 (by decide) ?_
                exact zr_iret hx hb hr hlocks hB hg hw hS d_M_law_95
              · have hB := hB.2 cd
                refine lv_iconst (v := nI 1) hx hb d_M_law_90 (by decide) ?_
                refine lv_goto (tgt := 95) hx hb d_M_law_91 (by decide) ?_
                exact zr_iret hx hb hr hlocks hB hg hw hS d_M_law_95
            · have hB := hB.2 c4
              by_cases c5 : x2 = nI 5
              · have hB := hB.1 c5
                refine lv_tableIn (tgt := 96) (off := 85) hx hb d_M_law_11 (by rw [c5]; decide) (by rw [c5]; decide) (by rw [c5]; decide) (by decide) ?_
                refine zr_aload_n (o := some b) hx hb d_M_law_96 rfl (lv_at hl 0 rfl) ?_
                refine lv_iload_n hx hb d_M_law_97 rfl (lv_at hl 1 rfl) ?_
                have hsr := And.left hB
                refine zr_callV (ci := 9) (As := [.int x1]) (rest := []) hx hb hml hC hwk hw hS hl.1 (c_M_toldWitnesses l D B b x1 σ1 _ hB) mk_M_toldWitnesses mi_M_toldWitnesses ms_M_toldWitnesses ml_M_218 ⟨Nat.le_of_ble_eq_true rfl, Nat.le_of_ble_eq_true rfl⟩ rfl hsr rfl (cat_8 cat_n (Nat.le_of_ble_eq_true rfl)) d_M_law_98 ⟨Nat.le_refl _, Nat.le_refl _⟩ rfl (fun v σ15 H locs hp hgn hw hS => ?_)
                have hg := hg.tr hgn
                have hsb := hgn _ _ hsb
                obtain ⟨r16, rfl, hB⟩ := hp
                refine W.eq (g2 := F0 m 101 ls [.int r16]) rfl ?_
                exact zr_iret hx hb hr hlocks hB hg hw hS d_M_law_101
              · have hB := hB.2 c5
                by_cases c6 : x2 = nI 6
                · have hB := hB.1 c6
                  refine lv_tableIn (tgt := 102) (off := 91) hx hb d_M_law_11 (by rw [c6]; decide) (by rw [c6]; decide) (by rw [c6]; decide) (by decide) ?_
                  refine zr_aload_n (o := some b) hx hb d_M_law_102 rfl (lv_at hl 0 rfl) ?_
                  refine lv_iload_n hx hb d_M_law_103 rfl (lv_at hl 1 rfl) ?_
                  have hsr := And.left hB
                  refine zr_callV (ci := 9) (As := [.int x1]) (rest := []) hx hb hml hC hwk hw hS hl.1 (c_M_firstBroken l D B b x1 σ1 _ hB) mk_M_firstBroken mi_M_firstBroken ms_M_firstBroken ml_M_221 ⟨Nat.le_of_ble_eq_true rfl, Nat.le_of_ble_eq_true rfl⟩ rfl hsr rfl (cat_8 cat_n (Nat.le_of_ble_eq_true rfl)) d_M_law_104 ⟨Nat.le_refl _, Nat.le_refl _⟩ rfl (fun v σ17 H locs hp hgn hw hS => ?_)
                  have hg := hg.tr hgn
                  have hsb := hgn _ _ hsb
                  obtain ⟨r18, rfl, hB⟩ := hp
                  refine W.eq (g2 := F0 m 107 ls [.int r18]) rfl ?_
                  exact zr_iret hx hb hr hlocks hB hg hw hS d_M_law_107
                · have hB := hB.2 c6
                  refine lv_tableOut (tgt := 108) hx hb d_M_law_11 (sw_out (n := 7) (by decide) (fun k hk => ?_)) (by decide) ?_
                  · match k, hk with
                    | 0, _ => exact c0
                    | 1, _ => exact c1
                    | 2, _ => exact c2
                    | 3, _ => exact c3
                    | 4, _ => exact c4
                    | 5, _ => exact c5
                    | 6, _ => exact c6
                    | k + 7, h => exact absurd h (by omega)
                  · skip
                    refine lv_bipush (v := (-2)) hx hb d_M_law_108 (by decide) ?_
                    exact zr_iret hx hb hr hlocks hB hg hw hS d_M_law_110
  · have hB := hB.1 cd
    refine lv_iconst (v := (-1)) hx hb d_M_law_8 (by decide) ?_
    exact zr_iret hx hb hr hlocks hB hg hw hS d_M_law_9

set_option maxHeartbeats 4000000 in
set_option maxRecDepth 100000 in
theorem c_M_side (l : Launch) (D : va_G) (B : Nat) (b : Nat) (x1 : Int32) (x2 : Int32) (x3 : Int32) (σ : St) (Q : Int32 → St → Prop) (h : P_M_side b x1 x2 x3 σ Q) : zM l y_M_side b_M_side 5 (some (.int)) (rm_M_side) D B [.ref b, .int x1, .int x2, .int x3] σ (zQi Q) := by
  refine zM.ofW (own := "LawWorldsModel") (by decide +kernel) rfl (Nat.le_of_ble_eq_true rfl) ?_
  intro p e s m args below meth c ls hx hb hml hr hlocks hname hC hwk hw hS hl
  obtain ⟨σ0, eσ⟩ : ∃ z, z = σ := ⟨_, rfl⟩
  have hg : gr σ0 σ := by rw [eσ]; exact gr.rf
  have hl : lv_has ls 5 [(0, va_rf (some b)), (1, .int x1), (2, .int x2), (3, .int x3)] := hl
  obtain ⟨hsb, hB⟩ := h
  have hsb0 : s_s σ0 b = some (.inl 9) := by rw [eσ]; exact hsb
  rw [← eσ]
  skip
  refine zr_aload_n (o := some b) hx hb d_M_side_0 rfl (lv_at hl 0 rfl) ?_
  refine lv_iload_n hx hb d_M_side_1 rfl (lv_at hl 1 rfl) ?_
  have hsr := And.left hB
  refine zr_callV (ci := 9) (As := [.int x1]) (rest := []) hx hb hml hC hwk hw hS hl.1 (c_M_isLaw l D B b x1 σ _ hB) mk_M_isLaw mi_M_isLaw ms_M_isLaw ml_M_189 ⟨Nat.le_of_ble_eq_true rfl, Nat.le_of_ble_eq_true rfl⟩ rfl hsr rfl (cat_8 cat_n (Nat.le_of_ble_eq_true rfl)) d_M_side_2 ⟨Nat.le_refl _, Nat.le_refl _⟩ rfl (fun v σ1 H locs hp hgn hw hS => ?_)
  have hg := hg.tr hgn
  have hsb := hgn _ _ hsb
  obtain ⟨r2, rfl, hB⟩ := hp
  refine W.eq (g2 := F0 m 5 ls [.int r2]) rfl ?_
  refine lv_if_ne (tgt := 10) hx hb d_M_side_5 (by decide) (fun cd => ?_) (fun cd => ?_)
  · have hB := hB.2 cd
    refine zr_aload_n (o := some b) hx hb d_M_side_10 rfl (lv_at hl 0 rfl) ?_
    refine zr_get (v := va_rf (s_r σ1 b 0)) hx hb hC hw rfl hsb fl_M_7 rfl d_M_side_11 ?_
    refine lv_iconst (v := nI 0) hx hb d_M_side_14 (by decide) ?_
    obtain ⟨q3, n3, j4, ho, hs, hin, hj, hB⟩ := hB
    refine zr_iald hx hb hw ho hs hin hj d_M_side_15 ?_
    refine lv_istore (lv' := [(4, .int (s_i σ1 q3 j4)), (0, va_rf (some b)), (1, .int x1), (2, .int x2), (3, .int x3)]) hx hb d_M_side_16 hl (by decide) rfl (fun ls hl => ?_)
    refine lv_iload_n hx hb d_M_side_18 rfl (lv_at hl 4 rfl) ?_
    refine lv_i2l hx hb d_M_side_19 rfl ?_
    refine lv_lconst (v := lN 0) hx hb d_M_side_20 (by decide) ?_
    refine lv_iload hx hb d_M_side_21 (lv_at hl 0 rfl) ?_
    refine lv_iload hx hb d_M_side_23 (lv_at hl 0 rfl) ?_
    refine lv_imul hx hb d_M_side_25 ?_
    refine lv_iload hx hb d_M_side_26 (lv_at hl 0 rfl) ?_
    refine lv_imul hx hb d_M_side_28 ?_
    refine lv_iconst (v := nI 1) hx hb d_M_side_29 (by decide) ?_
    refine lv_isub hx hb d_M_side_30 ?_
    refine lv_i2l hx hb d_M_side_31 rfl ?_
    refine zr_callS (As := [.long (x3.toInt64), .long (lN 0), .long (((((s_i σ1 q3 j4) * (s_i σ1 q3 j4)) * (s_i σ1 q3 j4)) - (nI 1)).toInt64)]) (rest := []) hx hb hml hC hwk hw hS hl.1 (c_M_in l D B (x3.toInt64) (lN 0) (((((s_i σ1 q3 j4) * (s_i σ1 q3 j4)) * (s_i σ1 q3 j4)) - (nI 1)).toInt64) σ1 _ hB) mk_M_in mt_M_in ml_M_69 ⟨Nat.le_of_ble_eq_true rfl, Nat.le_of_ble_eq_true rfl⟩ rfl (cat_8 cat_n (Nat.le_of_ble_eq_true rfl)) d_M_side_32 ⟨Nat.le_refl _, Nat.le_refl _⟩ rfl (fun v σ5 H locs hp hgn hw hS => ?_)
    have hg := hg.tr hgn
    have hsb := hgn _ _ hsb
    obtain ⟨r6, rfl, hB⟩ := hp
    refine W.eq (g2 := F0 m 35 ls [.int r6]) rfl ?_
    refine lv_if_ne (tgt := 41) hx hb d_M_side_35 (by decide) (fun cd => ?_) (fun cd => ?_)
    · have hB := hB.2 cd
      refine zr_aload_n (o := some b) hx hb d_M_side_41 rfl (lv_at hl 1 rfl) ?_
      refine lv_iload hx hb d_M_side_42 (lv_at hl 0 rfl) ?_
      refine zr_aload_n (o := some b) hx hb d_M_side_44 rfl (lv_at hl 1 rfl) ?_
      refine zr_get (v := va_rf (s_r σ5 b 0)) hx hb hC hw rfl hsb fl_M_7 rfl d_M_side_45 ?_
      refine lv_iconst (v := nI 1) hx hb d_M_side_48 (by decide) ?_
      obtain ⟨q7, n7, j8, ho, hs, hin, hj, hB⟩ := hB
      refine zr_iald hx hb hw ho hs hin hj d_M_side_49 ?_
      have hsr := And.left hB
      refine zr_callV (ci := 9) (As := [.int (s_i σ1 q3 j4), .int (s_i σ5 q7 j8)]) (rest := []) hx hb hml hC hwk hw hS hl.1 (c_M_unfolds l D B b (s_i σ1 q3 j4) (s_i σ5 q7 j8) σ5 _ hB) mk_M_unfolds mi_M_unfolds ms_M_unfolds ml_M_76 ⟨Nat.le_of_ble_eq_true rfl, Nat.le_of_ble_eq_true rfl⟩ rfl hsr rfl (cat_8 cat_n (Nat.le_of_ble_eq_true rfl)) d_M_side_50 ⟨Nat.le_refl _, Nat.le_refl _⟩ rfl (fun v σ9 H locs hp hgn hw hS => ?_)
      have hg := hg.tr hgn
      have hsb := hgn _ _ hsb
      obtain ⟨rfl, hB⟩ := hp
      refine W.eq (g2 := F0 m 53 ls []) rfl ?_
      refine zr_aload_n (o := some b) hx hb d_M_side_53 rfl (lv_at hl 1 rfl) ?_
      refine lv_iload hx hb d_M_side_54 (lv_at hl 0 rfl) ?_
      refine lv_iload_n hx hb d_M_side_56 rfl (lv_at hl 2 rfl) ?_
      refine zr_callS (As := [.int x1]) (rest := [.int (s_i σ1 q3 j4), va_rf (some b)]) hx hb hml hC hwk hw hS hl.1 (c_M_lawAt l D B x1 σ9 _ hB) mk_M_lawAt mt_M_lawAt ml_M_86 ⟨Nat.le_of_ble_eq_true rfl, Nat.le_of_ble_eq_true rfl⟩ rfl (cat_8 (cat_c rfl (cat_c (va_rf_cat _) cat_n)) (Nat.le_of_ble_eq_true rfl)) d_M_side_57 ⟨Nat.le_refl _, Nat.le_refl _⟩ rfl (fun v σ10 H locs hp hgn hw hS => ?_)
      have hg := hg.tr hgn
      have hsb := hgn _ _ hsb
      obtain ⟨r11, rfl, hB⟩ := hp
      refine W.eq (g2 := F0 m 60 ls [.int r11, .int (s_i σ1 q3 j4), va_rf (some b)]) rfl ?_
      refine lv_iload_n hx hb d_M_side_60 rfl (lv_at hl 3 rfl) ?_
      refine lv_if_eq (tgt := 69) hx hb d_M_side_61 (by decide) (fun cd => ?_) (fun cd => ?_)
      · have hB := hB.1 cd
        refine lv_iconst (v := nI 1) hx hb d_M_side_69 (by decide) ?_
        refine lv_iadd hx hb d_M_side_70 ?_
        refine lv_iload_n hx hb d_M_side_71 rfl (lv_at hl 4 rfl) ?_
        have hsr := And.left hB
        refine zr_callV (ci := 9) (As := [.int (s_i σ1 q3 j4), .int (r11 + (nI 1)), .int x3]) (rest := []) hx hb hml hC hwk hw hS hl.1 (c_M_comesOf l D B b (s_i σ1 q3 j4) (r11 + (nI 1)) x3 σ10 _ hB) mk_M_comesOf mi_M_comesOf ms_M_comesOf ml_M_89 ⟨Nat.le_of_ble_eq_true rfl, Nat.le_of_ble_eq_true rfl⟩ rfl hsr rfl (cat_8 cat_n (Nat.le_of_ble_eq_true rfl)) d_M_side_72 ⟨Nat.le_refl _, Nat.le_refl _⟩ rfl (fun v σ12 H locs hp hgn hw hS => ?_)
        have hg := hg.tr hgn
        have hsb := hgn _ _ hsb
        obtain ⟨r13, rfl, hB⟩ := hp
        refine W.eq (g2 := F0 m 75 ls [.int r13]) rfl ?_
        exact zr_iret hx hb hr hlocks hB hg hw hS d_M_side_75
      · have hB := hB.2 cd
        refine lv_bipush (v := nI 17) hx hb d_M_side_64 (by decide) ?_
        refine lv_goto (tgt := 70) hx hb d_M_side_66 (by decide) ?_
        refine lv_iadd hx hb d_M_side_70 ?_
        refine lv_iload_n hx hb d_M_side_71 rfl (lv_at hl 4 rfl) ?_
        have hsr := And.left hB
        refine zr_callV (ci := 9) (As := [.int (s_i σ1 q3 j4), .int (r11 + (nI 17)), .int x3]) (rest := []) hx hb hml hC hwk hw hS hl.1 (c_M_comesOf l D B b (s_i σ1 q3 j4) (r11 + (nI 17)) x3 σ10 _ hB) mk_M_comesOf mi_M_comesOf ms_M_comesOf ml_M_89 ⟨Nat.le_of_ble_eq_true rfl, Nat.le_of_ble_eq_true rfl⟩ rfl hsr rfl (cat_8 cat_n (Nat.le_of_ble_eq_true rfl)) d_M_side_72 ⟨Nat.le_refl _, Nat.le_refl _⟩ rfl (fun v σ14 H locs hp hgn hw hS => ?_)
        have hg := hg.tr hgn
        have hsb := hgn _ _ hsb
        obtain ⟨r15, rfl, hB⟩ := hp
        refine W.eq (g2 := F0 m 75 ls [.int r15]) rfl ?_
        exact zr_iret hx hb hr hlocks hB hg hw hS d_M_side_75
    · have hB := hB.1 cd
      refine lv_bipush (v := (-2)) hx hb d_M_side_38 (by decide) ?_
      exact zr_iret hx hb hr hlocks hB hg hw hS d_M_side_40
  · have hB := hB.1 cd
    refine lv_iconst (v := (-1)) hx hb d_M_side_8 (by decide) ?_
    exact zr_iret hx hb hr hlocks hB hg hw hS d_M_side_9

set_option maxHeartbeats 4000000 in
set_option maxRecDepth 100000 in
theorem c_M_witness (l : Launch) (D : va_G) (B : Nat) (b : Nat) (x1 : Int32) (x2 : Int32) (x3 : Int32) (σ : St) (Q : Int32 → St → Prop) (h : P_M_witness b x1 x2 x3 σ Q) : zM l y_M_witness b_M_witness 5 (some (.int)) (rm_M_witness) D B [.ref b, .int x1, .int x2, .int x3] σ (zQi Q) := by
  refine zM.ofW (own := "LawWorldsModel") (by decide +kernel) rfl (Nat.le_of_ble_eq_true rfl) ?_
  intro p e s m args below meth c ls hx hb hml hr hlocks hname hC hwk hw hS hl
  obtain ⟨σ0, eσ⟩ : ∃ z, z = σ := ⟨_, rfl⟩
  have hg : gr σ0 σ := by rw [eσ]; exact gr.rf
  have hl : lv_has ls 5 [(0, va_rf (some b)), (1, .int x1), (2, .int x2), (3, .int x3)] := hl
  obtain ⟨hsb, hB⟩ := h
  have hsb0 : s_s σ0 b = some (.inl 9) := by rw [eσ]; exact hsb
  rw [← eσ]
  skip
  refine zr_aload_n (o := some b) hx hb d_M_witness_0 rfl (lv_at hl 0 rfl) ?_
  refine lv_iload_n hx hb d_M_witness_1 rfl (lv_at hl 1 rfl) ?_
  have hsr := And.left hB
  refine zr_callV (ci := 9) (As := [.int x1]) (rest := []) hx hb hml hC hwk hw hS hl.1 (c_M_isLaw l D B b x1 σ _ hB) mk_M_isLaw mi_M_isLaw ms_M_isLaw ml_M_189 ⟨Nat.le_of_ble_eq_true rfl, Nat.le_of_ble_eq_true rfl⟩ rfl hsr rfl (cat_8 cat_n (Nat.le_of_ble_eq_true rfl)) d_M_witness_2 ⟨Nat.le_refl _, Nat.le_refl _⟩ rfl (fun v σ1 H locs hp hgn hw hS => ?_)
  have hg := hg.tr hgn
  have hsb := hgn _ _ hsb
  obtain ⟨r2, rfl, hB⟩ := hp
  refine W.eq (g2 := F0 m 5 ls [.int r2]) rfl ?_
  refine lv_if_ne (tgt := 10) hx hb d_M_witness_5 (by decide) (fun cd => ?_) (fun cd => ?_)
  · have hB := hB.2 cd
    refine lv_iload_n hx hb d_M_witness_10 rfl (lv_at hl 2 rfl) ?_
    refine lv_if_lt (tgt := 26) hx hb d_M_witness_11 (by decide) (fun cd => ?_) (fun cd => ?_)
    · have hB := hB.1 cd
      refine lv_bipush (v := (-2)) hx hb d_M_witness_26 (by decide) ?_
      exact zr_iret hx hb hr hlocks hB hg hw hS d_M_witness_28
    · have hB := hB.2 cd
      refine lv_iload_n hx hb d_M_witness_14 rfl (lv_at hl 3 rfl) ?_
      refine lv_i2l hx hb d_M_witness_15 rfl ?_
      refine lv_lconst (v := lN 0) hx hb d_M_witness_16 (by decide) ?_
      refine lv_ldc2 (v := lN 2) hx hb hC.1 (hC.2.1 _ kc_M_224) d_M_witness_17 ?_
      refine zr_callS (As := [.long (x3.toInt64), .long (lN 0), .long (lN 2)]) (rest := []) hx hb hml hC hwk hw hS hl.1 (c_M_in l D B (x3.toInt64) (lN 0) (lN 2) σ1 _ hB) mk_M_in mt_M_in ml_M_69 ⟨Nat.le_of_ble_eq_true rfl, Nat.le_of_ble_eq_true rfl⟩ rfl (cat_8 cat_n (Nat.le_of_ble_eq_true rfl)) d_M_witness_20 ⟨Nat.le_refl _, Nat.le_refl _⟩ rfl (fun v σ3 H locs hp hgn hw hS => ?_)
      have hg := hg.tr hgn
      have hsb := hgn _ _ hsb
      obtain ⟨r4, rfl, hB⟩ := hp
      refine W.eq (g2 := F0 m 23 ls [.int r4]) rfl ?_
      refine lv_if_ne (tgt := 29) hx hb d_M_witness_23 (by decide) (fun cd => ?_) (fun cd => ?_)
      · have hB := hB.2 cd
        refine zr_aload_n (o := some b) hx hb d_M_witness_29 rfl (lv_at hl 0 rfl) ?_
        refine lv_iload_n hx hb d_M_witness_30 rfl (lv_at hl 1 rfl) ?_
        have hsr := And.left hB
        refine zr_callV (ci := 9) (As := [.int x1]) (rest := []) hx hb hml hC hwk hw hS hl.1 (c_M_findsWitnesses l D B b x1 σ3 _ hB) mk_M_findsWitnesses mi_M_findsWitnesses ms_M_findsWitnesses ml_M_124 ⟨Nat.le_of_ble_eq_true rfl, Nat.le_of_ble_eq_true rfl⟩ rfl hsr rfl (cat_8 cat_n (Nat.le_of_ble_eq_true rfl)) d_M_witness_31 ⟨Nat.le_refl _, Nat.le_refl _⟩ rfl (fun v σ5 H locs hp hgn hw hS => ?_)
        have hg := hg.tr hgn
        have hsb := hgn _ _ hsb
        obtain ⟨rfl, hB⟩ := hp
        refine W.eq (g2 := F0 m 34 ls []) rfl ?_
        refine lv_iload_n hx hb d_M_witness_34 rfl (lv_at hl 2 rfl) ?_
        refine zr_aload_n (o := some b) hx hb d_M_witness_35 rfl (lv_at hl 0 rfl) ?_
        refine zr_get (v := .int (s_i σ5 b 14)) hx hb hC hw rfl hsb fl_M_117 rfl d_M_witness_36 ?_
        refine lv_icmp_lt (tgt := 45) hx hb d_M_witness_39 (by decide) (fun cd => ?_) (fun cd => ?_)
        · have hB := hB.1 cd
          refine zr_aload_n (o := some b) hx hb d_M_witness_45 rfl (lv_at hl 0 rfl) ?_
          refine zr_get (v := va_rf (s_r σ5 b 13)) hx hb hC hw rfl hsb fl_M_40 rfl d_M_witness_46 ?_
          refine lv_iload_n hx hb d_M_witness_49 rfl (lv_at hl 2 rfl) ?_
          obtain ⟨q6, n6, j7, ho, hs, hin, hj, hB⟩ := hB
          refine zr_iald hx hb hw ho hs hin hj d_M_witness_50 ?_
          refine lv_istore (lv' := [(4, .int (s_i σ5 q6 j7)), (0, va_rf (some b)), (1, .int x1), (2, .int x2), (3, .int x3)]) hx hb d_M_witness_51 hl (by decide) rfl (fun ls hl => ?_)
          refine lv_iload_n hx hb d_M_witness_53 rfl (lv_at hl 4 rfl) ?_
          refine lv_if_ne (tgt := 69) hx hb d_M_witness_54 (by decide) (fun cd => ?_) (fun cd => ?_)
          · have hB := hB.2 cd
            refine lv_iload_n hx hb d_M_witness_69 rfl (lv_at hl 4 rfl) ?_
            refine lv_iconst (v := nI 1) hx hb d_M_witness_70 (by decide) ?_
            refine lv_icmp_ne (tgt := 84) hx hb d_M_witness_71 (by decide) (fun cd => ?_) (fun cd => ?_)
            · have hB := hB.2 cd
              refine zr_aload_n (o := some b) hx hb d_M_witness_84 rfl (lv_at hl 1 rfl) ?_
              refine zr_get (v := va_rf (s_r σ5 b 10)) hx hb hC hw rfl hsb fl_M_34 rfl d_M_witness_85 ?_
              refine lv_sipush (v := nI 3341) hx hb d_M_witness_88 (by decide) ?_
              refine lv_iload_n hx hb d_M_witness_91 rfl (lv_at hl 2 rfl) ?_
              refine lv_imul hx hb d_M_witness_92 ?_
              refine lv_iload hx hb d_M_witness_93 (lv_at hl 0 rfl) ?_
              refine lv_iadd hx hb d_M_witness_95 ?_
              obtain ⟨q8, n8, j9, ho, hs, hin, hj, hB⟩ := hB
              refine zr_iald hx hb hw ho hs hin hj d_M_witness_96 ?_
              exact zr_iret hx hb hr hlocks hB hg hw hS d_M_witness_97
            · have hB := hB.1 cd
              refine zr_aload_n (o := some b) hx hb d_M_witness_74 rfl (lv_at hl 1 rfl) ?_
              refine zr_get (v := va_rf (s_r σ5 b 6)) hx hb hC hw rfl hsb fl_M_22 rfl d_M_witness_75 ?_
              refine lv_iload hx hb d_M_witness_78 (lv_at hl 0 rfl) ?_
              obtain ⟨q10, n10, j11, ho, hs, hin, hj, hB⟩ := hB
              refine zr_iald hx hb hw ho hs hin hj d_M_witness_80 ?_
              refine lv_goto (tgt := 97) hx hb d_M_witness_81 (by decide) ?_
              exact zr_iret hx hb hr hlocks hB hg hw hS d_M_witness_97
          · have hB := hB.1 cd
            refine zr_aload_n (o := some b) hx hb d_M_witness_57 rfl (lv_at hl 1 rfl) ?_
            refine zr_get (v := va_rf (s_r σ5 b 7)) hx hb hC hw rfl hsb fl_M_25 rfl d_M_witness_58 ?_
            refine lv_iload hx hb d_M_witness_61 (lv_at hl 0 rfl) ?_
            refine zr_callS (As := [va_rf (s_r σ5 b 7), .int (s_i σ5 q6 j7)]) (rest := []) hx hb hml hC hwk hw hS hl.1 (c_M_sizeAt l D B (s_r σ5 b 7) (s_i σ5 q6 j7) σ5 _ hB) mk_M_sizeAt mt_M_sizeAt ml_M_107 ⟨Nat.le_of_ble_eq_true rfl, Nat.le_of_ble_eq_true rfl⟩ rfl (cat_8 cat_n (Nat.le_of_ble_eq_true rfl)) d_M_witness_63 ⟨Nat.le_refl _, Nat.le_refl _⟩ rfl (fun v σ12 H locs hp hgn hw hS => ?_)
            have hg := hg.tr hgn
            have hsb := hgn _ _ hsb
            obtain ⟨r13, rfl, hB⟩ := hp
            refine W.eq (g2 := F0 m 66 ls [.int r13]) rfl ?_
            refine lv_goto (tgt := 97) hx hb d_M_witness_66 (by decide) ?_
            exact zr_iret hx hb hr hlocks hB hg hw hS d_M_witness_97
        · have hB := hB.2 cd
          refine lv_bipush (v := (-5)) hx hb d_M_witness_42 (by decide) ?_
          exact zr_iret hx hb hr hlocks hB hg hw hS d_M_witness_44
      · have hB := hB.1 cd
        refine lv_bipush (v := (-2)) hx hb d_M_witness_26 (by decide) ?_
        exact zr_iret hx hb hr hlocks hB hg hw hS d_M_witness_28
  · have hB := hB.1 cd
    refine lv_iconst (v := (-1)) hx hb d_M_witness_8 (by decide) ?_
    exact zr_iret hx hb hr hlocks hB hg hw hS d_M_witness_9

set_option maxHeartbeats 4000000 in
set_option maxRecDepth 100000 in
theorem c_M_model (l : Launch) (D : va_G) (B : Nat) (b : Nat) (x1 : Int32) (x2 : Int32) (σ : St) (Q : Int32 → St → Prop) (h : P_M_model b x1 x2 σ Q) : zM l y_M_model b_M_model 5 (some (.int)) (rm_M_model) D B [.ref b, .int x1, .int x2] σ (zQi Q) := by
  refine zM.ofW (own := "LawWorldsModel") (by decide +kernel) rfl (Nat.le_of_ble_eq_true rfl) ?_
  intro p e s m args below meth c ls hx hb hml hr hlocks hname hC hwk hw hS hl
  obtain ⟨σ0, eσ⟩ : ∃ z, z = σ := ⟨_, rfl⟩
  have hg : gr σ0 σ := by rw [eσ]; exact gr.rf
  have hl : lv_has ls 5 [(0, va_rf (some b)), (1, .int x1), (2, .int x2)] := hl
  obtain ⟨hsb, hB⟩ := h
  have hsb0 : s_s σ0 b = some (.inl 9) := by rw [eσ]; exact hsb
  rw [← eσ]
  skip
  obtain ⟨K33, hK33⟩ : ∃ K : Int32 → Int32 → Int32 → St → Prop, K = (fun (x1 : Int32) (x3 : Int32) (x4 : Int32) (σ : St) => ∀ (H : Heap) (locs : List Loc) (ls : Array Slot), gr σ0 σ → wh D B σ s H → va_S (zA B) s.heap H locs → lv_has ls 5 [(0, va_rf (some b)), (1, .int x1), (3, .int x3), (4, .int x4)] → W p l e (rm_M_model) s m args below meth c H locs 0 0 (MQ below (zQ D B σ0 (zQi Q)) args s (rm_M_model).cells (rm_M_model).slots (zA B)) (F0 m 33 ls [])) := ⟨_, rfl⟩
  refine (fun hB => ?_) (hB K33 ?_)
  · skip
    refine lv_iload_n hx hb d_M_model_0 rfl (lv_at hl 1 rfl) ?_
    refine lv_i2l hx hb d_M_model_1 rfl ?_
    refine lv_lconst (v := lN 1) hx hb d_M_model_2 (by decide) ?_
    refine lv_ldc2 (v := lN 3) hx hb hC.1 (hC.2.1 _ kc_M_67) d_M_model_3 ?_
    refine zr_callS (As := [.long (x1.toInt64), .long (lN 1), .long (lN 3)]) (rest := []) hx hb hml hC hwk hw hS hl.1 (c_M_in l D B (x1.toInt64) (lN 1) (lN 3) σ _ hB) mk_M_in mt_M_in ml_M_69 ⟨Nat.le_of_ble_eq_true rfl, Nat.le_of_ble_eq_true rfl⟩ rfl (cat_8 cat_n (Nat.le_of_ble_eq_true rfl)) d_M_model_6 ⟨Nat.le_refl _, Nat.le_refl _⟩ rfl (fun v σ7 H locs hp hgn hw hS => ?_)
    have hg := hg.tr hgn
    have hsb := hgn _ _ hsb
    obtain ⟨r8, rfl, hB⟩ := hp
    refine W.eq (g2 := F0 m 9 ls [.int r8]) rfl ?_
    refine lv_if_eq (tgt := 16) hx hb d_M_model_9 (by decide) (fun cd => ?_) (fun cd => ?_)
    · have hB := hB.1 cd
      refine lv_bipush (v := (-2)) hx hb d_M_model_16 (by decide) ?_
      exact zr_iret hx hb hr hlocks hB hg hw hS d_M_model_18
    · have hB := hB.2 cd
      refine lv_iload_n hx hb d_M_model_12 rfl (lv_at hl 2 rfl) ?_
      refine lv_if_ge (tgt := 19) hx hb d_M_model_13 (by decide) (fun cd => ?_) (fun cd => ?_)
      · have hB := hB.1 cd
        refine zr_aload_n (o := some b) hx hb d_M_model_19 rfl (lv_at hl 0 rfl) ?_
        have hsr := And.left hB
        refine zr_callV (ci := 9) (As := []) (rest := []) hx hb hml hC hwk hw hS hl.1 (c_M_learns l D B b σ7 _ hB) mk_M_learns mi_M_learns ms_M_learns ml_M_114 ⟨Nat.le_of_ble_eq_true rfl, Nat.le_of_ble_eq_true rfl⟩ rfl hsr rfl (cat_8 cat_n (Nat.le_of_ble_eq_true rfl)) d_M_model_20 ⟨Nat.le_refl _, Nat.le_refl _⟩ rfl (fun v σ9 H locs hp hgn hw hS => ?_)
        have hg := hg.tr hgn
        have hsb := hgn _ _ hsb
        obtain ⟨rfl, hB⟩ := hp
        refine W.eq (g2 := F0 m 23 ls []) rfl ?_
        refine lv_iload_n hx hb d_M_model_23 rfl (lv_at hl 2 rfl) ?_
        refine lv_istore_n (lv' := [(3, .int x2), (0, va_rf (some b)), (1, .int x1), (2, .int x2)]) hx hb d_M_model_24 rfl hl (by decide) rfl (fun ls hl => ?_)
        refine zr_aload_n (o := some b) hx hb d_M_model_25 rfl (lv_at hl 1 rfl) ?_
        refine zr_get (v := va_rf (s_r σ9 b 7)) hx hb hC hw rfl hsb fl_M_25 rfl d_M_model_26 ?_
        refine lv_iload_n hx hb d_M_model_29 rfl (lv_at hl 2 rfl) ?_
        obtain ⟨q10, n10, j11, ho, hs, hin, hj, hB⟩ := hB
        refine zr_iald hx hb hw ho hs hin hj d_M_model_30 ?_
        refine lv_istore (lv' := [(4, .int (s_i σ9 q10 j11)), (3, .int x2), (0, va_rf (some b)), (1, .int x1), (2, .int x2)]) hx hb d_M_model_31 hl (by decide) rfl (fun ls hl => ?_)
        rw [hK33] at hB
        exact hB _ _ _ hg hw hS (lv_sub hl [2, 3, 1, 0] rfl)
      · have hB := hB.2 cd
        refine lv_bipush (v := (-2)) hx hb d_M_model_16 (by decide) ?_
        exact zr_iret hx hb hr hlocks hB hg hw hS d_M_model_18
  · intro x1 x3 x4 σ hB
    rw [hK33]
    intro H locs ls hg hw hS hl
    have hsb := hg _ _ hsb0
    refine lv_iload hx hb d_M_model_33 (lv_at hl 3 rfl) ?_
    refine zr_aload_n (o := some b) hx hb d_M_model_35 rfl (lv_at hl 0 rfl) ?_
    refine zr_get (v := va_rf (s_r σ b 7)) hx hb hC hw rfl hsb fl_M_25 rfl d_M_model_36 ?_
    refine lv_iload_n hx hb d_M_model_39 rfl (lv_at hl 1 rfl) ?_
    refine lv_iconst (v := nI 1) hx hb d_M_model_40 (by decide) ?_
    refine lv_iadd hx hb d_M_model_41 ?_
    obtain ⟨q1, n1, j2, ho, hs, hin, hj, hB⟩ := hB
    refine zr_iald hx hb hw ho hs hin hj d_M_model_42 ?_
    refine lv_icmp_ge (tgt := 78) hx hb d_M_model_43 (by decide) (fun cd => ?_) (fun cd => ?_)
    · have hB := hB.1 cd
      refine lv_bipush (v := (-5)) hx hb d_M_model_78 (by decide) ?_
      exact zr_iret hx hb hr hlocks hB hg hw hS d_M_model_80
    · have hB := hB.2 cd
      refine zr_aload_n (o := some b) hx hb d_M_model_46 rfl (lv_at hl 0 rfl) ?_
      refine lv_iload hx hb d_M_model_47 (lv_at hl 3 rfl) ?_
      refine lv_bipush (v := (-5)) hx hb d_M_model_49 (by decide) ?_
      have hsr := And.left hB
      refine zr_callV (ci := 9) (As := [.int x4, .int (-5)]) (rest := []) hx hb hml hC hwk hw hS hl.1 (c_M_hold l D B b x4 (-5) σ _ hB) mk_M_hold mi_M_hold ms_M_hold ml_M_120 ⟨Nat.le_of_ble_eq_true rfl, Nat.le_of_ble_eq_true rfl⟩ rfl hsr rfl (cat_8 cat_n (Nat.le_of_ble_eq_true rfl)) d_M_model_51 ⟨Nat.le_refl _, Nat.le_refl _⟩ rfl (fun v σ3 H locs hp hgn hw hS => ?_)
      have hg := hg.tr hgn
      have hsb := hgn _ _ hsb
      obtain ⟨r4, rfl, hB⟩ := hp
      refine W.eq (g2 := F0 m 54 ls [.int r4]) rfl ?_
      refine lv_if_eq (tgt := 72) hx hb d_M_model_54 (by decide) (fun cd => ?_) (fun cd => ?_)
      · have hB := hB.1 cd
        refine lv_iinc (v := x4 + nI 1) (lv' := [(4, .int (x4 + nI 1)), (0, va_rf (some b)), (1, .int x1), (3, .int x3)]) hx hb d_M_model_72 hl (k := 3) rfl rfl (by decide) rfl (fun ls hl => ?_)
        refine lv_goto (tgt := 33) hx hb d_M_model_75 (by decide) ?_
        rw [hK33] at hB
        exact hB _ _ _ hg hw hS (lv_sub hl [1, 2, 3, 0] rfl)
      · have hB := hB.2 cd
        refine lv_iload_n hx hb d_M_model_57 rfl (lv_at hl 2 rfl) ?_
        refine lv_if_ne (tgt := 69) hx hb d_M_model_58 (by decide) (fun cd => ?_) (fun cd => ?_)
        · have hB := hB.2 cd
          refine lv_iinc (v := x3 + (-1)) (lv' := [(3, .int (x3 + (-1))), (0, va_rf (some b)), (1, .int x1), (4, .int x4)]) hx hb d_M_model_69 hl (k := 2) rfl rfl (by decide) rfl (fun ls hl => ?_)
          refine lv_iinc (v := x4 + nI 1) (lv' := [(4, .int (x4 + nI 1)), (3, .int (x3 + (-1))), (0, va_rf (some b)), (1, .int x1)]) hx hb d_M_model_72 hl (k := 3) rfl rfl (by decide) rfl (fun ls hl => ?_)
          refine lv_goto (tgt := 33) hx hb d_M_model_75 (by decide) ?_
          rw [hK33] at hB
          exact hB _ _ _ hg hw hS (lv_sub hl [2, 3, 1, 0] rfl)
        · have hB := hB.1 cd
          refine zr_aload_n (o := some b) hx hb d_M_model_61 rfl (lv_at hl 0 rfl) ?_
          refine zr_get (v := va_rf (s_r σ3 b 6)) hx hb hC hw rfl hsb fl_M_22 rfl d_M_model_62 ?_
          refine lv_iload hx hb d_M_model_65 (lv_at hl 3 rfl) ?_
          obtain ⟨q5, n5, j6, ho, hs, hin, hj, hB⟩ := hB
          refine zr_iald hx hb hw ho hs hin hj d_M_model_67 ?_
          exact zr_iret hx hb hr hlocks hB hg hw hS d_M_model_68

set_option maxHeartbeats 4000000 in
set_option maxRecDepth 100000 in
theorem c_M_models (l : Launch) (D : va_G) (B : Nat) (b : Nat) (x1 : Int32) (x2 : Int32) (σ : St) (Q : Int32 → St → Prop) (h : P_M_models b x1 x2 σ Q) : zM l y_M_models b_M_models 5 (some (.int)) (rm_M_models) D B [.ref b, .int x1, .int x2] σ (zQi Q) := by
  refine zM.ofW (own := "LawWorldsModel") (by decide +kernel) rfl (Nat.le_of_ble_eq_true rfl) ?_
  intro p e s m args below meth c ls hx hb hml hr hlocks hname hC hwk hw hS hl
  obtain ⟨σ0, eσ⟩ : ∃ z, z = σ := ⟨_, rfl⟩
  have hg : gr σ0 σ := by rw [eσ]; exact gr.rf
  have hl : lv_has ls 5 [(0, va_rf (some b)), (1, .int x1), (2, .int x2)] := hl
  obtain ⟨hsb, hB⟩ := h
  have hsb0 : s_s σ0 b = some (.inl 9) := by rw [eσ]; exact hsb
  rw [← eσ]
  skip
  obtain ⟨K29, hK29⟩ : ∃ K : Int32 → Int32 → Int32 → Int32 → St → Prop, K = (fun (x1 : Int32) (x2 : Int32) (x3 : Int32) (x4 : Int32) (σ : St) => ∀ (H : Heap) (locs : List Loc) (ls : Array Slot), gr σ0 σ → wh D B σ s H → va_S (zA B) s.heap H locs → lv_has ls 5 [(0, va_rf (some b)), (1, .int x1), (2, .int x2), (3, .int x3), (4, .int x4)] → W p l e (rm_M_models) s m args below meth c H locs 0 0 (MQ below (zQ D B σ0 (zQi Q)) args s (rm_M_models).cells (rm_M_models).slots (zA B)) (F0 m 29 ls [])) := ⟨_, rfl⟩
  refine (fun hB => ?_) (hB K29 ?_)
  · skip
    refine lv_iload_n hx hb d_M_models_0 rfl (lv_at hl 1 rfl) ?_
    refine lv_i2l hx hb d_M_models_1 rfl ?_
    refine lv_lconst (v := lN 1) hx hb d_M_models_2 (by decide) ?_
    refine lv_ldc2 (v := lN 3) hx hb hC.1 (hC.2.1 _ kc_M_67) d_M_models_3 ?_
    refine zr_callS (As := [.long (x1.toInt64), .long (lN 1), .long (lN 3)]) (rest := []) hx hb hml hC hwk hw hS hl.1 (c_M_in l D B (x1.toInt64) (lN 1) (lN 3) σ _ hB) mk_M_in mt_M_in ml_M_69 ⟨Nat.le_of_ble_eq_true rfl, Nat.le_of_ble_eq_true rfl⟩ rfl (cat_8 cat_n (Nat.le_of_ble_eq_true rfl)) d_M_models_6 ⟨Nat.le_refl _, Nat.le_refl _⟩ rfl (fun v σ9 H locs hp hgn hw hS => ?_)
    have hg := hg.tr hgn
    have hsb := hgn _ _ hsb
    obtain ⟨r10, rfl, hB⟩ := hp
    refine W.eq (g2 := F0 m 9 ls [.int r10]) rfl ?_
    refine lv_if_ne (tgt := 15) hx hb d_M_models_9 (by decide) (fun cd => ?_) (fun cd => ?_)
    · have hB := hB.2 cd
      refine zr_aload_n (o := some b) hx hb d_M_models_15 rfl (lv_at hl 0 rfl) ?_
      have hsr := And.left hB
      refine zr_callV (ci := 9) (As := []) (rest := []) hx hb hml hC hwk hw hS hl.1 (c_M_learns l D B b σ9 _ hB) mk_M_learns mi_M_learns ms_M_learns ml_M_114 ⟨Nat.le_of_ble_eq_true rfl, Nat.le_of_ble_eq_true rfl⟩ rfl hsr rfl (cat_8 cat_n (Nat.le_of_ble_eq_true rfl)) d_M_models_16 ⟨Nat.le_refl _, Nat.le_refl _⟩ rfl (fun v σ11 H locs hp hgn hw hS => ?_)
      have hg := hg.tr hgn
      have hsb := hgn _ _ hsb
      obtain ⟨rfl, hB⟩ := hp
      refine W.eq (g2 := F0 m 19 ls []) rfl ?_
      refine lv_iconst (v := nI 0) hx hb d_M_models_19 (by decide) ?_
      refine lv_istore_n (lv' := [(3, .int (nI 0)), (0, va_rf (some b)), (1, .int x1), (2, .int x2)]) hx hb d_M_models_20 rfl hl (by decide) rfl (fun ls hl => ?_)
      refine zr_aload_n (o := some b) hx hb d_M_models_21 rfl (lv_at hl 1 rfl) ?_
      refine zr_get (v := va_rf (s_r σ11 b 7)) hx hb hC hw rfl hsb fl_M_25 rfl d_M_models_22 ?_
      refine lv_iload_n hx hb d_M_models_25 rfl (lv_at hl 2 rfl) ?_
      obtain ⟨q12, n12, j13, ho, hs, hin, hj, hB⟩ := hB
      refine zr_iald hx hb hw ho hs hin hj d_M_models_26 ?_
      refine lv_istore (lv' := [(4, .int (s_i σ11 q12 j13)), (3, .int (nI 0)), (0, va_rf (some b)), (1, .int x1), (2, .int x2)]) hx hb d_M_models_27 hl (by decide) rfl (fun ls hl => ?_)
      rw [hK29] at hB
      exact hB _ _ _ hg hw hS (lv_sub hl [2, 3, 4, 1, 0] rfl)
    · have hB := hB.1 cd
      refine lv_bipush (v := (-2)) hx hb d_M_models_12 (by decide) ?_
      exact zr_iret hx hb hr hlocks hB hg hw hS d_M_models_14
  · intro x1 x2 x3 x4 σ hB
    rw [hK29]
    intro H locs ls hg hw hS hl
    have hsb := hg _ _ hsb0
    refine lv_iload hx hb d_M_models_29 (lv_at hl 4 rfl) ?_
    refine zr_aload_n (o := some b) hx hb d_M_models_31 rfl (lv_at hl 0 rfl) ?_
    refine zr_get (v := va_rf (s_r σ b 7)) hx hb hC hw rfl hsb fl_M_25 rfl d_M_models_32 ?_
    refine lv_iload_n hx hb d_M_models_35 rfl (lv_at hl 1 rfl) ?_
    refine lv_iconst (v := nI 1) hx hb d_M_models_36 (by decide) ?_
    refine lv_iadd hx hb d_M_models_37 ?_
    obtain ⟨q1, n1, j2, ho, hs, hin, hj, hB⟩ := hB
    refine zr_iald hx hb hw ho hs hin hj d_M_models_38 ?_
    refine lv_icmp_ge (tgt := 86) hx hb d_M_models_39 (by decide) (fun cd => ?_) (fun cd => ?_)
    · have hB := hB.1 cd
      refine lv_iload_n hx hb d_M_models_86 rfl (lv_at hl 3 rfl) ?_
      exact zr_iret hx hb hr hlocks hB hg hw hS d_M_models_87
    · have hB := hB.2 cd
      refine lv_iload_n hx hb d_M_models_42 rfl (lv_at hl 3 rfl) ?_
      refine zr_aload_n (o := some b) hx hb d_M_models_43 rfl (lv_at hl 0 rfl) ?_
      refine lv_iload hx hb d_M_models_44 (lv_at hl 4 rfl) ?_
      refine lv_bipush (v := (-5)) hx hb d_M_models_46 (by decide) ?_
      have hsr := And.left hB
      refine zr_callV (ci := 9) (As := [.int x4, .int (-5)]) (rest := [.int x3]) hx hb hml hC hwk hw hS hl.1 (c_M_hold l D B b x4 (-5) σ _ hB) mk_M_hold mi_M_hold ms_M_hold ml_M_120 ⟨Nat.le_of_ble_eq_true rfl, Nat.le_of_ble_eq_true rfl⟩ rfl hsr rfl (cat_8 (cat_c rfl cat_n) (Nat.le_of_ble_eq_true rfl)) d_M_models_48 ⟨Nat.le_refl _, Nat.le_refl _⟩ rfl (fun v σ3 H locs hp hgn hw hS => ?_)
      have hg := hg.tr hgn
      have hsb := hgn _ _ hsb
      obtain ⟨r4, rfl, hB⟩ := hp
      refine W.eq (g2 := F0 m 51 ls [.int r4, .int x3]) rfl ?_
      refine lv_if_ne (tgt := 58) hx hb d_M_models_51 (by decide) (fun cd => ?_) (fun cd => ?_)
      · have hB := hB.2 cd
        refine lv_iload_n hx hb d_M_models_58 rfl (lv_at hl 2 rfl) ?_
        refine lv_if_eq (tgt := 77) hx hb d_M_models_59 (by decide) (fun cd => ?_) (fun cd => ?_)
        · have hB := hB.1 cd
          refine lv_iconst (v := nI 1) hx hb d_M_models_77 (by decide) ?_
          refine lv_iadd hx hb d_M_models_78 ?_
          refine lv_istore_n (lv' := [(3, .int (x3 + (nI 1))), (0, va_rf (some b)), (1, .int x1), (2, .int x2), (4, .int x4)]) hx hb d_M_models_79 rfl hl (by decide) rfl (fun ls hl => ?_)
          refine lv_iinc (v := x4 + nI 1) (lv' := [(4, .int (x4 + nI 1)), (3, .int (x3 + (nI 1))), (0, va_rf (some b)), (1, .int x1), (2, .int x2)]) hx hb d_M_models_80 hl (k := 4) rfl rfl (by decide) rfl (fun ls hl => ?_)
          refine lv_goto (tgt := 29) hx hb d_M_models_83 (by decide) ?_
          rw [hK29] at hB
          exact hB _ _ _ hg hw hS (lv_sub hl [2, 3, 4, 1, 0] rfl)
        · have hB := hB.2 cd
          refine zr_aload_n (o := some b) hx hb d_M_models_62 rfl (lv_at hl 0 rfl) ?_
          refine lv_iload_n hx hb d_M_models_63 rfl (lv_at hl 1 rfl) ?_
          refine zr_aload_n (o := some b) hx hb d_M_models_64 rfl (lv_at hl 0 rfl) ?_
          refine zr_get (v := va_rf (s_r σ3 b 6)) hx hb hC hw rfl hsb fl_M_22 rfl d_M_models_65 ?_
          refine lv_iload hx hb d_M_models_68 (lv_at hl 4 rfl) ?_
          obtain ⟨q5, n5, j6, ho, hs, hin, hj, hB⟩ := hB
          refine zr_iald hx hb hw ho hs hin hj d_M_models_70 ?_
          have hsr := And.left hB
          refine zr_callV (ci := 9) (As := [.int x1, .int (s_i σ3 q5 j6)]) (rest := [.int x3]) hx hb hml hC hwk hw hS hl.1 (c_M_alikeTo l D B b x1 (s_i σ3 q5 j6) σ3 _ hB) mk_M_alikeTo mi_M_alikeTo ms_M_alikeTo ml_M_201 ⟨Nat.le_of_ble_eq_true rfl, Nat.le_of_ble_eq_true rfl⟩ rfl hsr rfl (cat_8 (cat_c rfl cat_n) (Nat.le_of_ble_eq_true rfl)) d_M_models_71 ⟨Nat.le_refl _, Nat.le_refl _⟩ rfl (fun v σ7 H locs hp hgn hw hS => ?_)
          have hg := hg.tr hgn
          have hsb := hgn _ _ hsb
          obtain ⟨r8, rfl, hB⟩ := hp
          refine W.eq (g2 := F0 m 74 ls [.int r8, .int x3]) rfl ?_
          refine lv_goto (tgt := 78) hx hb d_M_models_74 (by decide) ?_
          refine lv_iadd hx hb d_M_models_78 ?_
          refine lv_istore_n (lv' := [(3, .int (x3 + r8)), (0, va_rf (some b)), (1, .int x1), (2, .int x2), (4, .int x4)]) hx hb d_M_models_79 rfl hl (by decide) rfl (fun ls hl => ?_)
          refine lv_iinc (v := x4 + nI 1) (lv' := [(4, .int (x4 + nI 1)), (3, .int (x3 + r8)), (0, va_rf (some b)), (1, .int x1), (2, .int x2)]) hx hb d_M_models_80 hl (k := 4) rfl rfl (by decide) rfl (fun ls hl => ?_)
          refine lv_goto (tgt := 29) hx hb d_M_models_83 (by decide) ?_
          rw [hK29] at hB
          exact hB _ _ _ hg hw hS (lv_sub hl [2, 3, 4, 1, 0] rfl)
      · have hB := hB.1 cd
        refine lv_iconst (v := nI 0) hx hb d_M_models_54 (by decide) ?_
        refine lv_goto (tgt := 78) hx hb d_M_models_55 (by decide) ?_
        refine lv_iadd hx hb d_M_models_78 ?_
        refine lv_istore_n (lv' := [(3, .int (x3 + (nI 0))), (0, va_rf (some b)), (1, .int x1), (2, .int x2), (4, .int x4)]) hx hb d_M_models_79 rfl hl (by decide) rfl (fun ls hl => ?_)
        refine lv_iinc (v := x4 + nI 1) (lv' := [(4, .int (x4 + nI 1)), (3, .int (x3 + (nI 0))), (0, va_rf (some b)), (1, .int x1), (2, .int x2)]) hx hb d_M_models_80 hl (k := 4) rfl rfl (by decide) rfl (fun ls hl => ?_)
        refine lv_goto (tgt := 29) hx hb d_M_models_83 (by decide) ?_
        rw [hK29] at hB
        exact hB _ _ _ hg hw hS (lv_sub hl [2, 3, 4, 1, 0] rfl)

set_option maxHeartbeats 4000000 in
set_option maxRecDepth 100000 in
theorem c_M_paired (l : Launch) (D : va_G) (B : Nat) (b : Nat) (x1 : Int32) (x2 : Int32) (x3 : Int32) (σ : St) (Q : Int32 → St → Prop) (h : P_M_paired b x1 x2 x3 σ Q) : zM l y_M_paired b_M_paired 6 (some (.int)) (rm_M_paired) D B [.ref b, .int x1, .int x2, .int x3] σ (zQi Q) := by
  refine zM.ofW (own := "LawWorldsModel") (by decide +kernel) rfl (Nat.le_of_ble_eq_true rfl) ?_
  intro p e s m args below meth c ls hx hb hml hr hlocks hname hC hwk hw hS hl
  obtain ⟨σ0, eσ⟩ : ∃ z, z = σ := ⟨_, rfl⟩
  have hg : gr σ0 σ := by rw [eσ]; exact gr.rf
  have hl : lv_has ls 6 [(0, va_rf (some b)), (1, .int x1), (2, .int x2), (3, .int x3)] := hl
  obtain ⟨hsb, hB⟩ := h
  have hsb0 : s_s σ0 b = some (.inl 9) := by rw [eσ]; exact hsb
  rw [← eσ]
  skip
  refine lv_iload_n hx hb d_M_paired_0 rfl (lv_at hl 1 rfl) ?_
  refine lv_iload_n hx hb d_M_paired_1 rfl (lv_at hl 2 rfl) ?_
  refine zr_callS (As := [.int x1, .int x2]) (rest := []) hx hb hml hC hwk hw hS hl.1 (c_M_isWorld l D B x1 x2 σ _ hB) mk_M_isWorld mt_M_isWorld ml_M_134 ⟨Nat.le_of_ble_eq_true rfl, Nat.le_of_ble_eq_true rfl⟩ rfl (cat_8 cat_n (Nat.le_of_ble_eq_true rfl)) d_M_paired_2 ⟨Nat.le_refl _, Nat.le_refl _⟩ rfl (fun v σ1 H locs hp hgn hw hS => ?_)
  have hg := hg.tr hgn
  have hsb := hgn _ _ hsb
  obtain ⟨r2, rfl, hB⟩ := hp
  refine W.eq (g2 := F0 m 5 ls [.int r2]) rfl ?_
  refine lv_if_ne (tgt := 11) hx hb d_M_paired_5 (by decide) (fun cd => ?_) (fun cd => ?_)
  · have hB := hB.2 cd
    refine zr_aload_n (o := some b) hx hb d_M_paired_11 rfl (lv_at hl 0 rfl) ?_
    refine lv_iload_n hx hb d_M_paired_12 rfl (lv_at hl 3 rfl) ?_
    have hsr := And.left hB
    refine zr_callV (ci := 9) (As := [.int x3]) (rest := []) hx hb hml hC hwk hw hS hl.1 (c_M_isLaw l D B b x3 σ1 _ hB) mk_M_isLaw mi_M_isLaw ms_M_isLaw ml_M_189 ⟨Nat.le_of_ble_eq_true rfl, Nat.le_of_ble_eq_true rfl⟩ rfl hsr rfl (cat_8 cat_n (Nat.le_of_ble_eq_true rfl)) d_M_paired_13 ⟨Nat.le_refl _, Nat.le_refl _⟩ rfl (fun v σ3 H locs hp hgn hw hS => ?_)
    have hg := hg.tr hgn
    have hsb := hgn _ _ hsb
    obtain ⟨r4, rfl, hB⟩ := hp
    refine W.eq (g2 := F0 m 16 ls [.int r4]) rfl ?_
    refine lv_if_ne (tgt := 21) hx hb d_M_paired_16 (by decide) (fun cd => ?_) (fun cd => ?_)
    · have hB := hB.2 cd
      refine zr_aload_n (o := some b) hx hb d_M_paired_21 rfl (lv_at hl 0 rfl) ?_
      refine zr_get (v := va_rf (s_r σ3 b 0)) hx hb hC hw rfl hsb fl_M_7 rfl d_M_paired_22 ?_
      refine lv_iconst (v := nI 0) hx hb d_M_paired_25 (by decide) ?_
      obtain ⟨q5, n5, j6, ho, hs, hin, hj, hB⟩ := hB
      refine zr_iald hx hb hw ho hs hin hj d_M_paired_26 ?_
      refine zr_aload_n (o := some b) hx hb d_M_paired_27 rfl (lv_at hl 0 rfl) ?_
      refine zr_get (v := va_rf (s_r σ3 b 0)) hx hb hC hw rfl hsb fl_M_7 rfl d_M_paired_28 ?_
      refine lv_iconst (v := nI 0) hx hb d_M_paired_31 (by decide) ?_
      obtain ⟨q7, n7, j8, ho, hs, hin, hj, hB⟩ := hB
      refine zr_iald hx hb hw ho hs hin hj d_M_paired_32 ?_
      refine lv_imul hx hb d_M_paired_33 ?_
      refine zr_aload_n (o := some b) hx hb d_M_paired_34 rfl (lv_at hl 0 rfl) ?_
      refine zr_get (v := va_rf (s_r σ3 b 0)) hx hb hC hw rfl hsb fl_M_7 rfl d_M_paired_35 ?_
      refine lv_iconst (v := nI 0) hx hb d_M_paired_38 (by decide) ?_
      obtain ⟨q9, n9, j10, ho, hs, hin, hj, hB⟩ := hB
      refine zr_iald hx hb hw ho hs hin hj d_M_paired_39 ?_
      refine lv_imul hx hb d_M_paired_40 ?_
      refine lv_istore (lv' := [(4, .int (((s_i σ3 q5 j6) * (s_i σ3 q7 j8)) * (s_i σ3 q9 j10))), (0, va_rf (some b)), (1, .int x1), (2, .int x2), (3, .int x3)]) hx hb d_M_paired_41 hl (by decide) rfl (fun ls hl => ?_)
      refine lv_iload_n hx hb d_M_paired_43 rfl (lv_at hl 2 rfl) ?_
      refine lv_iload_n hx hb d_M_paired_44 rfl (lv_at hl 2 rfl) ?_
      refine lv_imul hx hb d_M_paired_45 ?_
      refine lv_iload_n hx hb d_M_paired_46 rfl (lv_at hl 2 rfl) ?_
      refine lv_imul hx hb d_M_paired_47 ?_
      refine lv_istore (lv' := [(5, .int ((x1 * x1) * x1)), (4, .int (((s_i σ3 q5 j6) * (s_i σ3 q7 j8)) * (s_i σ3 q9 j10))), (0, va_rf (some b)), (1, .int x1), (2, .int x2), (3, .int x3)]) hx hb d_M_paired_48 hl (by decide) rfl (fun ls hl => ?_)
      refine lv_iload hx hb d_M_paired_50 (lv_at hl 1 rfl) ?_
      refine lv_iload hx hb d_M_paired_52 (lv_at hl 0 rfl) ?_
      refine lv_imul hx hb d_M_paired_54 ?_
      refine lv_iload hx hb d_M_paired_55 (lv_at hl 1 rfl) ?_
      refine zr_aload_n (o := some b) hx hb d_M_paired_57 rfl (lv_at hl 2 rfl) ?_
      refine lv_iload_n hx hb d_M_paired_58 rfl (lv_at hl 5 rfl) ?_
      have hsr := And.left hB
      refine zr_callV (ci := 9) (As := [.int x3]) (rest := [.int (((s_i σ3 q5 j6) * (s_i σ3 q7 j8)) * (s_i σ3 q9 j10)), .int ((((s_i σ3 q5 j6) * (s_i σ3 q7 j8)) * (s_i σ3 q9 j10)) * ((x1 * x1) * x1))]) hx hb hml hC hwk hw hS hl.1 (c_M_brokenNow l D B b x3 σ3 _ hB) mk_M_brokenNow mi_M_brokenNow ms_M_brokenNow ml_M_198 ⟨Nat.le_of_ble_eq_true rfl, Nat.le_of_ble_eq_true rfl⟩ rfl hsr rfl (cat_8 (cat_c rfl (cat_c rfl cat_n)) (Nat.le_of_ble_eq_true rfl)) d_M_paired_59 ⟨Nat.le_refl _, Nat.le_refl _⟩ rfl (fun v σ11 H locs hp hgn hw hS => ?_)
      have hg := hg.tr hgn
      have hsb := hgn _ _ hsb
      obtain ⟨r12, rfl, hB⟩ := hp
      refine W.eq (g2 := F0 m 62 ls [.int r12, .int (((s_i σ3 q5 j6) * (s_i σ3 q7 j8)) * (s_i σ3 q9 j10)), .int ((((s_i σ3 q5 j6) * (s_i σ3 q7 j8)) * (s_i σ3 q9 j10)) * ((x1 * x1) * x1))]) rfl ?_
      refine lv_isub hx hb d_M_paired_62 ?_
      refine lv_iload hx hb d_M_paired_63 (lv_at hl 0 rfl) ?_
      refine zr_aload_n (o := some b) hx hb d_M_paired_65 rfl (lv_at hl 2 rfl) ?_
      refine lv_iload_n hx hb d_M_paired_66 rfl (lv_at hl 3 rfl) ?_
      refine lv_iload_n hx hb d_M_paired_67 rfl (lv_at hl 4 rfl) ?_
      refine lv_iload_n hx hb d_M_paired_68 rfl (lv_at hl 5 rfl) ?_
      have hsr := And.left hB
      refine zr_callV (ci := 9) (As := [.int x1, .int x2, .int x3]) (rest := [.int ((x1 * x1) * x1), .int ((((s_i σ3 q5 j6) * (s_i σ3 q7 j8)) * (s_i σ3 q9 j10)) - r12), .int ((((s_i σ3 q5 j6) * (s_i σ3 q7 j8)) * (s_i σ3 q9 j10)) * ((x1 * x1) * x1))]) hx hb hml hC hwk hw hS hl.1 (c_M_brokenIn l D B b x1 x2 x3 σ11 _ hB) mk_M_brokenIn mi_M_brokenIn ms_M_brokenIn ml_M_97 ⟨Nat.le_of_ble_eq_true rfl, Nat.le_of_ble_eq_true rfl⟩ rfl hsr rfl (cat_8 (cat_c rfl (cat_c rfl (cat_c rfl cat_n))) (Nat.le_of_ble_eq_true rfl)) d_M_paired_69 ⟨Nat.le_refl _, Nat.le_refl _⟩ rfl (fun v σ13 H locs hp hgn hw hS => ?_)
      have hg := hg.tr hgn
      have hsb := hgn _ _ hsb
      obtain ⟨r14, rfl, hB⟩ := hp
      refine W.eq (g2 := F0 m 72 ls [.int r14, .int ((x1 * x1) * x1), .int ((((s_i σ3 q5 j6) * (s_i σ3 q7 j8)) * (s_i σ3 q9 j10)) - r12), .int ((((s_i σ3 q5 j6) * (s_i σ3 q7 j8)) * (s_i σ3 q9 j10)) * ((x1 * x1) * x1))]) rfl ?_
      refine lv_isub hx hb d_M_paired_72 ?_
      refine lv_imul hx hb d_M_paired_73 ?_
      refine lv_isub hx hb d_M_paired_74 ?_
      exact zr_iret hx hb hr hlocks hB hg hw hS d_M_paired_75
    · have hB := hB.1 cd
      refine lv_iconst (v := (-1)) hx hb d_M_paired_19 (by decide) ?_
      exact zr_iret hx hb hr hlocks hB hg hw hS d_M_paired_20
  · have hB := hB.1 cd
    refine lv_bipush (v := (-2)) hx hb d_M_paired_8 (by decide) ?_
    exact zr_iret hx hb hr hlocks hB hg hw hS d_M_paired_10

set_option maxHeartbeats 4000000 in
set_option maxRecDepth 100000 in
theorem c_M_alike (l : Launch) (D : va_G) (B : Nat) (b : Nat) (x1 : Int32) (x2 : Int32) (x3 : Int32) (σ : St) (Q : Int32 → St → Prop) (h : P_M_alike b x1 x2 x3 σ Q) : zM l y_M_alike b_M_alike 4 (some (.int)) (rm_M_alike) D B [.ref b, .int x1, .int x2, .int x3] σ (zQi Q) := by
  refine zM.ofW (own := "LawWorldsModel") (by decide +kernel) rfl (Nat.le_of_ble_eq_true rfl) ?_
  intro p e s m args below meth c ls hx hb hml hr hlocks hname hC hwk hw hS hl
  obtain ⟨σ0, eσ⟩ : ∃ z, z = σ := ⟨_, rfl⟩
  have hg : gr σ0 σ := by rw [eσ]; exact gr.rf
  have hl : lv_has ls 4 [(0, va_rf (some b)), (1, .int x1), (2, .int x2), (3, .int x3)] := hl
  obtain ⟨hsb, hB⟩ := h
  have hsb0 : s_s σ0 b = some (.inl 9) := by rw [eσ]; exact hsb
  rw [← eσ]
  skip
  refine lv_iload_n hx hb d_M_alike_0 rfl (lv_at hl 1 rfl) ?_
  refine lv_iload_n hx hb d_M_alike_1 rfl (lv_at hl 2 rfl) ?_
  refine zr_callS (As := [.int x1, .int x2]) (rest := []) hx hb hml hC hwk hw hS hl.1 (c_M_isWorld l D B x1 x2 σ _ hB) mk_M_isWorld mt_M_isWorld ml_M_134 ⟨Nat.le_of_ble_eq_true rfl, Nat.le_of_ble_eq_true rfl⟩ rfl (cat_8 cat_n (Nat.le_of_ble_eq_true rfl)) d_M_alike_2 ⟨Nat.le_refl _, Nat.le_refl _⟩ rfl (fun v σ1 H locs hp hgn hw hS => ?_)
  have hg := hg.tr hgn
  have hsb := hgn _ _ hsb
  obtain ⟨r2, rfl, hB⟩ := hp
  refine W.eq (g2 := F0 m 5 ls [.int r2]) rfl ?_
  refine lv_if_eq (tgt := 16) hx hb d_M_alike_5 (by decide) (fun cd => ?_) (fun cd => ?_)
  · have hB := hB.1 cd
    refine lv_bipush (v := (-2)) hx hb d_M_alike_16 (by decide) ?_
    exact zr_iret hx hb hr hlocks hB hg hw hS d_M_alike_18
  · have hB := hB.2 cd
    refine lv_iload_n hx hb d_M_alike_8 rfl (lv_at hl 1 rfl) ?_
    refine lv_iload_n hx hb d_M_alike_9 rfl (lv_at hl 3 rfl) ?_
    refine zr_callS (As := [.int x1, .int x3]) (rest := []) hx hb hml hC hwk hw hS hl.1 (c_M_isWorld l D B x1 x3 σ1 _ hB) mk_M_isWorld mt_M_isWorld ml_M_134 ⟨Nat.le_of_ble_eq_true rfl, Nat.le_of_ble_eq_true rfl⟩ rfl (cat_8 cat_n (Nat.le_of_ble_eq_true rfl)) d_M_alike_10 ⟨Nat.le_refl _, Nat.le_refl _⟩ rfl (fun v σ3 H locs hp hgn hw hS => ?_)
    have hg := hg.tr hgn
    have hsb := hgn _ _ hsb
    obtain ⟨r4, rfl, hB⟩ := hp
    refine W.eq (g2 := F0 m 13 ls [.int r4]) rfl ?_
    refine lv_if_ne (tgt := 19) hx hb d_M_alike_13 (by decide) (fun cd => ?_) (fun cd => ?_)
    · have hB := hB.2 cd
      refine zr_aload_n (o := some b) hx hb d_M_alike_19 rfl (lv_at hl 0 rfl) ?_
      refine lv_iload_n hx hb d_M_alike_20 rfl (lv_at hl 1 rfl) ?_
      refine lv_iload_n hx hb d_M_alike_21 rfl (lv_at hl 2 rfl) ?_
      have hsr := And.left hB
      refine zr_callV (ci := 9) (As := [.int x1, .int x2]) (rest := []) hx hb hml hC hwk hw hS hl.1 (c_M_plainOf l D B b x1 x2 σ3 _ hB) mk_M_plainOf mi_M_plainOf ms_M_plainOf ml_M_56 ⟨Nat.le_of_ble_eq_true rfl, Nat.le_of_ble_eq_true rfl⟩ rfl hsr rfl (cat_8 cat_n (Nat.le_of_ble_eq_true rfl)) d_M_alike_22 ⟨Nat.le_refl _, Nat.le_refl _⟩ rfl (fun v σ5 H locs hp hgn hw hS => ?_)
      have hg := hg.tr hgn
      have hsb := hgn _ _ hsb
      obtain ⟨r6, rfl, hB⟩ := hp
      refine W.eq (g2 := F0 m 25 ls [.int r6]) rfl ?_
      refine zr_aload_n (o := some b) hx hb d_M_alike_25 rfl (lv_at hl 0 rfl) ?_
      refine lv_iload_n hx hb d_M_alike_26 rfl (lv_at hl 1 rfl) ?_
      refine lv_iload_n hx hb d_M_alike_27 rfl (lv_at hl 3 rfl) ?_
      have hsr := And.left hB
      refine zr_callV (ci := 9) (As := [.int x1, .int x3]) (rest := [.int r6]) hx hb hml hC hwk hw hS hl.1 (c_M_plainOf l D B b x1 x3 σ5 _ hB) mk_M_plainOf mi_M_plainOf ms_M_plainOf ml_M_56 ⟨Nat.le_of_ble_eq_true rfl, Nat.le_of_ble_eq_true rfl⟩ rfl hsr rfl (cat_8 (cat_c rfl cat_n) (Nat.le_of_ble_eq_true rfl)) d_M_alike_28 ⟨Nat.le_refl _, Nat.le_refl _⟩ rfl (fun v σ7 H locs hp hgn hw hS => ?_)
      have hg := hg.tr hgn
      have hsb := hgn _ _ hsb
      obtain ⟨r8, rfl, hB⟩ := hp
      refine W.eq (g2 := F0 m 31 ls [.int r8, .int r6]) rfl ?_
      refine lv_icmp_ne (tgt := 38) hx hb d_M_alike_31 (by decide) (fun cd => ?_) (fun cd => ?_)
      · have hB := hB.2 cd
        refine lv_iconst (v := nI 0) hx hb d_M_alike_38 (by decide) ?_
        exact zr_iret hx hb hr hlocks hB hg hw hS d_M_alike_39
      · have hB := hB.1 cd
        refine lv_iconst (v := nI 1) hx hb d_M_alike_34 (by decide) ?_
        refine lv_goto (tgt := 39) hx hb d_M_alike_35 (by decide) ?_
        exact zr_iret hx hb hr hlocks hB hg hw hS d_M_alike_39
    · have hB := hB.1 cd
      refine lv_bipush (v := (-2)) hx hb d_M_alike_16 (by decide) ?_
      exact zr_iret hx hb hr hlocks hB hg hw hS d_M_alike_18

set_option maxHeartbeats 4000000 in
set_option maxRecDepth 100000 in
theorem c_M_lawsThatFollow (l : Launch) (D : va_G) (B : Nat) (b : Nat) (σ : St) (Q : Int32 → St → Prop) (h : P_M_lawsThatFollow b σ Q) : zM l y_M_lawsThatFollow b_M_lawsThatFollow 3 (some (.int)) (rm_M_lawsThatFollow) D B [.ref b] σ (zQi Q) := by
  refine zM.ofW (own := "LawWorldsModel") (by decide +kernel) rfl (Nat.le_of_ble_eq_true rfl) ?_
  intro p e s m args below meth c ls hx hb hml hr hlocks hname hC hwk hw hS hl
  obtain ⟨σ0, eσ⟩ : ∃ z, z = σ := ⟨_, rfl⟩
  have hg : gr σ0 σ := by rw [eσ]; exact gr.rf
  have hl : lv_has ls 3 [(0, va_rf (some b))] := hl
  obtain ⟨hsb, hB⟩ := h
  have hsb0 : s_s σ0 b = some (.inl 9) := by rw [eσ]; exact hsb
  rw [← eσ]
  skip
  obtain ⟨K4, hK4⟩ : ∃ K : Int32 → Int32 → St → Prop, K = (fun (x1 : Int32) (x2 : Int32) (σ : St) => ∀ (H : Heap) (locs : List Loc) (ls : Array Slot), gr σ0 σ → wh D B σ s H → va_S (zA B) s.heap H locs → lv_has ls 3 [(0, va_rf (some b)), (1, .int x1), (2, .int x2)] → W p l e (rm_M_lawsThatFollow) s m args below meth c H locs 0 0 (MQ below (zQ D B σ0 (zQi Q)) args s (rm_M_lawsThatFollow).cells (rm_M_lawsThatFollow).slots (zA B)) (F0 m 4 ls [])) := ⟨_, rfl⟩
  refine (fun hB => ?_) (hB K4 ?_)
  · skip
    refine lv_iconst (v := nI 0) hx hb d_M_lawsThatFollow_0 (by decide) ?_
    refine lv_istore_n (lv' := [(1, .int (nI 0)), (0, va_rf (some b))]) hx hb d_M_lawsThatFollow_1 rfl hl (by decide) rfl (fun ls hl => ?_)
    refine lv_iconst (v := nI 0) hx hb d_M_lawsThatFollow_2 (by decide) ?_
    refine lv_istore_n (lv' := [(2, .int (nI 0)), (1, .int (nI 0)), (0, va_rf (some b))]) hx hb d_M_lawsThatFollow_3 rfl hl (by decide) rfl (fun ls hl => ?_)
    rw [hK4] at hB
    exact hB _ _ _ hg hw hS (lv_sub hl [2, 1, 0] rfl)
  · intro x1 x2 σ hB
    rw [hK4]
    intro H locs ls hg hw hS hl
    have hsb := hg _ _ hsb0
    refine lv_iload_n hx hb d_M_lawsThatFollow_4 rfl (lv_at hl 2 rfl) ?_
    refine zr_aload_n (o := some b) hx hb d_M_lawsThatFollow_5 rfl (lv_at hl 0 rfl) ?_
    refine zr_get (v := va_rf (s_r σ b 0)) hx hb hC hw rfl hsb fl_M_7 rfl d_M_lawsThatFollow_6 ?_
    refine lv_iconst (v := nI 2) hx hb d_M_lawsThatFollow_9 (by decide) ?_
    obtain ⟨q1, n1, j2, ho, hs, hin, hj, hB⟩ := hB
    refine zr_iald hx hb hw ho hs hin hj d_M_lawsThatFollow_10 ?_
    refine lv_icmp_ge (tgt := 36) hx hb d_M_lawsThatFollow_11 (by decide) (fun cd => ?_) (fun cd => ?_)
    · have hB := hB.1 cd
      refine lv_iload_n hx hb d_M_lawsThatFollow_36 rfl (lv_at hl 1 rfl) ?_
      exact zr_iret hx hb hr hlocks hB hg hw hS d_M_lawsThatFollow_37
    · have hB := hB.2 cd
      refine lv_iload_n hx hb d_M_lawsThatFollow_14 rfl (lv_at hl 1 rfl) ?_
      refine zr_aload_n (o := some b) hx hb d_M_lawsThatFollow_15 rfl (lv_at hl 0 rfl) ?_
      refine lv_iload_n hx hb d_M_lawsThatFollow_16 rfl (lv_at hl 2 rfl) ?_
      have hsr := And.left hB
      refine zr_callV (ci := 9) (As := [.int x2]) (rest := [.int x1]) hx hb hml hC hwk hw hS hl.1 (c_M_follows l D B b x2 σ _ hB) mk_M_follows mi_M_follows ms_M_follows ml_M_215 ⟨Nat.le_of_ble_eq_true rfl, Nat.le_of_ble_eq_true rfl⟩ rfl hsr rfl (cat_8 (cat_c rfl cat_n) (Nat.le_of_ble_eq_true rfl)) d_M_lawsThatFollow_17 ⟨Nat.le_refl _, Nat.le_refl _⟩ rfl (fun v σ3 H locs hp hgn hw hS => ?_)
      have hg := hg.tr hgn
      have hsb := hgn _ _ hsb
      obtain ⟨r4, rfl, hB⟩ := hp
      refine W.eq (g2 := F0 m 20 ls [.int r4, .int x1]) rfl ?_
      refine lv_if_eq (tgt := 27) hx hb d_M_lawsThatFollow_20 (by decide) (fun cd => ?_) (fun cd => ?_)
      · have hB := hB.1 cd
        refine lv_iconst (v := nI 0) hx hb d_M_lawsThatFollow_27 (by decide) ?_
        refine lv_iadd hx hb d_M_lawsThatFollow_28 ?_
        refine lv_istore_n (lv' := [(1, .int (x1 + (nI 0))), (0, va_rf (some b)), (2, .int x2)]) hx hb d_M_lawsThatFollow_29 rfl hl (by decide) rfl (fun ls hl => ?_)
        refine lv_iinc (v := x2 + nI 1) (lv' := [(2, .int (x2 + nI 1)), (1, .int (x1 + (nI 0))), (0, va_rf (some b))]) hx hb d_M_lawsThatFollow_30 hl (k := 2) rfl rfl (by decide) rfl (fun ls hl => ?_)
        refine lv_goto (tgt := 4) hx hb d_M_lawsThatFollow_33 (by decide) ?_
        rw [hK4] at hB
        exact hB _ _ _ hg hw hS (lv_sub hl [2, 1, 0] rfl)
      · have hB := hB.2 cd
        refine lv_iconst (v := nI 1) hx hb d_M_lawsThatFollow_23 (by decide) ?_
        refine lv_goto (tgt := 28) hx hb d_M_lawsThatFollow_24 (by decide) ?_
        refine lv_iadd hx hb d_M_lawsThatFollow_28 ?_
        refine lv_istore_n (lv' := [(1, .int (x1 + (nI 1))), (0, va_rf (some b)), (2, .int x2)]) hx hb d_M_lawsThatFollow_29 rfl hl (by decide) rfl (fun ls hl => ?_)
        refine lv_iinc (v := x2 + nI 1) (lv' := [(2, .int (x2 + nI 1)), (1, .int (x1 + (nI 1))), (0, va_rf (some b))]) hx hb d_M_lawsThatFollow_30 hl (k := 2) rfl rfl (by decide) rfl (fun ls hl => ?_)
        refine lv_goto (tgt := 4) hx hb d_M_lawsThatFollow_33 (by decide) ?_
        rw [hK4] at hB
        exact hB _ _ _ hg hw hS (lv_sub hl [2, 1, 0] rfl)

set_option maxHeartbeats 4000000 in
set_option maxRecDepth 100000 in
theorem c_M_count (l : Launch) (D : va_G) (B : Nat) (b : Nat) (x1 : Int32) (σ : St) (Q : Int32 → St → Prop) (h : P_M_count b x1 σ Q) : zM l y_M_count b_M_count 2 (some (.int)) (rm_M_count) D B [.ref b, .int x1] σ (zQi Q) := by
  refine zM.ofW (own := "LawWorldsModel") (by decide +kernel) rfl (Nat.le_of_ble_eq_true rfl) ?_
  intro p e s m args below meth c ls hx hb hml hr hlocks hname hC hwk hw hS hl
  obtain ⟨σ0, eσ⟩ : ∃ z, z = σ := ⟨_, rfl⟩
  have hg : gr σ0 σ := by rw [eσ]; exact gr.rf
  have hl : lv_has ls 2 [(0, va_rf (some b)), (1, .int x1)] := hl
  obtain ⟨hsb, hB⟩ := h
  have hsb0 : s_s σ0 b = some (.inl 9) := by rw [eσ]; exact hsb
  rw [← eσ]
  skip
  refine lv_iload_n hx hb d_M_count_0 rfl (lv_at hl 1 rfl) ?_
  by_cases c0 : x1 = nI 0
  · have hB := hB.1 c0
    refine lv_tableIn (tgt := 40) (off := 39) hx hb d_M_count_1 (by rw [c0]; decide) (by rw [c0]; decide) (by rw [c0]; decide) (by decide) ?_
    refine zr_aload_n (o := some b) hx hb d_M_count_40 rfl (lv_at hl 0 rfl) ?_
    refine zr_get (v := va_rf (s_r σ b 0)) hx hb hC hw rfl hsb fl_M_7 rfl d_M_count_41 ?_
    refine lv_iconst (v := nI 2) hx hb d_M_count_44 (by decide) ?_
    obtain ⟨q1, n1, j2, ho, hs, hin, hj, hB⟩ := hB
    refine zr_iald hx hb hw ho hs hin hj d_M_count_45 ?_
    exact zr_iret hx hb hr hlocks hB hg hw hS d_M_count_46
  · have hB := hB.2 c0
    by_cases c1 : x1 = nI 1
    · have hB := hB.1 c1
      refine lv_tableIn (tgt := 47) (off := 46) hx hb d_M_count_1 (by rw [c1]; decide) (by rw [c1]; decide) (by rw [c1]; decide) (by decide) ?_
      refine zr_aload_n (o := some b) hx hb d_M_count_47 rfl (lv_at hl 0 rfl) ?_
      have hsr := And.left hB
      refine zr_callV (ci := 9) (As := []) (rest := []) hx hb hml hC hwk hw hS hl.1 (c_M_lawsOn l D B b σ _ hB) mk_M_lawsOn mi_M_lawsOn ms_M_lawsOn ml_M_192 ⟨Nat.le_of_ble_eq_true rfl, Nat.le_of_ble_eq_true rfl⟩ rfl hsr rfl (cat_8 cat_n (Nat.le_of_ble_eq_true rfl)) d_M_count_48 ⟨Nat.le_refl _, Nat.le_refl _⟩ rfl (fun v σ3 H locs hp hgn hw hS => ?_)
      have hg := hg.tr hgn
      have hsb := hgn _ _ hsb
      obtain ⟨r4, rfl, hB⟩ := hp
      refine W.eq (g2 := F0 m 51 ls [.int r4]) rfl ?_
      exact zr_iret hx hb hr hlocks hB hg hw hS d_M_count_51
    · have hB := hB.2 c1
      by_cases c2 : x1 = nI 2
      · have hB := hB.1 c2
        refine lv_tableIn (tgt := 52) (off := 51) hx hb d_M_count_1 (by rw [c2]; decide) (by rw [c2]; decide) (by rw [c2]; decide) (by decide) ?_
        refine zr_aload_n (o := some b) hx hb d_M_count_52 rfl (lv_at hl 0 rfl) ?_
        refine lv_iconst (v := nI 0) hx hb d_M_count_53 (by decide) ?_
        have hsr := And.left hB
        refine zr_callV (ci := 9) (As := [.int (nI 0)]) (rest := []) hx hb hml hC hwk hw hS hl.1 (c_M_lawsThatHold l D B b (nI 0) σ _ hB) mk_M_lawsThatHold mi_M_lawsThatHold ms_M_lawsThatHold ml_M_207 ⟨Nat.le_of_ble_eq_true rfl, Nat.le_of_ble_eq_true rfl⟩ rfl hsr rfl (cat_8 cat_n (Nat.le_of_ble_eq_true rfl)) d_M_count_54 ⟨Nat.le_refl _, Nat.le_refl _⟩ rfl (fun v σ5 H locs hp hgn hw hS => ?_)
        have hg := hg.tr hgn
        have hsb := hgn _ _ hsb
        obtain ⟨r6, rfl, hB⟩ := hp
        refine W.eq (g2 := F0 m 57 ls [.int r6]) rfl ?_
        exact zr_iret hx hb hr hlocks hB hg hw hS d_M_count_57
      · have hB := hB.2 c2
        by_cases c3 : x1 = nI 3
        · have hB := hB.1 c3
          refine lv_tableIn (tgt := 58) (off := 57) hx hb d_M_count_1 (by rw [c3]; decide) (by rw [c3]; decide) (by rw [c3]; decide) (by decide) ?_
          refine zr_aload_n (o := some b) hx hb d_M_count_58 rfl (lv_at hl 0 rfl) ?_
          have hsr := And.left hB
          refine zr_callV (ci := 9) (As := []) (rest := []) hx hb hml hC hwk hw hS hl.1 (c_M_lawsThatFollow l D B b σ _ hB) mk_M_lawsThatFollow mi_M_lawsThatFollow ms_M_lawsThatFollow ml_M_226 ⟨Nat.le_of_ble_eq_true rfl, Nat.le_of_ble_eq_true rfl⟩ rfl hsr rfl (cat_8 cat_n (Nat.le_of_ble_eq_true rfl)) d_M_count_59 ⟨Nat.le_refl _, Nat.le_refl _⟩ rfl (fun v σ7 H locs hp hgn hw hS => ?_)
          have hg := hg.tr hgn
          have hsb := hgn _ _ hsb
          obtain ⟨r8, rfl, hB⟩ := hp
          refine W.eq (g2 := F0 m 62 ls [.int r8]) rfl ?_
          exact zr_iret hx hb hr hlocks hB hg hw hS d_M_count_62
        · have hB := hB.2 c3
          by_cases c4 : x1 = nI 4
          · have hB := hB.1 c4
            refine lv_tableIn (tgt := 63) (off := 62) hx hb d_M_count_1 (by rw [c4]; decide) (by rw [c4]; decide) (by rw [c4]; decide) (by decide) ?_
            refine zr_aload_n (o := some b) hx hb d_M_count_63 rfl (lv_at hl 0 rfl) ?_
            refine zr_get (v := .int (s_i σ b 3)) hx hb hC hw rfl hsb fl_M_60 rfl d_M_count_64 ?_
            exact zr_iret hx hb hr hlocks hB hg hw hS d_M_count_67
          · have hB := hB.2 c4
            by_cases c5 : x1 = nI 5
            · have hB := hB.1 c5
              refine lv_tableIn (tgt := 68) (off := 67) hx hb d_M_count_1 (by rw [c5]; decide) (by rw [c5]; decide) (by rw [c5]; decide) (by decide) ?_
              refine zr_aload_n (o := some b) hx hb d_M_count_68 rfl (lv_at hl 0 rfl) ?_
              refine zr_get (v := .int (s_i σ b 16)) hx hb hC hw rfl hsb fl_M_150 rfl d_M_count_69 ?_
              exact zr_iret hx hb hr hlocks hB hg hw hS d_M_count_72
            · have hB := hB.2 c5
              refine lv_tableOut (tgt := 73) hx hb d_M_count_1 (sw_out (n := 6) (by decide) (fun k hk => ?_)) (by decide) ?_
              · match k, hk with
                | 0, _ => exact c0
                | 1, _ => exact c1
                | 2, _ => exact c2
                | 3, _ => exact c3
                | 4, _ => exact c4
                | 5, _ => exact c5
                | k + 6, h => exact absurd h (by omega)
              · skip
                refine lv_bipush (v := (-2)) hx hb d_M_count_73 (by decide) ?_
                exact zr_iret hx hb hr hlocks hB hg hw hS d_M_count_75
