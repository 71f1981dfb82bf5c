set_option maxHeartbeats 4000000 in
set_option maxRecDepth 100000 in
theorem c_H_init (l : Launch) (D : va_G) (B : Nat) (b : Nat) (σ : St) (mc : Nat) (ms : Nat) (Q : St → Prop) (h : P_H_init b σ mc ms Q) : zM l y_H_init b_H_init 1 none (rm_H_init mc ms) D B [.ref b] σ (zQv Q) := by
  refine zM.ofW (own := "LawWorlds$History") (by decide +kernel) rfl (Nat.le_of_ble_eq_true rfl) ?_
  intro p e s m args below meth c ls hx hb hml hr hlocks hname hC hwk hw hS hl
  obtain ⟨σ0, eσ⟩ : ∃ z, z = σ := ⟨_, rfl⟩
  have hg : gr σ0 σ := by rw [eσ]; exact gr.rf
  have hl : lv_has ls 1 [(0, va_rf (some b))] := hl
  have ha1 : 0 ≤ mc := Nat.zero_le _
  have ha2 : 0 ≤ ms := Nat.zero_le _
  obtain ⟨hsb, hB⟩ := h
  have hsb0 : s_s σ0 b = some (.inl 2) := by rw [eσ]; exact hsb
  rw [← eσ]
  skip
  refine zr_aload_n (o := some b) hx hb d_H_init_0 rfl (lv_at hl 0 rfl) ?_
  refine W.objInit hx hb hC.1 (hC.2.1 _ ml_H_3) (hC.2.1 _ k_oi) (hC.2.1 _ k_oc) rfl (by rw [hml]; exact hl.1) rfl d_H_init_1 (Nat.le_of_ble_eq_true rfl) (Nat.le_of_ble_eq_true rfl) ?_
  refine W.eq (g2 := F0 m 4 ls []) rfl ?_
  refine zr_aload_n (o := some b) hx hb d_H_init_4 rfl (lv_at hl 0 rfl) ?_
  refine lv_iconst (v := nI 4) hx hb d_H_init_5 (by decide) ?_
  obtain ⟨hc1, hc2, hB⟩ := hB
  obtain ⟨q1, eqq1⟩ : ∃ z, z = s_n σ := ⟨_, rfl⟩
  obtain ⟨σ2, eσ2⟩ : ∃ z, z = w_new σ (.inr (6, 4)) := ⟨_, rfl⟩
  have hB := hB q1 σ2 eqq1 eσ2
  have hgn := hw.gnew (.inr (6, 4))
  refine zr_newq (t := 6) (N := 4) hx hb hC hwk.1 hw hS kl_H_9 hwk.2.2.2.2.1 rfl rfl (Nat.le_of_ble_eq_true rfl) hc1 hc2 d_H_init_6 (fun H hw hS => ?_)
  rw [← eσ2] at hw hgn
  rw [← eqq1]
  have hg := hg.tr hgn
  have hsb := hgn _ _ hsb
  have ha1 := hc1
  have ha2 := hc2
  refine lv_dup hx hb d_H_init_9 (va_rf_cat _) ?_
  refine lv_iconst (v := nI 0) hx hb d_H_init_10 (by decide) ?_
  obtain ⟨hc1, hc2, hB⟩ := hB
  obtain ⟨q3, eqq3⟩ : ∃ z, z = s_n σ2 := ⟨_, rfl⟩
  obtain ⟨σ4, eσ4⟩ : ∃ z, z = w_new σ2 (.inl 1) := ⟨_, rfl⟩
  have hB := hB q3 σ4 eqq3 eσ4
  have hgn := hw.gnew (.inl 1)
  refine zr_new (ci := 1) hx hb hC hwk.1 hw hS (by decide) kl_H_9 in_S mk_S_init.2.1 hc1 hc2 d_H_init_11 (fun H hw hS => ?_)
  rw [← eσ4] at hw hgn
  rw [← eqq3]
  have hg := hg.tr hgn
  have hsb := hgn _ _ hsb
  have ha1 := hc1
  have ha2 := hc2
  refine lv_dup hx hb d_H_init_14 (va_rf_cat _) ?_
  obtain ⟨c5, d6, hc1, hc2, hB⟩ := hB
  refine zr_callN (As := []) (rest := [va_rf (some q3), .int (nI 0), va_rf (some q1), va_rf (some q1), va_rf (some b)]) hx hb hml hC hwk hw hS hl.1 (c_S_init l D B q3 σ4 c5 d6 _ hB) mk_S_init mi_S_init rfl nl_H_11 ⟨Nat.le_of_ble_eq_true rfl, Nat.le_of_ble_eq_true rfl⟩ rfl rfl (cat_8 (cat_c (va_rf_cat _) (cat_c rfl (cat_c (va_rf_cat _) (cat_c (va_rf_cat _) (cat_c (va_rf_cat _) cat_n))))) (Nat.le_of_ble_eq_true rfl)) d_H_init_15 ⟨hc1, hc2⟩ rfl (fun v σ7 H locs hp hgn hw hS => ?_)
  have hg := hg.tr hgn
  have hsb := hgn _ _ hsb
  have ha1 := hc1
  have ha2 := hc2
  obtain ⟨rfl, hB⟩ := hp
  refine W.eq (g2 := F0 m 18 ls [va_rf (some q3), .int (nI 0), va_rf (some q1), va_rf (some q1), va_rf (some b)]) rfl ?_
  obtain ⟨q8, n8, j9, ho, hs, hin, hj, hB⟩ := hB
  refine zr_aast hx hb hC hw hS ho hs rfl hB.1 hin hj d_H_init_18 (fun H locs hw hS => ?_)
  have hB := hB.2
  refine lv_dup hx hb d_H_init_19 (va_rf_cat _) ?_
  refine lv_iconst (v := nI 1) hx hb d_H_init_20 (by decide) ?_
  obtain ⟨hc1, hc2, hB⟩ := hB
  obtain ⟨q10, eqq10⟩ : ∃ z, z = s_n (w_r σ7 q8 j9 (some q3)) := ⟨_, rfl⟩
  obtain ⟨σ11, eσ11⟩ : ∃ z, z = w_new (w_r σ7 q8 j9 (some q3)) (.inl 1) := ⟨_, rfl⟩
  have hB := hB q10 σ11 eqq10 eσ11
  have hgn := hw.gnew (.inl 1)
  refine zr_new (ci := 1) hx hb hC hwk.1 hw hS (by decide) kl_H_9 in_S mk_S_init.2.1 hc1 hc2 d_H_init_21 (fun H hw hS => ?_)
  rw [← eσ11] at hw hgn
  rw [← eqq10]
  have hg := hg.tr hgn
  have hsb := hgn _ _ hsb
  have ha1 := hc1
  have ha2 := hc2
  refine lv_dup hx hb d_H_init_24 (va_rf_cat _) ?_
  obtain ⟨c12, d13, hc1, hc2, hB⟩ := hB
  refine zr_callN (As := []) (rest := [va_rf (some q10), .int (nI 1), va_rf (some q1), va_rf (some q1), va_rf (some b)]) hx hb hml hC hwk hw hS hl.1 (c_S_init l D B q10 σ11 c12 d13 _ hB) mk_S_init mi_S_init rfl nl_H_11 ⟨Nat.le_of_ble_eq_true rfl, Nat.le_of_ble_eq_true rfl⟩ rfl rfl (cat_8 (cat_c (va_rf_cat _) (cat_c rfl (cat_c (va_rf_cat _) (cat_c (va_rf_cat _) (cat_c (va_rf_cat _) cat_n))))) (Nat.le_of_ble_eq_true rfl)) d_H_init_25 ⟨hc1, hc2⟩ rfl (fun v σ14 H locs hp hgn hw hS => ?_)
  have hg := hg.tr hgn
  have hsb := hgn _ _ hsb
  have ha1 := hc1
  have ha2 := hc2
  obtain ⟨rfl, hB⟩ := hp
  refine W.eq (g2 := F0 m 28 ls [va_rf (some q10), .int (nI 1), va_rf (some q1), va_rf (some q1), va_rf (some b)]) rfl ?_
  obtain ⟨q15, n15, j16, ho, hs, hin, hj, hB⟩ := hB
  refine zr_aast hx hb hC hw hS ho hs rfl hB.1 hin hj d_H_init_28 (fun H locs hw hS => ?_)
  have hB := hB.2
  refine lv_dup hx hb d_H_init_29 (va_rf_cat _) ?_
  refine lv_iconst (v := nI 2) hx hb d_H_init_30 (by decide) ?_
  obtain ⟨hc1, hc2, hB⟩ := hB
  obtain ⟨q17, eqq17⟩ : ∃ z, z = s_n (w_r σ14 q15 j16 (some q10)) := ⟨_, rfl⟩
  obtain ⟨σ18, eσ18⟩ : ∃ z, z = w_new (w_r σ14 q15 j16 (some q10)) (.inl 1) := ⟨_, rfl⟩
  have hB := hB q17 σ18 eqq17 eσ18
  have hgn := hw.gnew (.inl 1)
  refine zr_new (ci := 1) hx hb hC hwk.1 hw hS (by decide) kl_H_9 in_S mk_S_init.2.1 hc1 hc2 d_H_init_31 (fun H hw hS => ?_)
  rw [← eσ18] at hw hgn
  rw [← eqq17]
  have hg := hg.tr hgn
  have hsb := hgn _ _ hsb
  have ha1 := hc1
  have ha2 := hc2
  refine lv_dup hx hb d_H_init_34 (va_rf_cat _) ?_
  obtain ⟨c19, d20, hc1, hc2, hB⟩ := hB
  refine zr_callN (As := []) (rest := [va_rf (some q17), .int (nI 2), va_rf (some q1), va_rf (some q1), va_rf (some b)]) hx hb hml hC hwk hw hS hl.1 (c_S_init l D B q17 σ18 c19 d20 _ hB) mk_S_init mi_S_init rfl nl_H_11 ⟨Nat.le_of_ble_eq_true rfl, Nat.le_of_ble_eq_true rfl⟩ rfl rfl (cat_8 (cat_c (va_rf_cat _) (cat_c rfl (cat_c (va_rf_cat _) (cat_c (va_rf_cat _) (cat_c (va_rf_cat _) cat_n))))) (Nat.le_of_ble_eq_true rfl)) d_H_init_35 ⟨hc1, hc2⟩ rfl (fun v σ21 H locs hp hgn hw hS => ?_)
  have hg := hg.tr hgn
  have hsb := hgn _ _ hsb
  have ha1 := hc1
  have ha2 := hc2
  obtain ⟨rfl, hB⟩ := hp
  refine W.eq (g2 := F0 m 38 ls [va_rf (some q17), .int (nI 2), va_rf (some q1), va_rf (some q1), va_rf (some b)]) rfl ?_
  obtain ⟨q22, n22, j23, ho, hs, hin, hj, hB⟩ := hB
  refine zr_aast hx hb hC hw hS ho hs rfl hB.1 hin hj d_H_init_38 (fun H locs hw hS => ?_)
  have hB := hB.2
  refine lv_dup hx hb d_H_init_39 (va_rf_cat _) ?_
  refine lv_iconst (v := nI 3) hx hb d_H_init_40 (by decide) ?_
  obtain ⟨hc1, hc2, hB⟩ := hB
  obtain ⟨q24, eqq24⟩ : ∃ z, z = s_n (w_r σ21 q22 j23 (some q17)) := ⟨_, rfl⟩
  obtain ⟨σ25, eσ25⟩ : ∃ z, z = w_new (w_r σ21 q22 j23 (some q17)) (.inl 1) := ⟨_, rfl⟩
  have hB := hB q24 σ25 eqq24 eσ25
  have hgn := hw.gnew (.inl 1)
  refine zr_new (ci := 1) hx hb hC hwk.1 hw hS (by decide) kl_H_9 in_S mk_S_init.2.1 hc1 hc2 d_H_init_41 (fun H hw hS => ?_)
  rw [← eσ25] at hw hgn
  rw [← eqq24]
  have hg := hg.tr hgn
  have hsb := hgn _ _ hsb
  have ha1 := hc1
  have ha2 := hc2
  refine lv_dup hx hb d_H_init_44 (va_rf_cat _) ?_
  obtain ⟨c26, d27, hc1, hc2, hB⟩ := hB
  refine zr_callN (As := []) (rest := [va_rf (some q24), .int (nI 3), va_rf (some q1), va_rf (some q1), va_rf (some b)]) hx hb hml hC hwk hw hS hl.1 (c_S_init l D B q24 σ25 c26 d27 _ hB) mk_S_init mi_S_init rfl nl_H_11 ⟨Nat.le_of_ble_eq_true rfl, Nat.le_of_ble_eq_true rfl⟩ rfl rfl (cat_8 (cat_c (va_rf_cat _) (cat_c rfl (cat_c (va_rf_cat _) (cat_c (va_rf_cat _) (cat_c (va_rf_cat _) cat_n))))) (Nat.le_of_ble_eq_true rfl)) d_H_init_45 ⟨hc1, hc2⟩ rfl (fun v σ28 H locs hp hgn hw hS => ?_)
  have hg := hg.tr hgn
  have hsb := hgn _ _ hsb
  have ha1 := hc1
  have ha2 := hc2
  obtain ⟨rfl, hB⟩ := hp
  refine W.eq (g2 := F0 m 48 ls [va_rf (some q24), .int (nI 3), va_rf (some q1), va_rf (some q1), va_rf (some b)]) rfl ?_
  obtain ⟨q29, n29, j30, ho, hs, hin, hj, hB⟩ := hB
  refine zr_aast hx hb hC hw hS ho hs rfl hB.1 hin hj d_H_init_48 (fun H locs hw hS => ?_)
  have hB := hB.2
  refine zr_putRF hx hb hC hname hw hS rfl hsb fl_H_12 rfl rfl (Or.inr ⟨_, rfl⟩) d_H_init_49 (fun H locs hw hS => ?_)
  refine zr_aload_n (o := some b) hx hb d_H_init_52 rfl (lv_at hl 0 rfl) ?_
  obtain ⟨hc1, hc2, hB⟩ := hB
  obtain ⟨q31, eqq31⟩ : ∃ z, z = s_n (w_r (w_r σ28 q29 j30 (some q24)) b 0 (some q1)) := ⟨_, rfl⟩
  obtain ⟨σ32, eσ32⟩ : ∃ z, z = w_new (w_r (w_r σ28 q29 j30 (some q24)) b 0 (some q1)) (.inl 1) := ⟨_, rfl⟩
  have hB := hB q31 σ32 eqq31 eσ32
  have hgn := hw.gnew (.inl 1)
  refine zr_new (ci := 1) hx hb hC hwk.1 hw hS (by decide) kl_H_9 in_S mk_S_init.2.1 hc1 hc2 d_H_init_53 (fun H hw hS => ?_)
  rw [← eσ32] at hw hgn
  rw [← eqq31]
  have hg := hg.tr hgn
  have hsb := hgn _ _ hsb
  have ha1 := hc1
  have ha2 := hc2
  refine lv_dup hx hb d_H_init_56 (va_rf_cat _) ?_
  obtain ⟨c33, d34, hc1, hc2, hB⟩ := hB
  refine zr_callN (As := []) (rest := [va_rf (some q31), va_rf (some b)]) hx hb hml hC hwk hw hS hl.1 (c_S_init l D B q31 σ32 c33 d34 _ hB) mk_S_init mi_S_init rfl nl_H_11 ⟨Nat.le_of_ble_eq_true rfl, Nat.le_of_ble_eq_true rfl⟩ rfl rfl (cat_8 (cat_c (va_rf_cat _) (cat_c (va_rf_cat _) cat_n)) (Nat.le_of_ble_eq_true rfl)) d_H_init_57 ⟨hc1, hc2⟩ rfl (fun v σ35 H locs hp hgn hw hS => ?_)
  have hg := hg.tr hgn
  have hsb := hgn _ _ hsb
  have ha1 := hc1
  have ha2 := hc2
  obtain ⟨rfl, hB⟩ := hp
  refine W.eq (g2 := F0 m 60 ls [va_rf (some q31), va_rf (some b)]) rfl ?_
  refine zr_putRF hx hb hC hname hw hS rfl hsb fl_H_18 rfl rfl (Or.inl ⟨_, rfl⟩) d_H_init_60 (fun H locs hw hS => ?_)
  refine W.widen (k := mc) (n := ms) ha1 ha2 ?_
  exact zr_vret hx hb hr hlocks hB hg hw hS d_H_init_63

set_option maxHeartbeats 4000000 in
set_option maxRecDepth 100000 in
theorem c_F_init (l : Launch) (D : va_G) (B : Nat) (b : Nat) (σ : St) (mc : Nat) (ms : Nat) (Q : St → Prop) (h : P_F_init b σ mc ms Q) : zM l y_F_init b_F_init 2 none (rm_F_init mc ms) D B [.ref b] σ (zQv Q) := by
  refine zM.ofW (own := "LawWorlds$Shelf") (by decide +kernel) rfl (Nat.le_of_ble_eq_true rfl) ?_
  intro p e s m args below meth c ls hx hb hml hr hlocks hname hC hwk hw hS hl
  obtain ⟨σ0, eσ⟩ : ∃ z, z = σ := ⟨_, rfl⟩
  have hg : gr σ0 σ := by rw [eσ]; exact gr.rf
  have hl : lv_has ls 2 [(0, va_rf (some b))] := hl
  have ha1 : 0 ≤ mc := Nat.zero_le _
  have ha2 : 0 ≤ ms := Nat.zero_le _
  obtain ⟨hsb, hB⟩ := h
  have hsb0 : s_s σ0 b = some (.inl 3) := by rw [eσ]; exact hsb
  rw [← eσ]
  skip
  obtain ⟨K15, hK15⟩ : ∃ K : Int32 → St → Nat → Nat → Prop, K = (fun (x1 : Int32) (σ : St) (ca : Nat) (cb : Nat) => ∀ (H : Heap) (locs : List Loc) (ls : Array Slot), gr σ0 σ → wh D B σ s H → va_S (zA B) s.heap H locs → lv_has ls 2 [(0, va_rf (some b)), (1, .int x1)] → ca ≤ mc → cb ≤ ms → W p l e (rm_F_init mc ms) s m args below meth c H locs ca cb (MQ below (zQ D B σ0 (zQv Q)) args s (rm_F_init mc ms).cells (rm_F_init mc ms).slots (zA B)) (F0 m 15 ls [])) := ⟨_, rfl⟩
  refine (fun hB => ?_) (hB K15 ?_)
  · skip
    refine zr_aload_n (o := some b) hx hb d_F_init_0 rfl (lv_at hl 0 rfl) ?_
    refine W.objInit hx hb hC.1 (hC.2.1 _ ml_F_3) (hC.2.1 _ k_oi) (hC.2.1 _ k_oc) rfl (by rw [hml]; exact hl.1) rfl d_F_init_1 (Nat.le_of_ble_eq_true rfl) (Nat.le_of_ble_eq_true rfl) ?_
    refine W.eq (g2 := F0 m 4 ls []) rfl ?_
    refine zr_aload_n (o := some b) hx hb d_F_init_4 rfl (lv_at hl 0 rfl) ?_
    refine lv_bipush (v := nI 30) hx hb d_F_init_5 (by decide) ?_
    obtain ⟨hc1, hc2, hB⟩ := hB
    obtain ⟨q8, eqq8⟩ : ∃ z, z = s_n σ := ⟨_, rfl⟩
    obtain ⟨σ9, eσ9⟩ : ∃ z, z = w_new σ (.inr (5, 30)) := ⟨_, rfl⟩
    have hB := hB q8 σ9 eqq8 eσ9
    have hgn := hw.gnew (.inr (5, 30))
    refine zr_newq (t := 5) (N := 30) hx hb hC hwk.1 hw hS kl_F_11 hwk.2.2.2.1 rfl rfl (Nat.le_of_ble_eq_true rfl) hc1 hc2 d_F_init_7 (fun H hw hS => ?_)
    rw [← eσ9] at hw hgn
    rw [← eqq8]
    have hg := hg.tr hgn
    have hsb := hgn _ _ hsb
    have ha1 := hc1
    have ha2 := hc2
    refine zr_putRF hx hb hC hname hw hS rfl hsb fl_F_13 rfl rfl (Or.inr ⟨_, rfl⟩) d_F_init_10 (fun H locs hw hS => ?_)
    refine lv_iconst (v := nI 0) hx hb d_F_init_13 (by decide) ?_
    refine lv_istore_n (lv' := [(1, .int (nI 0)), (0, va_rf (some b))]) hx hb d_F_init_14 rfl hl (by decide) rfl (fun ls hl => ?_)
    rw [hK15] at hB
    exact hB _ _ _ hg hw hS (lv_sub hl [1, 0] rfl) ha1 ha2
  · intro x1 σ ca cb hB
    rw [hK15]
    intro H locs ls hg hw hS hl ha1 ha2
    have hsb := hg _ _ hsb0
    refine lv_iload_n hx hb d_F_init_15 rfl (lv_at hl 1 rfl) ?_
    refine lv_bipush (v := nI 30) hx hb d_F_init_16 (by decide) ?_
    refine lv_icmp_ge (tgt := 40) hx hb d_F_init_18 (by decide) (fun cd => ?_) (fun cd => ?_)
    · have hB := hB.1 cd
      refine W.widen (k := mc) (n := ms) ha1 ha2 ?_
      exact zr_vret hx hb hr hlocks hB hg hw hS d_F_init_40
    · have hB := hB.2 cd
      refine zr_aload_n (o := some b) hx hb d_F_init_21 rfl (lv_at hl 0 rfl) ?_
      refine zr_get (v := va_rf (s_r σ b 0)) hx hb hC hw rfl hsb fl_F_13 rfl d_F_init_22 ?_
      refine lv_iload_n hx hb d_F_init_25 rfl (lv_at hl 1 rfl) ?_
      obtain ⟨hc1, hc2, hB⟩ := hB
      obtain ⟨q1, eqq1⟩ : ∃ z, z = s_n σ := ⟨_, rfl⟩
      obtain ⟨σ2, eσ2⟩ : ∃ z, z = w_new σ (.inl 4) := ⟨_, rfl⟩
      have hB := hB q1 σ2 eqq1 eσ2
      have hgn := hw.gnew (.inl 4)
      refine zr_new (ci := 4) hx hb hC hwk.1 hw hS (by decide) kl_F_11 in_L mk_L_init.2.1 hc1 hc2 d_F_init_26 (fun H hw hS => ?_)
      rw [← eσ2] at hw hgn
      rw [← eqq1]
      have hg := hg.tr hgn
      have hsb := hgn _ _ hsb
      have ha1 := hc1
      have ha2 := hc2
      refine lv_dup hx hb d_F_init_29 (va_rf_cat _) ?_
      obtain ⟨c3, d4, hc1, hc2, hB⟩ := hB
      refine zr_callN (As := []) (rest := [va_rf (some q1), .int x1, va_rf (s_r σ b 0)]) hx hb hml hC hwk hw hS hl.1 (c_L_init l D B q1 σ2 c3 d4 _ hB) mk_L_init mi_L_init rfl nl_F_17 ⟨Nat.le_of_ble_eq_true rfl, Nat.le_of_ble_eq_true rfl⟩ rfl rfl (cat_8 (cat_c (va_rf_cat _) (cat_c rfl (cat_c (va_rf_cat _) cat_n))) (Nat.le_of_ble_eq_true rfl)) d_F_init_30 ⟨hc1, hc2⟩ rfl (fun v σ5 H locs hp hgn hw hS => ?_)
      have hg := hg.tr hgn
      have hsb := hgn _ _ hsb
      have ha1 := hc1
      have ha2 := hc2
      obtain ⟨rfl, hB⟩ := hp
      refine W.eq (g2 := F0 m 33 ls [va_rf (some q1), .int x1, va_rf (s_r σ b 0)]) rfl ?_
      obtain ⟨q6, n6, j7, ho, hs, hin, hj, hB⟩ := hB
      refine zr_aast hx hb hC hw hS ho hs rfl hB.1 hin hj d_F_init_33 (fun H locs hw hS => ?_)
      have hB := hB.2
      refine lv_iinc (v := x1 + nI 1) (lv' := [(1, .int (x1 + nI 1)), (0, va_rf (some b))]) hx hb d_F_init_34 hl (k := 1) rfl rfl (by decide) rfl (fun ls hl => ?_)
      refine lv_goto (tgt := 15) hx hb d_F_init_37 (by decide) ?_
      rw [hK15] at hB
      exact hB _ _ _ hg hw hS (lv_sub hl [1, 0] rfl) ha1 ha2

set_option maxHeartbeats 4000000 in
set_option maxRecDepth 100000 in
theorem c_E_init (l : Launch) (D : va_G) (B : Nat) (b : Nat) (σ : St) (mc : Nat) (ms : Nat) (Q : St → Prop) (h : P_E_init b σ mc ms Q) : zM l y_E_init b_E_init 1 none (rm_E_init mc ms) D B [.ref b] σ (zQv Q) := by
  refine zM.ofW (own := "LawWorlds$Search") (by decide +kernel) rfl (Nat.le_of_ble_eq_true rfl) ?_
  intro p e s m args below meth c ls hx hb hml hr hlocks hname hC hwk hw hS hl
  obtain ⟨σ0, eσ⟩ : ∃ z, z = σ := ⟨_, rfl⟩
  have hg : gr σ0 σ := by rw [eσ]; exact gr.rf
  have hl : lv_has ls 1 [(0, va_rf (some b))] := hl
  have ha1 : 0 ≤ mc := Nat.zero_le _
  have ha2 : 0 ≤ ms := Nat.zero_le _
  obtain ⟨hsb, hB⟩ := h
  have hsb0 : s_s σ0 b = some (.inl 6) := by rw [eσ]; exact hsb
  rw [← eσ]
  skip
  refine zr_aload_n (o := some b) hx hb d_E_init_0 rfl (lv_at hl 0 rfl) ?_
  refine W.objInit hx hb hC.1 (hC.2.1 _ ml_E_3) (hC.2.1 _ k_oi) (hC.2.1 _ k_oc) rfl (by rw [hml]; exact hl.1) rfl d_E_init_1 (Nat.le_of_ble_eq_true rfl) (Nat.le_of_ble_eq_true rfl) ?_
  refine W.eq (g2 := F0 m 4 ls []) rfl ?_
  refine zr_aload_n (o := some b) hx hb d_E_init_4 rfl (lv_at hl 0 rfl) ?_
  obtain ⟨hc1, hc2, hB⟩ := hB
  obtain ⟨q1, eqq1⟩ : ∃ z, z = s_n σ := ⟨_, rfl⟩
  obtain ⟨σ2, eσ2⟩ : ∃ z, z = w_new σ (.inl 5) := ⟨_, rfl⟩
  have hB := hB q1 σ2 eqq1 eσ2
  have hgn := hw.gnew (.inl 5)
  refine zr_new (ci := 5) hx hb hC hwk.1 hw hS (by decide) kl_E_9 in_B mk_B_init.2.1 hc1 hc2 d_E_init_5 (fun H hw hS => ?_)
  rw [← eσ2] at hw hgn
  rw [← eqq1]
  have hg := hg.tr hgn
  have hsb := hgn _ _ hsb
  have ha1 := hc1
  have ha2 := hc2
  refine lv_dup hx hb d_E_init_8 (va_rf_cat _) ?_
  obtain ⟨c3, d4, hc1, hc2, hB⟩ := hB
  refine zr_callN (As := []) (rest := [va_rf (some q1), va_rf (some b)]) hx hb hml hC hwk hw hS hl.1 (c_B_init l D B q1 σ2 c3 d4 _ hB) mk_B_init mi_B_init rfl nl_E_11 ⟨Nat.le_of_ble_eq_true rfl, Nat.le_of_ble_eq_true rfl⟩ rfl rfl (cat_8 (cat_c (va_rf_cat _) (cat_c (va_rf_cat _) cat_n)) (Nat.le_of_ble_eq_true rfl)) d_E_init_9 ⟨hc1, hc2⟩ rfl (fun v σ5 H locs hp hgn hw hS => ?_)
  have hg := hg.tr hgn
  have hsb := hgn _ _ hsb
  have ha1 := hc1
  have ha2 := hc2
  obtain ⟨rfl, hB⟩ := hp
  refine W.eq (g2 := F0 m 12 ls [va_rf (some q1), va_rf (some b)]) rfl ?_
  refine zr_putRF hx hb hC hname hw hS rfl hsb fl_E_12 rfl rfl (Or.inl ⟨_, rfl⟩) d_E_init_12 (fun H locs hw hS => ?_)
  refine zr_aload_n (o := some b) hx hb d_E_init_15 rfl (lv_at hl 0 rfl) ?_
  obtain ⟨hc1, hc2, hB⟩ := hB
  obtain ⟨q6, eqq6⟩ : ∃ z, z = s_n (w_r σ5 b 0 (some q1)) := ⟨_, rfl⟩
  obtain ⟨σ7, eσ7⟩ : ∃ z, z = w_new (w_r σ5 b 0 (some q1)) (.inl 7) := ⟨_, rfl⟩
  have hB := hB q6 σ7 eqq6 eσ7
  have hgn := hw.gnew (.inl 7)
  refine zr_new (ci := 7) hx hb hC hwk.1 hw hS (by decide) kl_E_18 in_P mk_P_init.2.1 hc1 hc2 d_E_init_16 (fun H hw hS => ?_)
  rw [← eσ7] at hw hgn
  rw [← eqq6]
  have hg := hg.tr hgn
  have hsb := hgn _ _ hsb
  have ha1 := hc1
  have ha2 := hc2
  refine lv_dup hx hb d_E_init_19 (va_rf_cat _) ?_
  obtain ⟨c8, d9, hc1, hc2, hB⟩ := hB
  refine zr_callN (As := []) (rest := [va_rf (some q6), va_rf (some b)]) hx hb hml hC hwk hw hS hl.1 (c_P_init l D B q6 σ7 c8 d9 _ hB) mk_P_init mi_P_init rfl nl_E_20 ⟨Nat.le_of_ble_eq_true rfl, Nat.le_of_ble_eq_true rfl⟩ rfl rfl (cat_8 (cat_c (va_rf_cat _) (cat_c (va_rf_cat _) cat_n)) (Nat.le_of_ble_eq_true rfl)) d_E_init_20 ⟨hc1, hc2⟩ rfl (fun v σ10 H locs hp hgn hw hS => ?_)
  have hg := hg.tr hgn
  have hsb := hgn _ _ hsb
  have ha1 := hc1
  have ha2 := hc2
  obtain ⟨rfl, hB⟩ := hp
  refine W.eq (g2 := F0 m 23 ls [va_rf (some q6), va_rf (some b)]) rfl ?_
  refine zr_putRF hx hb hC hname hw hS rfl hsb fl_E_21 rfl rfl (Or.inl ⟨_, rfl⟩) d_E_init_23 (fun H locs hw hS => ?_)
  refine zr_aload_n (o := some b) hx hb d_E_init_26 rfl (lv_at hl 0 rfl) ?_
  refine lv_iconst (v := nI 5) hx hb d_E_init_27 (by decide) ?_
  obtain ⟨hc1, hc2, hB⟩ := hB
  obtain ⟨q11, eqq11⟩ : ∃ z, z = s_n (w_r σ10 b 1 (some q6)) := ⟨_, rfl⟩
  obtain ⟨σ12, eσ12⟩ : ∃ z, z = w_new (w_r σ10 b 1 (some q6)) (.inr (5, 5)) := ⟨_, rfl⟩
  have hB := hB q11 σ12 eqq11 eσ12
  have hgn := hw.gnew (.inr (5, 5))
  refine zr_newq (t := 5) (N := 5) hx hb hC hwk.1 hw hS kl_E_25 hwk.2.2.2.1 rfl rfl (Nat.le_of_ble_eq_true rfl) hc1 hc2 d_E_init_28 (fun H hw hS => ?_)
  rw [← eσ12] at hw hgn
  rw [← eqq11]
  have hg := hg.tr hgn
  have hsb := hgn _ _ hsb
  have ha1 := hc1
  have ha2 := hc2
  refine zr_putRF hx hb hC hname hw hS rfl hsb fl_E_27 rfl rfl (Or.inr ⟨_, rfl⟩) d_E_init_31 (fun H locs hw hS => ?_)
  refine zr_aload_n (o := some b) hx hb d_E_init_34 rfl (lv_at hl 0 rfl) ?_
  refine lv_bipush (v := nI 12) hx hb d_E_init_35 (by decide) ?_
  obtain ⟨hc1, hc2, hB⟩ := hB
  obtain ⟨q13, eqq13⟩ : ∃ z, z = s_n (w_r σ12 b 2 (some q11)) := ⟨_, rfl⟩
  obtain ⟨σ14, eσ14⟩ : ∃ z, z = w_new (w_r σ12 b 2 (some q11)) (.inr (0, 12)) := ⟨_, rfl⟩
  have hB := hB q13 σ14 eqq13 eσ14
  have hgn := hw.gnew (.inr (0, 12))
  refine zr_newa (t := 0) (atype := .int) (N := 12) hx hb hC hwk.1 hw hS ac_int rfl rfl rfl (Nat.le_of_ble_eq_true rfl) hc1 hc2 d_E_init_37 (fun H hw hS => ?_)
  rw [← eσ14] at hw hgn
  rw [← eqq13]
  have hg := hg.tr hgn
  have hsb := hgn _ _ hsb
  have ha1 := hc1
  have ha2 := hc2
  refine zr_putRF hx hb hC hname hw hS rfl hsb fl_E_31 rfl rfl (Or.inr ⟨_, rfl⟩) d_E_init_39 (fun H locs hw hS => ?_)
  refine zr_aload_n (o := some b) hx hb d_E_init_42 rfl (lv_at hl 0 rfl) ?_
  refine lv_bipush (v := nI 12) hx hb d_E_init_43 (by decide) ?_
  obtain ⟨hc1, hc2, hB⟩ := hB
  obtain ⟨q15, eqq15⟩ : ∃ z, z = s_n (w_r σ14 b 4 (some q13)) := ⟨_, rfl⟩
  obtain ⟨σ16, eσ16⟩ : ∃ z, z = w_new (w_r σ14 b 4 (some q13)) (.inr (0, 12)) := ⟨_, rfl⟩
  have hB := hB q15 σ16 eqq15 eσ16
  have hgn := hw.gnew (.inr (0, 12))
  refine zr_newa (t := 0) (atype := .int) (N := 12) hx hb hC hwk.1 hw hS ac_int rfl rfl rfl (Nat.le_of_ble_eq_true rfl) hc1 hc2 d_E_init_45 (fun H hw hS => ?_)
  rw [← eσ16] at hw hgn
  rw [← eqq15]
  have hg := hg.tr hgn
  have hsb := hgn _ _ hsb
  have ha1 := hc1
  have ha2 := hc2
  refine zr_putRF hx hb hC hname hw hS rfl hsb fl_E_35 rfl rfl (Or.inr ⟨_, rfl⟩) d_E_init_47 (fun H locs hw hS => ?_)
  refine W.widen (k := mc) (n := ms) ha1 ha2 ?_
  exact zr_vret hx hb hr hlocks hB hg hw hS d_E_init_50

set_option maxHeartbeats 4000000 in
set_option maxRecDepth 100000 in
theorem c_H_dropOldest (l : Launch) (D : va_G) (B : Nat) (b : Nat) (σ : St) (Q : St → Prop) (h : P_H_dropOldest b σ Q) : zM l y_H_dropOldest b_H_dropOldest 3 none (rm_H_dropOldest) D B [.ref b] σ (zQv Q) := by
  refine zM.ofW (own := "LawWorlds$History") (by decide +kernel) rfl (Nat.le_of_ble_eq_true rfl) ?_
  intro p e s m args below meth c ls hx hb hml hr hlocks hname hC hwk hw hS hl
  obtain ⟨σ0, eσ⟩ : ∃ z, z = σ := ⟨_, rfl⟩
  have hg : gr σ0 σ := by rw [eσ]; exact gr.rf
  have hl : lv_has ls 3 [(0, va_rf (some b))] := hl
  obtain ⟨hsb, hB⟩ := h
  have hsb0 : s_s σ0 b = some (.inl 2) := by rw [eσ]; exact hsb
  rw [← eσ]
  skip
  obtain ⟨K9, hK9⟩ : ∃ K : Option Nat → Int32 → St → Prop, K = (fun (o1 : Option Nat) (x2 : Int32) (σ : St) => ∀ (H : Heap) (locs : List Loc) (ls : Array Slot), gr σ0 σ → wh D B σ s H → va_S (zA B) s.heap H locs → lv_has ls 3 [(0, va_rf (some b)), (1, va_rf o1), (2, .int x2)] → W p l e (rm_H_dropOldest) s m args below meth c H locs 0 0 (MQ below (zQ D B σ0 (zQv Q)) args s (rm_H_dropOldest).cells (rm_H_dropOldest).slots (zA B)) (F0 m 9 ls [])) := ⟨_, rfl⟩
  refine (fun hB => ?_) (hB K9 ?_)
  · skip
    refine zr_aload_n (o := some b) hx hb d_H_dropOldest_0 rfl (lv_at hl 0 rfl) ?_
    refine zr_get (v := va_rf (s_r σ b 0)) hx hb hC hw rfl hsb fl_H_12 rfl d_H_dropOldest_1 ?_
    refine lv_iconst (v := nI 0) hx hb d_H_dropOldest_4 (by decide) ?_
    obtain ⟨q7, n7, j8, ho, hs, hin, hj, hB⟩ := hB
    refine zr_aald hx hb hw ho hs ⟨_, rfl⟩ hin hj d_H_dropOldest_5 ?_
    refine zr_astore_n (lv' := [(1, va_rf (s_r σ q7 j8)), (0, va_rf (some b))]) hx hb d_H_dropOldest_6 rfl hl (by decide) rfl (fun ls hl => ?_)
    refine lv_iconst (v := nI 1) hx hb d_H_dropOldest_7 (by decide) ?_
    refine lv_istore_n (lv' := [(2, .int (nI 1)), (1, va_rf (s_r σ q7 j8)), (0, va_rf (some b))]) hx hb d_H_dropOldest_8 rfl hl (by decide) (congrArg (List.cons _) (fl_k rfl (va_rf_cat _) (fl_k rfl (va_rf_cat _) fl_n))) (fun ls hl => ?_)
    rw [hK9] at hB
    exact hB _ _ _ hg hw hS (lv_sub hl [2, 1, 0] rfl)
  · intro o1 x2 σ hB
    rw [hK9]
    intro H locs ls hg hw hS hl
    have hsb := hg _ _ hsb0
    refine lv_iload_n hx hb d_H_dropOldest_9 rfl (lv_at hl 2 rfl) ?_
    refine lv_iconst (v := nI 4) hx hb d_H_dropOldest_10 (by decide) ?_
    refine lv_icmp_ge (tgt := 34) hx hb d_H_dropOldest_11 (by decide) (fun cd => ?_) (fun cd => ?_)
    · have hB := hB.1 cd
      refine zr_aload_n (o := some b) hx hb d_H_dropOldest_34 rfl (lv_at hl 0 rfl) ?_
      refine zr_get (v := va_rf (s_r σ b 0)) hx hb hC hw rfl hsb fl_H_12 rfl d_H_dropOldest_35 ?_
      refine lv_iconst (v := nI 3) hx hb d_H_dropOldest_38 (by decide) ?_
      refine zr_aload_n (o := o1) hx hb d_H_dropOldest_39 rfl (lv_at hl 1 rfl) ?_
      obtain ⟨q1, n1, j2, ho, hs, hin, hj, hB⟩ := hB
      refine zr_aast hx hb hC hw hS ho hs rfl hB.1 hin hj d_H_dropOldest_40 (fun H locs hw hS => ?_)
      have hB := hB.2
      refine zr_aload_n (o := some b) hx hb d_H_dropOldest_41 rfl (lv_at hl 0 rfl) ?_
      refine lv_dup hx hb d_H_dropOldest_42 (va_rf_cat _) ?_
      refine zr_get (v := .int (s_i (w_r σ q1 j2 o1) b 2)) hx hb hC hw rfl hsb fl_H_22 rfl d_H_dropOldest_43 ?_
      refine lv_iconst (v := nI 1) hx hb d_H_dropOldest_46 (by decide) ?_
      refine lv_isub hx hb d_H_dropOldest_47 ?_
      refine zr_putI hx hb hC hw hS rfl hsb fl_H_22 rfl rfl d_H_dropOldest_48 (fun H locs hw hS => ?_)
      exact zr_vret hx hb hr hlocks hB hg hw hS d_H_dropOldest_51
    · have hB := hB.2 cd
      refine zr_aload_n (o := some b) hx hb d_H_dropOldest_14 rfl (lv_at hl 0 rfl) ?_
      refine zr_get (v := va_rf (s_r σ b 0)) hx hb hC hw rfl hsb fl_H_12 rfl d_H_dropOldest_15 ?_
      refine lv_iload_n hx hb d_H_dropOldest_18 rfl (lv_at hl 2 rfl) ?_
      refine lv_iconst (v := nI 1) hx hb d_H_dropOldest_19 (by decide) ?_
      refine lv_isub hx hb d_H_dropOldest_20 ?_
      refine zr_aload_n (o := some b) hx hb d_H_dropOldest_21 rfl (lv_at hl 0 rfl) ?_
      refine zr_get (v := va_rf (s_r σ b 0)) hx hb hC hw rfl hsb fl_H_12 rfl d_H_dropOldest_22 ?_
      refine lv_iload_n hx hb d_H_dropOldest_25 rfl (lv_at hl 2 rfl) ?_
      obtain ⟨q3, n3, j4, ho, hs, hin, hj, hB⟩ := hB
      refine zr_aald hx hb hw ho hs ⟨_, rfl⟩ hin hj d_H_dropOldest_26 ?_
      obtain ⟨q5, n5, j6, ho, hs, hin, hj, hB⟩ := hB
      refine zr_aast hx hb hC hw hS ho hs rfl hB.1 hin hj d_H_dropOldest_27 (fun H locs hw hS => ?_)
      have hB := hB.2
      refine lv_iinc (v := x2 + nI 1) (lv' := [(2, .int (x2 + nI 1)), (0, va_rf (some b)), (1, va_rf o1)]) hx hb d_H_dropOldest_28 hl (k := 2) rfl rfl (by decide) (congrArg (List.cons _) (fl_k rfl (va_rf_cat _) (fl_k rfl (va_rf_cat _) (fl_d rfl fl_n)))) (fun ls hl => ?_)
      refine lv_goto (tgt := 9) hx hb d_H_dropOldest_31 (by decide) ?_
      rw [hK9] at hB
      exact hB _ _ _ hg hw hS (lv_sub hl [1, 2, 0] rfl)

set_option maxHeartbeats 4000000 in
set_option maxRecDepth 100000 in
theorem c_H_record (l : Launch) (D : va_G) (B : Nat) (b : Nat) (o1 : Option Nat) (σ : St) (Q : St → Prop) (h : P_H_record b o1 σ Q) : zM l y_H_record b_H_record 2 none (rm_H_record) D B [.ref b, va_rf o1] σ (zQv Q) := by
  refine zM.ofW (own := "LawWorlds$History") (by decide +kernel) rfl (lg_c rfl (lg_c (va_rf_cat _) lg_0)) ?_
  intro p e s m args below meth c ls hx hb hml hr hlocks hname hC hwk hw hS hl
  obtain ⟨σ0, eσ⟩ : ∃ z, z = σ := ⟨_, rfl⟩
  have hg : gr σ0 σ := by rw [eσ]; exact gr.rf
  rw [lv_args_c rfl, lv_args_c (va_rf_cat _)] at hl
  have hl : lv_has ls 2 [(0, va_rf (some b)), (1, va_rf o1)] := hl
  obtain ⟨hsb, hB⟩ := h
  have hsb0 : s_s σ0 b = some (.inl 2) := by rw [eσ]; exact hsb
  rw [← eσ]
  skip
  refine zr_aload_n (o := some b) hx hb d_H_record_0 rfl (lv_at hl 0 rfl) ?_
  refine zr_get (v := .int (s_i σ b 2)) hx hb hC hw rfl hsb fl_H_22 rfl d_H_record_1 ?_
  refine lv_iconst (v := nI 4) hx hb d_H_record_4 (by decide) ?_
  refine lv_icmp_lt (tgt := 12) hx hb d_H_record_5 (by decide) (fun cd => ?_) (fun cd => ?_)
  · have hB := hB.1 cd
    refine zr_aload_n (o := some b) hx hb d_H_record_12 rfl (lv_at hl 0 rfl) ?_
    refine zr_get (v := va_rf (s_r σ b 0)) hx hb hC hw rfl hsb fl_H_12 rfl d_H_record_13 ?_
    refine zr_aload_n (o := some b) hx hb d_H_record_16 rfl (lv_at hl 0 rfl) ?_
    refine zr_get (v := .int (s_i σ b 2)) hx hb hC hw rfl hsb fl_H_22 rfl d_H_record_17 ?_
    obtain ⟨q1, n1, j2, ho, hs, hin, hj, hB⟩ := hB
    refine zr_aald hx hb hw ho hs ⟨_, rfl⟩ hin hj d_H_record_20 ?_
    refine zr_aload_n (o := o1) hx hb d_H_record_21 rfl (lv_at hl 1 rfl) ?_
    obtain ⟨q3, ho3, hB⟩ := hB
    have hsr := And.left hB
    refine zr_callV (ci := 1) (As := [va_rf o1]) (rest := []) hx hb hml hC hwk hw hS hl.1 (c_S_copyFrom l D B q3 o1 σ _ hB) mk_S_copyFrom mi_S_copyFrom ms_S_copyFrom ml_H_29 ⟨Nat.le_of_ble_eq_true rfl, Nat.le_of_ble_eq_true rfl⟩ ho3 hsr rfl (cat_8 cat_n (Nat.le_of_ble_eq_true rfl)) d_H_record_22 ⟨Nat.le_refl _, Nat.le_refl _⟩ rfl (fun v σ4 H locs hp hgn hw hS => ?_)
    have hg := hg.tr hgn
    have hsb := hgn _ _ hsb
    obtain ⟨rfl, hB⟩ := hp
    refine W.eq (g2 := F0 m 25 ls []) rfl ?_
    refine zr_aload_n (o := some b) hx hb d_H_record_25 rfl (lv_at hl 0 rfl) ?_
    refine lv_dup hx hb d_H_record_26 (va_rf_cat _) ?_
    refine zr_get (v := .int (s_i σ4 b 2)) hx hb hC hw rfl hsb fl_H_22 rfl d_H_record_27 ?_
    refine lv_iconst (v := nI 1) hx hb d_H_record_30 (by decide) ?_
    refine lv_iadd hx hb d_H_record_31 ?_
    refine zr_putI hx hb hC hw hS rfl hsb fl_H_22 rfl rfl d_H_record_32 (fun H locs hw hS => ?_)
    exact zr_vret hx hb hr hlocks hB hg hw hS d_H_record_35
  · have hB := hB.2 cd
    refine zr_aload_n (o := some b) hx hb d_H_record_8 rfl (lv_at hl 0 rfl) ?_
    have hsr := And.left hB
    refine zr_callV (ci := 2) (As := []) (rest := []) hx hb hml hC hwk hw hS hl.1 (c_H_dropOldest l D B b σ _ hB) mk_H_dropOldest mi_H_dropOldest ms_H_dropOldest ml_H_26 ⟨Nat.le_of_ble_eq_true rfl, Nat.le_of_ble_eq_true rfl⟩ rfl hsr rfl (cat_8 cat_n (Nat.le_of_ble_eq_true rfl)) d_H_record_9 ⟨Nat.le_refl _, Nat.le_refl _⟩ rfl (fun v σ5 H locs hp hgn hw hS => ?_)
    have hg := hg.tr hgn
    have hsb := hgn _ _ hsb
    obtain ⟨rfl, hB⟩ := hp
    refine W.eq (g2 := F0 m 12 ls []) rfl ?_
    refine zr_aload_n (o := some b) hx hb d_H_record_12 rfl (lv_at hl 0 rfl) ?_
    refine zr_get (v := va_rf (s_r σ5 b 0)) hx hb hC hw rfl hsb fl_H_12 rfl d_H_record_13 ?_
    refine zr_aload_n (o := some b) hx hb d_H_record_16 rfl (lv_at hl 0 rfl) ?_
    refine zr_get (v := .int (s_i σ5 b 2)) hx hb hC hw rfl hsb fl_H_22 rfl d_H_record_17 ?_
    obtain ⟨q6, n6, j7, ho, hs, hin, hj, hB⟩ := hB
    refine zr_aald hx hb hw ho hs ⟨_, rfl⟩ hin hj d_H_record_20 ?_
    refine zr_aload_n (o := o1) hx hb d_H_record_21 rfl (lv_at hl 1 rfl) ?_
    obtain ⟨q8, ho8, hB⟩ := hB
    have hsr := And.left hB
    refine zr_callV (ci := 1) (As := [va_rf o1]) (rest := []) hx hb hml hC hwk hw hS hl.1 (c_S_copyFrom l D B q8 o1 σ5 _ hB) mk_S_copyFrom mi_S_copyFrom ms_S_copyFrom ml_H_29 ⟨Nat.le_of_ble_eq_true rfl, Nat.le_of_ble_eq_true rfl⟩ ho8 hsr rfl (cat_8 cat_n (Nat.le_of_ble_eq_true rfl)) d_H_record_22 ⟨Nat.le_refl _, Nat.le_refl _⟩ rfl (fun v σ9 H locs hp hgn hw hS => ?_)
    have hg := hg.tr hgn
    have hsb := hgn _ _ hsb
    obtain ⟨rfl, hB⟩ := hp
    refine W.eq (g2 := F0 m 25 ls []) rfl ?_
    refine zr_aload_n (o := some b) hx hb d_H_record_25 rfl (lv_at hl 0 rfl) ?_
    refine lv_dup hx hb d_H_record_26 (va_rf_cat _) ?_
    refine zr_get (v := .int (s_i σ9 b 2)) hx hb hC hw rfl hsb fl_H_22 rfl d_H_record_27 ?_
    refine lv_iconst (v := nI 1) hx hb d_H_record_30 (by decide) ?_
    refine lv_iadd hx hb d_H_record_31 ?_
    refine zr_putI hx hb hC hw hS rfl hsb fl_H_22 rfl rfl d_H_record_32 (fun H locs hw hS => ?_)
    exact zr_vret hx hb hr hlocks hB hg hw hS d_H_record_35

set_option maxHeartbeats 4000000 in
set_option maxRecDepth 100000 in
theorem c_H_uses (l : Launch) (D : va_G) (B : Nat) (b : Nat) (o1 : Option Nat) (σ : St) (Q : Int32 → St → Prop) (h : P_H_uses b o1 σ Q) : zM l y_H_uses b_H_uses 3 (some (.boolean)) (rm_H_uses) D B [.ref b, va_rf o1] σ (zQi Q) := by
  refine zM.ofW (own := "LawWorlds$History") (by decide +kernel) rfl (lg_c rfl (lg_c (va_rf_cat _) lg_0)) ?_
  intro p e s m args below meth c ls hx hb hml hr hlocks hname hC hwk hw hS hl
  obtain ⟨σ0, eσ⟩ : ∃ z, z = σ := ⟨_, rfl⟩
  have hg : gr σ0 σ := by rw [eσ]; exact gr.rf
  rw [lv_args_c rfl, lv_args_c (va_rf_cat _)] at hl
  have hl : lv_has ls 3 [(0, va_rf (some b)), (1, va_rf o1)] := hl
  obtain ⟨hsb, hB⟩ := h
  have hsb0 : s_s σ0 b = some (.inl 2) := by rw [eσ]; exact hsb
  rw [← eσ]
  skip
  obtain ⟨K2, hK2⟩ : ∃ K : Option Nat → Int32 → St → Prop, K = (fun (o1 : Option Nat) (x2 : Int32) (σ : St) => ∀ (H : Heap) (locs : List Loc) (ls : Array Slot), gr σ0 σ → wh D B σ s H → va_S (zA B) s.heap H locs → lv_has ls 3 [(0, va_rf (some b)), (1, va_rf o1), (2, .int x2)] → W p l e (rm_H_uses) s m args below meth c H locs 0 0 (MQ below (zQ D B σ0 (zQi Q)) args s (rm_H_uses).cells (rm_H_uses).slots (zA B)) (F0 m 2 ls [])) := ⟨_, rfl⟩
  refine (fun hB => ?_) (hB K2 ?_)
  · skip
    refine lv_iconst (v := nI 0) hx hb d_H_uses_0 (by decide) ?_
    refine lv_istore_n (lv' := [(2, .int (nI 0)), (0, va_rf (some b)), (1, va_rf o1)]) hx hb d_H_uses_1 rfl hl (by decide) (congrArg (List.cons _) (fl_k rfl (va_rf_cat _) (fl_k rfl (va_rf_cat _) fl_n))) (fun ls hl => ?_)
    rw [hK2] at hB
    exact hB _ _ _ hg hw hS (lv_sub hl [1, 2, 0] rfl)
  · intro o1 x2 σ hB
    rw [hK2]
    intro H locs ls hg hw hS hl
    have hsb := hg _ _ hsb0
    refine lv_iload_n hx hb d_H_uses_2 rfl (lv_at hl 2 rfl) ?_
    refine zr_aload_n (o := some b) hx hb d_H_uses_3 rfl (lv_at hl 0 rfl) ?_
    refine zr_get (v := .int (s_i σ b 2)) hx hb hC hw rfl hsb fl_H_22 rfl d_H_uses_4 ?_
    refine lv_icmp_ge (tgt := 31) hx hb d_H_uses_7 (by decide) (fun cd => ?_) (fun cd => ?_)
    · have hB := hB.1 cd
      refine zr_aload_n (o := some b) hx hb d_H_uses_31 rfl (lv_at hl 0 rfl) ?_
      refine zr_get (v := .int (s_i σ b 3)) hx hb hC hw rfl hsb fl_H_33 rfl d_H_uses_32 ?_
      refine lv_if_eq (tgt := 53) hx hb d_H_uses_35 (by decide) (fun cd => ?_) (fun cd => ?_)
      · have hB := hB.1 cd
        refine lv_iconst (v := nI 0) hx hb d_H_uses_53 (by decide) ?_
        exact zr_zret hx hb hr hlocks (Or.inl rfl) hB hg hw hS d_H_uses_54
      · have hB := hB.2 cd
        refine zr_aload_n (o := some b) hx hb d_H_uses_38 rfl (lv_at hl 0 rfl) ?_
        refine zr_get (v := va_rf (s_r σ b 1)) hx hb hC hw rfl hsb fl_H_18 rfl d_H_uses_39 ?_
        refine zr_aload_n (o := o1) hx hb d_H_uses_42 rfl (lv_at hl 1 rfl) ?_
        obtain ⟨q1, ho1, hB⟩ := hB
        have hsr := And.left hB
        refine zr_callV (ci := 1) (As := [va_rf o1]) (rest := []) hx hb hml hC hwk hw hS hl.1 (c_S_uses l D B q1 o1 σ _ hB) mk_S_uses mi_S_uses ms_S_uses ml_H_37 ⟨Nat.le_of_ble_eq_true rfl, Nat.le_of_ble_eq_true rfl⟩ ho1 hsr rfl (cat_8 cat_n (Nat.le_of_ble_eq_true rfl)) d_H_uses_43 ⟨Nat.le_refl _, Nat.le_refl _⟩ rfl (fun v σ2 H locs hp hgn hw hS => ?_)
        have hg := hg.tr hgn
        have hsb := hgn _ _ hsb
        obtain ⟨r3, rfl, hB⟩ := hp
        refine W.eq (g2 := F0 m 46 ls [.int r3]) rfl ?_
        refine lv_if_eq (tgt := 53) hx hb d_H_uses_46 (by decide) (fun cd => ?_) (fun cd => ?_)
        · have hB := hB.1 cd
          refine lv_iconst (v := nI 0) hx hb d_H_uses_53 (by decide) ?_
          exact zr_zret hx hb hr hlocks (Or.inl rfl) hB hg hw hS d_H_uses_54
        · have hB := hB.2 cd
          refine lv_iconst (v := nI 1) hx hb d_H_uses_49 (by decide) ?_
          refine lv_goto (tgt := 54) hx hb d_H_uses_50 (by decide) ?_
          exact zr_zret hx hb hr hlocks (Or.inr rfl) hB hg hw hS d_H_uses_54
    · have hB := hB.2 cd
      refine zr_aload_n (o := some b) hx hb d_H_uses_10 rfl (lv_at hl 0 rfl) ?_
      refine zr_get (v := va_rf (s_r σ b 0)) hx hb hC hw rfl hsb fl_H_12 rfl d_H_uses_11 ?_
      refine lv_iload_n hx hb d_H_uses_14 rfl (lv_at hl 2 rfl) ?_
      obtain ⟨q4, n4, j5, ho, hs, hin, hj, hB⟩ := hB
      refine zr_aald hx hb hw ho hs ⟨_, rfl⟩ hin hj d_H_uses_15 ?_
      refine zr_aload_n (o := o1) hx hb d_H_uses_16 rfl (lv_at hl 1 rfl) ?_
      obtain ⟨q6, ho6, hB⟩ := hB
      have hsr := And.left hB
      refine zr_callV (ci := 1) (As := [va_rf o1]) (rest := []) hx hb hml hC hwk hw hS hl.1 (c_S_uses l D B q6 o1 σ _ hB) mk_S_uses mi_S_uses ms_S_uses ml_H_37 ⟨Nat.le_of_ble_eq_true rfl, Nat.le_of_ble_eq_true rfl⟩ ho6 hsr rfl (cat_8 cat_n (Nat.le_of_ble_eq_true rfl)) d_H_uses_17 ⟨Nat.le_refl _, Nat.le_refl _⟩ rfl (fun v σ7 H locs hp hgn hw hS => ?_)
      have hg := hg.tr hgn
      have hsb := hgn _ _ hsb
      obtain ⟨r8, rfl, hB⟩ := hp
      refine W.eq (g2 := F0 m 20 ls [.int r8]) rfl ?_
      refine lv_if_eq (tgt := 25) hx hb d_H_uses_20 (by decide) (fun cd => ?_) (fun cd => ?_)
      · have hB := hB.1 cd
        refine lv_iinc (v := x2 + nI 1) (lv' := [(2, .int (x2 + nI 1)), (0, va_rf (some b)), (1, va_rf o1)]) hx hb d_H_uses_25 hl (k := 2) rfl rfl (by decide) (congrArg (List.cons _) (fl_k rfl (va_rf_cat _) (fl_k rfl (va_rf_cat _) (fl_d rfl fl_n)))) (fun ls hl => ?_)
        refine lv_goto (tgt := 2) hx hb d_H_uses_28 (by decide) ?_
        rw [hK2] at hB
        exact hB _ _ _ hg hw hS (lv_sub hl [1, 2, 0] rfl)
      · have hB := hB.2 cd
        refine lv_iconst (v := nI 1) hx hb d_H_uses_23 (by decide) ?_
        exact zr_zret hx hb hr hlocks (Or.inr rfl) hB hg hw hS d_H_uses_24

set_option maxHeartbeats 4000000 in
set_option maxRecDepth 100000 in
theorem c_F_bring (l : Launch) (D : va_G) (B : Nat) (b : Nat) (o1 : Option Nat) (x2 : Int32) (o3 : Option Nat) (o4 : Option Nat) (σ : St) (Q : Option Nat → St → Prop) (h : P_F_bring b o1 x2 o3 o4 σ Q) : zM l y_F_bring b_F_bring 8 (some (.object "LawWorlds$Law")) (rm_F_bring) D B [.ref b, va_rf o1, .int x2, va_rf o3, va_rf o4] σ (zQr Q) := by
  refine zM.ofW (own := "LawWorlds$Shelf") (by decide +kernel) rfl (lg_c rfl (lg_c (va_rf_cat _) (lg_c rfl (lg_c (va_rf_cat _) (lg_c (va_rf_cat _) lg_0))))) ?_
  intro p e s m args below meth c ls hx hb hml hr hlocks hname hC hwk hw hS hl
  obtain ⟨σ0, eσ⟩ : ∃ z, z = σ := ⟨_, rfl⟩
  have hg : gr σ0 σ := by rw [eσ]; exact gr.rf
  rw [lv_args_c rfl, lv_args_c (va_rf_cat _), lv_args_c rfl, lv_args_c (va_rf_cat _), lv_args_c (va_rf_cat _)] at hl
  have hl : lv_has ls 8 [(0, va_rf (some b)), (1, va_rf o1), (2, .int x2), (3, va_rf o3), (4, va_rf o4)] := hl
  obtain ⟨hsb, hB⟩ := h
  have hsb0 : s_s σ0 b = some (.inl 3) := by rw [eσ]; exact hsb
  rw [← eσ]
  skip
  obtain ⟨K17, hK17⟩ : ∃ K : Option Nat → Option Nat → Option Nat → Int32 → Int32 → Int32 → St → Prop, K = (fun (o1 : Option Nat) (o3 : Option Nat) (o4 : Option Nat) (x5 : Int32) (x6 : Int32) (x7 : Int32) (σ : St) => ∀ (H : Heap) (locs : List Loc) (ls : Array Slot), gr σ0 σ → wh D B σ s H → va_S (zA B) s.heap H locs → lv_has ls 8 [(0, va_rf (some b)), (1, va_rf o1), (3, va_rf o3), (4, va_rf o4), (5, .int x5), (6, .int x6), (7, .int x7)] → W p l e (rm_F_bring) s m args below meth c H locs 0 0 (MQ below (zQ D B σ0 (zQr Q)) args s (rm_F_bring).cells (rm_F_bring).slots (zA B)) (F0 m 17 ls [])) := ⟨_, rfl⟩
  obtain ⟨K62, hK62⟩ : ∃ K : Option Nat → Option Nat → Option Nat → Int32 → Int32 → Int32 → St → Prop, K = (fun (o1 : Option Nat) (o3 : Option Nat) (o4 : Option Nat) (x5 : Int32) (x6 : Int32) (x7 : Int32) (σ : St) => ∀ (H : Heap) (locs : List Loc) (ls : Array Slot), gr σ0 σ → wh D B σ s H → va_S (zA B) s.heap H locs → lv_has ls 8 [(0, va_rf (some b)), (1, va_rf o1), (3, va_rf o3), (4, va_rf o4), (5, .int x5), (6, .int x6), (7, .int x7)] → W p l e (rm_F_bring) s m args below meth c H locs 0 0 (MQ below (zQ D B σ0 (zQr Q)) args s (rm_F_bring).cells (rm_F_bring).slots (zA B)) (F0 m 62 ls [])) := ⟨_, rfl⟩
  refine (fun hB => ?_) (hB K17 K62 ?_ ?_)
  · skip
    refine zr_aload_n (o := o1) hx hb d_F_bring_0 rfl (lv_at hl 1 rfl) ?_
    refine lv_iload_n hx hb d_F_bring_1 rfl (lv_at hl 2 rfl) ?_
    obtain ⟨q26, ho26, hB⟩ := hB
    have hsr := And.left hB
    refine zr_callV (ci := 8) (As := [.int x2]) (rest := []) hx hb hml hC hwk hw hS hl.1 (c_D_lawStart l D B q26 x2 σ _ hB) mk_D_lawStart mi_D_lawStart ms_D_lawStart ml_F_18 ⟨Nat.le_of_ble_eq_true rfl, Nat.le_of_ble_eq_true rfl⟩ ho26 hsr rfl (cat_8 cat_n (Nat.le_of_ble_eq_true rfl)) d_F_bring_2 ⟨Nat.le_refl _, Nat.le_refl _⟩ rfl (fun v σ27 H locs hp hgn hw hS => ?_)
    have hg := hg.tr hgn
    have hsb := hgn _ _ hsb
    obtain ⟨r28, rfl, hB⟩ := hp
    refine W.eq (g2 := F0 m 5 ls [.int r28]) rfl ?_
    refine lv_istore (lv' := [(5, .int r28), (0, va_rf (some b)), (1, va_rf o1), (2, .int x2), (3, va_rf o3), (4, va_rf o4)]) hx hb d_F_bring_5 hl (by decide) (congrArg (List.cons _) (fl_k rfl (va_rf_cat _) (fl_k rfl (va_rf_cat _) (fl_k rfl rfl (fl_k rfl (va_rf_cat _) (fl_k rfl (va_rf_cat _) fl_n)))))) (fun ls hl => ?_)
    refine zr_aload_n (o := o1) hx hb d_F_bring_7 rfl (lv_at hl 2 rfl) ?_
    refine lv_iload_n hx hb d_F_bring_8 rfl (lv_at hl 3 rfl) ?_
    obtain ⟨q29, ho29, hB⟩ := hB
    have hsr := And.left hB
    refine zr_callV (ci := 8) (As := [.int x2]) (rest := []) hx hb hml hC hwk hw hS hl.1 (c_D_lawEnd l D B q29 x2 σ27 _ hB) mk_D_lawEnd mi_D_lawEnd ms_D_lawEnd ml_F_24 ⟨Nat.le_of_ble_eq_true rfl, Nat.le_of_ble_eq_true rfl⟩ ho29 hsr rfl (cat_8 cat_n (Nat.le_of_ble_eq_true rfl)) d_F_bring_9 ⟨Nat.le_refl _, Nat.le_refl _⟩ rfl (fun v σ30 H locs hp hgn hw hS => ?_)
    have hg := hg.tr hgn
    have hsb := hgn _ _ hsb
    obtain ⟨r31, rfl, hB⟩ := hp
    refine W.eq (g2 := F0 m 12 ls [.int r31]) rfl ?_
    refine lv_istore (lv' := [(6, .int r31), (5, .int r28), (0, va_rf (some b)), (1, va_rf o1), (2, .int x2), (3, va_rf o3), (4, va_rf o4)]) hx hb d_F_bring_12 hl (by decide) rfl (fun ls hl => ?_)
    refine lv_iconst (v := nI 0) hx hb d_F_bring_14 (by decide) ?_
    refine lv_istore (lv' := [(7, .int (nI 0)), (6, .int r31), (5, .int r28), (0, va_rf (some b)), (1, va_rf o1), (2, .int x2), (3, va_rf o3), (4, va_rf o4)]) hx hb d_F_bring_15 hl (by decide) rfl (fun ls hl => ?_)
    rw [hK17] at hB
    exact hB _ _ _ hg hw hS (lv_sub hl [3, 4, 6, 7, 2, 1, 0] rfl)
  · intro o1 o3 o4 x5 x6 x7 σ hB
    rw [hK17]
    intro H locs ls hg hw hS hl
    have hsb := hg _ _ hsb0
    refine lv_iload hx hb d_F_bring_17 (lv_at hl 6 rfl) ?_
    refine lv_bipush (v := nI 30) hx hb d_F_bring_19 (by decide) ?_
    refine lv_icmp_ge (tgt := 59) hx hb d_F_bring_21 (by decide) (fun cd => ?_) (fun cd => ?_)
    · have hB := hB.1 cd
      refine lv_iconst (v := nI 0) hx hb d_F_bring_59 (by decide) ?_
      refine lv_istore (lv' := [(7, .int (nI 0)), (0, va_rf (some b)), (1, va_rf o1), (3, va_rf o3), (4, va_rf o4), (5, .int x5), (6, .int x6)]) hx hb d_F_bring_60 hl (by decide) rfl (fun ls hl => ?_)
      rw [hK62] at hB
      exact hB _ _ _ hg hw hS (lv_sub hl [1, 2, 3, 4, 5, 6, 0] rfl)
    · have hB := hB.2 cd
      refine zr_aload_n (o := some b) hx hb d_F_bring_24 rfl (lv_at hl 0 rfl) ?_
      refine zr_get (v := va_rf (s_r σ b 0)) hx hb hC hw rfl hsb fl_F_13 rfl d_F_bring_25 ?_
      refine lv_iload hx hb d_F_bring_28 (lv_at hl 6 rfl) ?_
      obtain ⟨q1, n1, j2, ho, hs, hin, hj, hB⟩ := hB
      refine zr_aald hx hb hw ho hs ⟨_, rfl⟩ hin hj d_F_bring_30 ?_
      refine zr_aload_n (o := o1) hx hb d_F_bring_31 rfl (lv_at hl 1 rfl) ?_
      obtain ⟨q3, ho3, hs3, hB⟩ := hB
      refine zr_get (v := va_rf (s_r σ q3 0)) hx hb hC hw ho3 hs3 fl_F_27 rfl d_F_bring_32 ?_
      refine lv_iload hx hb d_F_bring_35 (lv_at hl 4 rfl) ?_
      refine lv_iload hx hb d_F_bring_37 (lv_at hl 5 rfl) ?_
      obtain ⟨q4, ho4, hB⟩ := hB
      have hsr := And.left hB
      refine zr_callV (ci := 4) (As := [va_rf (s_r σ q3 0), .int x5, .int x6]) (rest := []) hx hb hml hC hwk hw hS hl.1 (c_L_hasSteps l D B q4 (s_r σ q3 0) x5 x6 σ _ hB) mk_L_hasSteps mi_L_hasSteps ms_L_hasSteps ml_F_31 ⟨Nat.le_of_ble_eq_true rfl, Nat.le_of_ble_eq_true rfl⟩ ho4 hsr rfl (cat_8 cat_n (Nat.le_of_ble_eq_true rfl)) d_F_bring_39 ⟨Nat.le_refl _, Nat.le_refl _⟩ rfl (fun v σ5 H locs hp hgn hw hS => ?_)
      have hg := hg.tr hgn
      have hsb := hgn _ _ hsb
      have hs3 := hgn _ _ hs3
      obtain ⟨r6, rfl, hB⟩ := hp
      refine W.eq (g2 := F0 m 42 ls [.int r6]) rfl ?_
      refine lv_if_eq (tgt := 53) hx hb d_F_bring_42 (by decide) (fun cd => ?_) (fun cd => ?_)
      · have hB := hB.1 cd
        refine lv_iinc (v := x7 + nI 1) (lv' := [(7, .int (x7 + nI 1)), (0, va_rf (some b)), (1, va_rf o1), (3, va_rf o3), (4, va_rf o4), (5, .int x5), (6, .int x6)]) hx hb d_F_bring_53 hl (k := 6) rfl rfl (by decide) rfl (fun ls hl => ?_)
        refine lv_goto (tgt := 17) hx hb d_F_bring_56 (by decide) ?_
        rw [hK17] at hB
        exact hB _ _ _ hg hw hS (lv_sub hl [1, 2, 3, 4, 5, 6, 0] rfl)
      · have hB := hB.2 cd
        refine zr_aload_n (o := some b) hx hb d_F_bring_45 rfl (lv_at hl 0 rfl) ?_
        refine zr_get (v := va_rf (s_r σ5 b 0)) hx hb hC hw rfl hsb fl_F_13 rfl d_F_bring_46 ?_
        refine lv_iload hx hb d_F_bring_49 (lv_at hl 6 rfl) ?_
        obtain ⟨q7, n7, j8, ho, hs, hin, hj, hB⟩ := hB
        refine zr_aald hx hb hw ho hs ⟨_, rfl⟩ hin hj d_F_bring_51 ?_
        exact zr_aret hx hb hr (Or.inl ⟨_, rfl⟩) hlocks hB hg hw hS d_F_bring_52
  · intro o1 o3 o4 x5 x6 x7 σ hB
    rw [hK62]
    intro H locs ls hg hw hS hl
    have hsb := hg _ _ hsb0
    refine lv_iload hx hb d_F_bring_62 (lv_at hl 6 rfl) ?_
    refine lv_bipush (v := nI 30) hx hb d_F_bring_64 (by decide) ?_
    refine lv_icmp_ge (tgt := 130) hx hb d_F_bring_66 (by decide) (fun cd => ?_) (fun cd => ?_)
    · have hB := hB.1 cd
      refine zr_null hx hb d_F_bring_130 ?_
      exact zr_aret hx hb hr (Or.inl ⟨_, rfl⟩) hlocks hB hg hw hS d_F_bring_131
    · have hB := hB.2 cd
      refine zr_aload_n (o := o3) hx hb d_F_bring_69 rfl (lv_at hl 2 rfl) ?_
      refine zr_aload_n (o := some b) hx hb d_F_bring_70 rfl (lv_at hl 0 rfl) ?_
      refine zr_get (v := va_rf (s_r σ b 0)) hx hb hC hw rfl hsb fl_F_13 rfl d_F_bring_71 ?_
      refine lv_iload hx hb d_F_bring_74 (lv_at hl 6 rfl) ?_
      obtain ⟨q9, n9, j10, ho, hs, hin, hj, hB⟩ := hB
      refine zr_aald hx hb hw ho hs ⟨_, rfl⟩ hin hj d_F_bring_76 ?_
      obtain ⟨q11, ho11, hB⟩ := hB
      have hsr := And.left hB
      refine zr_callV (ci := 1) (As := [va_rf (s_r σ q9 j10)]) (rest := []) hx hb hml hC hwk hw hS hl.1 (c_S_uses l D B q11 (s_r σ q9 j10) σ _ hB) mk_S_uses mi_S_uses ms_S_uses ml_F_35 ⟨Nat.le_of_ble_eq_true rfl, Nat.le_of_ble_eq_true rfl⟩ ho11 hsr rfl (cat_8 cat_n (Nat.le_of_ble_eq_true rfl)) d_F_bring_77 ⟨Nat.le_refl _, Nat.le_refl _⟩ rfl (fun v σ12 H locs hp hgn hw hS => ?_)
      have hg := hg.tr hgn
      have hsb := hgn _ _ hsb
      obtain ⟨r13, rfl, hB⟩ := hp
      refine W.eq (g2 := F0 m 80 ls [.int r13]) rfl ?_
      refine lv_if_ne (tgt := 124) hx hb d_F_bring_80 (by decide) (fun cd => ?_) (fun cd => ?_)
      · have hB := hB.2 cd
        refine lv_iinc (v := x7 + nI 1) (lv' := [(7, .int (x7 + nI 1)), (0, va_rf (some b)), (1, va_rf o1), (3, va_rf o3), (4, va_rf o4), (5, .int x5), (6, .int x6)]) hx hb d_F_bring_124 hl (k := 6) rfl rfl (by decide) rfl (fun ls hl => ?_)
        refine lv_goto (tgt := 62) hx hb d_F_bring_127 (by decide) ?_
        rw [hK62] at hB
        exact hB _ _ _ hg hw hS (lv_sub hl [1, 2, 3, 4, 5, 6, 0] rfl)
      · have hB := hB.1 cd
        refine zr_aload (o := o4) hx hb d_F_bring_83 (lv_at hl 3 rfl) ?_
        refine zr_aload_n (o := some b) hx hb d_F_bring_85 rfl (lv_at hl 0 rfl) ?_
        refine zr_get (v := va_rf (s_r σ12 b 0)) hx hb hC hw rfl hsb fl_F_13 rfl d_F_bring_86 ?_
        refine lv_iload hx hb d_F_bring_89 (lv_at hl 6 rfl) ?_
        obtain ⟨q14, n14, j15, ho, hs, hin, hj, hB⟩ := hB
        refine zr_aald hx hb hw ho hs ⟨_, rfl⟩ hin hj d_F_bring_91 ?_
        obtain ⟨q16, ho16, hB⟩ := hB
        have hsr := And.left hB
        refine zr_callV (ci := 2) (As := [va_rf (s_r σ12 q14 j15)]) (rest := []) hx hb hml hC hwk hw hS hl.1 (c_H_uses l D B q16 (s_r σ12 q14 j15) σ12 _ hB) mk_H_uses mi_H_uses ms_H_uses ml_F_41 ⟨Nat.le_of_ble_eq_true rfl, Nat.le_of_ble_eq_true rfl⟩ ho16 hsr rfl (cat_8 cat_n (Nat.le_of_ble_eq_true rfl)) d_F_bring_92 ⟨Nat.le_refl _, Nat.le_refl _⟩ rfl (fun v σ17 H locs hp hgn hw hS => ?_)
        have hg := hg.tr hgn
        have hsb := hgn _ _ hsb
        obtain ⟨r18, rfl, hB⟩ := hp
        refine W.eq (g2 := F0 m 95 ls [.int r18]) rfl ?_
        refine lv_if_ne (tgt := 124) hx hb d_F_bring_95 (by decide) (fun cd => ?_) (fun cd => ?_)
        · have hB := hB.2 cd
          refine lv_iinc (v := x7 + nI 1) (lv' := [(7, .int (x7 + nI 1)), (0, va_rf (some b)), (1, va_rf o1), (3, va_rf o3), (4, va_rf o4), (5, .int x5), (6, .int x6)]) hx hb d_F_bring_124 hl (k := 6) rfl rfl (by decide) rfl (fun ls hl => ?_)
          refine lv_goto (tgt := 62) hx hb d_F_bring_127 (by decide) ?_
          rw [hK62] at hB
          exact hB _ _ _ hg hw hS (lv_sub hl [1, 2, 3, 4, 5, 6, 0] rfl)
        · have hB := hB.1 cd
          refine zr_aload_n (o := some b) hx hb d_F_bring_98 rfl (lv_at hl 0 rfl) ?_
          refine zr_get (v := va_rf (s_r σ17 b 0)) hx hb hC hw rfl hsb fl_F_13 rfl d_F_bring_99 ?_
          refine lv_iload hx hb d_F_bring_102 (lv_at hl 6 rfl) ?_
          obtain ⟨q19, n19, j20, ho, hs, hin, hj, hB⟩ := hB
          refine zr_aald hx hb hw ho hs ⟨_, rfl⟩ hin hj d_F_bring_104 ?_
          refine zr_aload_n (o := o1) hx hb d_F_bring_105 rfl (lv_at hl 1 rfl) ?_
          obtain ⟨q21, ho21, hs21, hB⟩ := hB
          refine zr_get (v := va_rf (s_r σ17 q21 0)) hx hb hC hw ho21 hs21 fl_F_27 rfl d_F_bring_106 ?_
          refine lv_iload hx hb d_F_bring_109 (lv_at hl 4 rfl) ?_
          refine lv_iload hx hb d_F_bring_111 (lv_at hl 5 rfl) ?_
          obtain ⟨q22, ho22, hB⟩ := hB
          have hsr := And.left hB
          refine zr_callV (ci := 4) (As := [va_rf (s_r σ17 q21 0), .int x5, .int x6]) (rest := []) hx hb hml hC hwk hw hS hl.1 (c_L_become l D B q22 (s_r σ17 q21 0) x5 x6 σ17 _ hB) mk_L_become mi_L_become ms_L_become ml_F_44 ⟨Nat.le_of_ble_eq_true rfl, Nat.le_of_ble_eq_true rfl⟩ ho22 hsr rfl (cat_8 cat_n (Nat.le_of_ble_eq_true rfl)) d_F_bring_113 ⟨Nat.le_refl _, Nat.le_refl _⟩ rfl (fun v σ23 H locs hp hgn hw hS => ?_)
          have hg := hg.tr hgn
          have hsb := hgn _ _ hsb
          have hs21 := hgn _ _ hs21
          obtain ⟨rfl, hB⟩ := hp
          refine W.eq (g2 := F0 m 116 ls []) rfl ?_
          refine zr_aload_n (o := some b) hx hb d_F_bring_116 rfl (lv_at hl 0 rfl) ?_
          refine zr_get (v := va_rf (s_r σ23 b 0)) hx hb hC hw rfl hsb fl_F_13 rfl d_F_bring_117 ?_
          refine lv_iload hx hb d_F_bring_120 (lv_at hl 6 rfl) ?_
          obtain ⟨q24, n24, j25, ho, hs, hin, hj, hB⟩ := hB
          refine zr_aald hx hb hw ho hs ⟨_, rfl⟩ hin hj d_F_bring_122 ?_
          exact zr_aret hx hb hr (Or.inl ⟨_, rfl⟩) hlocks hB hg hw hS d_F_bring_123

set_option maxHeartbeats 4000000 in
set_option maxRecDepth 100000 in
theorem c_E_countBroken (l : Launch) (D : va_G) (B : Nat) (b : Nat) (o1 : Option Nat) (σ : St) (mc : Nat) (ms : Nat) (Q : St → Prop) (h : P_E_countBroken b o1 σ mc ms Q) : zM l y_E_countBroken b_E_countBroken 3 none (rm_E_countBroken mc ms) D B [.ref b, va_rf o1] σ (zQv Q) := by
  refine zM.ofW (own := "LawWorlds$Search") (by decide +kernel) rfl (lg_c rfl (lg_c (va_rf_cat _) lg_0)) ?_
  intro p e s m args below meth c ls hx hb hml hr hlocks hname hC hwk hw hS hl
  obtain ⟨σ0, eσ⟩ : ∃ z, z = σ := ⟨_, rfl⟩
  have hg : gr σ0 σ := by rw [eσ]; exact gr.rf
  rw [lv_args_c rfl, lv_args_c (va_rf_cat _)] at hl
  have hl : lv_has ls 3 [(0, va_rf (some b)), (1, va_rf o1)] := hl
  have ha1 : 0 ≤ mc := Nat.zero_le _
  have ha2 : 0 ≤ ms := Nat.zero_le _
  obtain ⟨hsb, hB⟩ := h
  have hsb0 : s_s σ0 b = some (.inl 6) := by rw [eσ]; exact hsb
  rw [← eσ]
  skip
  obtain ⟨K26, hK26⟩ : ∃ K : Option Nat → Int32 → St → Nat → Nat → Prop, K = (fun (o1 : Option Nat) (x2 : Int32) (σ : St) (ca : Nat) (cb : Nat) => ∀ (H : Heap) (locs : List Loc) (ls : Array Slot), gr σ0 σ → wh D B σ s H → va_S (zA B) s.heap H locs → lv_has ls 3 [(0, va_rf (some b)), (1, va_rf o1), (2, .int x2)] → ca ≤ mc → cb ≤ ms → W p l e (rm_E_countBroken mc ms) s m args below meth c H locs ca cb (MQ below (zQ D B σ0 (zQv Q)) args s (rm_E_countBroken mc ms).cells (rm_E_countBroken mc ms).slots (zA B)) (F0 m 26 ls [])) := ⟨_, rfl⟩
  refine (fun hB => ?_) (hB K26 ?_)
  · skip
    refine zr_aload_n (o := o1) hx hb d_E_countBroken_0 rfl (lv_at hl 1 rfl) ?_
    obtain ⟨q20, ho20, hs20, hB⟩ := hB
    refine zr_get (v := .int (s_i σ q20 5)) hx hb hC hw ho20 hs20 fl_E_99 rfl d_E_countBroken_1 ?_
    refine lv_if_eq (tgt := 8) hx hb d_E_countBroken_4 (by decide) (fun cd => ?_) (fun cd => ?_)
    · have hB := hB.1 cd
      refine zr_aload_n (o := o1) hx hb d_E_countBroken_8 rfl (lv_at hl 1 rfl) ?_
      obtain ⟨q21, ho21, hs21, hB⟩ := hB
      refine zr_get (v := va_rf (s_r σ q21 4)) hx hb hC hw ho21 hs21 fl_E_103 rfl d_E_countBroken_9 ?_
      refine zr_ifnonnull (tgt := 24) hx hb d_E_countBroken_12 (by decide) (fun cd => ?_) (fun cd => ?_)
      · have hB := hB.2 cd
        refine lv_iconst (v := nI 0) hx hb d_E_countBroken_24 (by decide) ?_
        refine lv_istore_n (lv' := [(2, .int (nI 0)), (0, va_rf (some b)), (1, va_rf o1)]) hx hb d_E_countBroken_25 rfl hl (by decide) (congrArg (List.cons _) (fl_k rfl (va_rf_cat _) (fl_k rfl (va_rf_cat _) fl_n))) (fun ls hl => ?_)
        rw [hK26] at hB
        exact hB _ _ _ hg hw hS (lv_sub hl [1, 2, 0] rfl) ha1 ha2
      · have hB := hB.1 cd
        refine zr_aload_n (o := o1) hx hb d_E_countBroken_15 rfl (lv_at hl 1 rfl) ?_
        refine lv_sipush (v := nI 3341) hx hb d_E_countBroken_16 (by decide) ?_
        obtain ⟨hc1, hc2, hB⟩ := hB
        obtain ⟨q22, eqq22⟩ : ∃ z, z = s_n σ := ⟨_, rfl⟩
        obtain ⟨σ23, eσ23⟩ : ∃ z, z = w_new σ (.inr (2, 3341)) := ⟨_, rfl⟩
        have hB := hB q22 σ23 eqq22 eσ23
        have hgn := hw.gnew (.inr (2, 3341))
        refine zr_newa (t := 2) (atype := .byte) (N := 3341) hx hb hC hwk.1 hw hS ac_byte rfl rfl rfl (Nat.le_of_ble_eq_true rfl) hc1 hc2 d_E_countBroken_19 (fun H hw hS => ?_)
        rw [← eσ23] at hw hgn
        rw [← eqq22]
        have hg := hg.tr hgn
        have hsb := hgn _ _ hsb
        have hs20 := hgn _ _ hs20
        have hs21 := hgn _ _ hs21
        have ha1 := hc1
        have ha2 := hc2
        obtain ⟨q24, ho24, hs24, hB⟩ := hB
        refine zr_putR hx hb hC hw hS ho24 hs24 fl_E_103 rfl (Or.inr ⟨_, rfl⟩) d_E_countBroken_21 (fun H locs hw hS => ?_)
        refine lv_iconst (v := nI 0) hx hb d_E_countBroken_24 (by decide) ?_
        refine lv_istore_n (lv' := [(2, .int (nI 0)), (0, va_rf (some b)), (1, va_rf o1)]) hx hb d_E_countBroken_25 rfl hl (by decide) (congrArg (List.cons _) (fl_k rfl (va_rf_cat _) (fl_k rfl (va_rf_cat _) fl_n))) (fun ls hl => ?_)
        rw [hK26] at hB
        exact hB _ _ _ hg hw hS (lv_sub hl [1, 2, 0] rfl) ha1 ha2
    · have hB := hB.2 cd
      refine W.widen (k := mc) (n := ms) ha1 ha2 ?_
      exact zr_vret hx hb hr hlocks hB hg hw hS d_E_countBroken_7
  · intro o1 x2 σ ca cb hB
    rw [hK26]
    intro H locs ls hg hw hS hl ha1 ha2
    have hsb := hg _ _ hsb0
    refine lv_iload_n hx hb d_E_countBroken_26 rfl (lv_at hl 2 rfl) ?_
    refine lv_sipush (v := nI 3341) hx hb d_E_countBroken_27 (by decide) ?_
    refine lv_icmp_ge (tgt := 87) hx hb d_E_countBroken_30 (by decide) (fun cd => ?_) (fun cd => ?_)
    · have hB := hB.1 cd
      refine zr_aload_n (o := o1) hx hb d_E_countBroken_87 rfl (lv_at hl 1 rfl) ?_
      refine lv_iconst (v := nI 1) hx hb d_E_countBroken_88 (by decide) ?_
      obtain ⟨q1, ho1, hs1, hB⟩ := hB
      refine zr_putZ hx hb hC hw hS ho1 hs1 fl_E_99 rfl rfl (Or.inr rfl) d_E_countBroken_89 (fun H locs hw hS => ?_)
      refine W.widen (k := mc) (n := ms) ha1 ha2 ?_
      exact zr_vret hx hb hr hlocks hB hg hw hS d_E_countBroken_92
    · have hB := hB.2 cd
      refine zr_aload_n (o := some b) hx hb d_E_countBroken_33 rfl (lv_at hl 0 rfl) ?_
      refine zr_get (v := va_rf (s_r σ b 0)) hx hb hC hw rfl hsb fl_E_12 rfl d_E_countBroken_34 ?_
      refine zr_aload_n (o := some b) hx hb d_E_countBroken_37 rfl (lv_at hl 0 rfl) ?_
      refine zr_get (v := va_rf (s_r σ b 1)) hx hb hC hw rfl hsb fl_E_21 rfl d_E_countBroken_38 ?_
      refine lv_iload_n hx hb d_E_countBroken_41 rfl (lv_at hl 2 rfl) ?_
      obtain ⟨q2, ho2, hB⟩ := hB
      have hsr := And.left hB
      refine zr_callV (ci := 7) (As := [.int x2]) (rest := [va_rf (s_r σ b 0)]) hx hb hml hC hwk hw hS hl.1 (c_P_sizeAt l D B q2 x2 σ _ hB) mk_P_sizeAt mi_P_sizeAt ms_P_sizeAt ml_E_86 ⟨Nat.le_of_ble_eq_true rfl, Nat.le_of_ble_eq_true rfl⟩ ho2 hsr rfl (cat_8 (cat_c (va_rf_cat _) cat_n) (Nat.le_of_ble_eq_true rfl)) d_E_countBroken_42 ⟨ha1, ha2⟩ rfl (fun v σ3 H locs hp hgn hw hS => ?_)
      have hg := hg.tr hgn
      have hsb := hgn _ _ hsb
      obtain ⟨r4, rfl, hB⟩ := hp
      refine W.eq (g2 := F0 m 45 ls [.int r4, va_rf (s_r σ b 0)]) rfl ?_
      refine zr_aload_n (o := some b) hx hb d_E_countBroken_45 rfl (lv_at hl 0 rfl) ?_
      refine zr_get (v := va_rf (s_r σ3 b 1)) hx hb hC hw rfl hsb fl_E_21 rfl d_E_countBroken_46 ?_
      refine lv_iload_n hx hb d_E_countBroken_49 rfl (lv_at hl 2 rfl) ?_
      obtain ⟨q5, ho5, hB⟩ := hB
      have hsr := And.left hB
      refine zr_callV (ci := 7) (As := [.int x2]) (rest := [.int r4, va_rf (s_r σ b 0)]) hx hb hml hC hwk hw hS hl.1 (c_P_codeAt l D B q5 x2 σ3 _ hB) mk_P_codeAt mi_P_codeAt ms_P_codeAt ml_E_59 ⟨Nat.le_of_ble_eq_true rfl, Nat.le_of_ble_eq_true rfl⟩ ho5 hsr rfl (cat_8 (cat_c rfl (cat_c (va_rf_cat _) cat_n)) (Nat.le_of_ble_eq_true rfl)) d_E_countBroken_50 ⟨ha1, ha2⟩ rfl (fun v σ6 H locs hp hgn hw hS => ?_)
      have hg := hg.tr hgn
      have hsb := hgn _ _ hsb
      obtain ⟨r7, rfl, hB⟩ := hp
      refine W.eq (g2 := F0 m 53 ls [.int r7, .int r4, va_rf (s_r σ b 0)]) rfl ?_
      obtain ⟨q8, ho8, hB⟩ := hB
      have hsr := And.left hB
      refine zr_callV (ci := 5) (As := [.int r4, .int r7]) (rest := []) hx hb hml hC hwk hw hS hl.1 (c_B_open l D B q8 r4 r7 σ6 _ hB) mk_B_open mi_B_open ms_B_open ml_E_107 ⟨Nat.le_of_ble_eq_true rfl, Nat.le_of_ble_eq_true rfl⟩ ho8 hsr rfl (cat_8 cat_n (Nat.le_of_ble_eq_true rfl)) d_E_countBroken_53 ⟨ha1, ha2⟩ rfl (fun v σ9 H locs hp hgn hw hS => ?_)
      have hg := hg.tr hgn
      have hsb := hgn _ _ hsb
      obtain ⟨rfl, hB⟩ := hp
      refine W.eq (g2 := F0 m 56 ls []) rfl ?_
      refine zr_aload_n (o := some b) hx hb d_E_countBroken_56 rfl (lv_at hl 0 rfl) ?_
      refine zr_get (v := va_rf (s_r σ9 b 0)) hx hb hC hw rfl hsb fl_E_12 rfl d_E_countBroken_57 ?_
      refine zr_aload_n (o := o1) hx hb d_E_countBroken_60 rfl (lv_at hl 1 rfl) ?_
      obtain ⟨q10, ho10, hB⟩ := hB
      have hsr := And.left hB
      refine zr_callV (ci := 5) (As := [va_rf o1]) (rest := []) hx hb hml hC hwk hw hS hl.1 (c_B_run l D B q10 o1 σ9 _ hB) mk_B_run mi_B_run ms_B_run ml_E_110 ⟨Nat.le_of_ble_eq_true rfl, Nat.le_of_ble_eq_true rfl⟩ ho10 hsr rfl (cat_8 cat_n (Nat.le_of_ble_eq_true rfl)) d_E_countBroken_61 ⟨ha1, ha2⟩ rfl (fun v σ11 H locs hp hgn hw hS => ?_)
      have hg := hg.tr hgn
      have hsb := hgn _ _ hsb
      obtain ⟨rfl, hB⟩ := hp
      refine W.eq (g2 := F0 m 64 ls []) rfl ?_
      refine zr_aload_n (o := o1) hx hb d_E_countBroken_64 rfl (lv_at hl 1 rfl) ?_
      obtain ⟨q12, ho12, hs12, hB⟩ := hB
      refine zr_get (v := va_rf (s_r σ11 q12 4)) hx hb hC hw ho12 hs12 fl_E_103 rfl d_E_countBroken_65 ?_
      refine lv_iload_n hx hb d_E_countBroken_68 rfl (lv_at hl 2 rfl) ?_
      refine zr_aload_n (o := some b) hx hb d_E_countBroken_69 rfl (lv_at hl 0 rfl) ?_
      refine zr_get (v := va_rf (s_r σ11 b 0)) hx hb hC hw rfl hsb fl_E_12 rfl d_E_countBroken_70 ?_
      obtain ⟨q13, ho13, hB⟩ := hB
      have hsr := And.left hB
      refine zr_callV (ci := 5) (As := []) (rest := [.int x2, va_rf (s_r σ11 q12 4)]) hx hb hml hC hwk hw hS hl.1 (c_B_brokenCases l D B q13 σ11 _ hB) mk_B_brokenCases mi_B_brokenCases ms_B_brokenCases ml_E_113 ⟨Nat.le_of_ble_eq_true rfl, Nat.le_of_ble_eq_true rfl⟩ ho13 hsr rfl (cat_8 (cat_c rfl (cat_c (va_rf_cat _) cat_n)) (Nat.le_of_ble_eq_true rfl)) d_E_countBroken_73 ⟨ha1, ha2⟩ rfl (fun v σ14 H locs hp hgn hw hS => ?_)
      have hg := hg.tr hgn
      have hsb := hgn _ _ hsb
      have hs12 := hgn _ _ hs12
      obtain ⟨r15, rfl, hB⟩ := hp
      refine W.eq (g2 := F0 m 76 ls [.int r15, .int x2, va_rf (s_r σ11 q12 4)]) rfl ?_
      refine zr_callS (As := [.int r15]) (rest := [.int x2, va_rf (s_r σ11 q12 4)]) hx hb hml hC hwk hw hS hl.1 (c_I_bitCount l D B r15 σ14 _ hB) mk_I_bitCount mt_I_bitCount ml_E_117 ⟨Nat.le_of_ble_eq_true rfl, Nat.le_of_ble_eq_true rfl⟩ rfl (cat_8 (cat_c rfl (cat_c (va_rf_cat _) cat_n)) (Nat.le_of_ble_eq_true rfl)) d_E_countBroken_76 ⟨ha1, ha2⟩ rfl (fun v σ16 H locs hp hgn hw hS => ?_)
      have hg := hg.tr hgn
      have hsb := hgn _ _ hsb
      have hs12 := hgn _ _ hs12
      obtain ⟨r17, rfl, hB⟩ := hp
      refine W.eq (g2 := F0 m 79 ls [.int r17, .int x2, va_rf (s_r σ11 q12 4)]) rfl ?_
      refine lv_i2b (v := byt r17) hx hb d_E_countBroken_79 rfl ?_
      obtain ⟨q18, n18, j19, ho, hs, hin, hj, hB⟩ := hB
      refine zr_bast hx hb hw hS ho hs hin hj d_E_countBroken_80 (fun H locs hw hS => ?_)
      refine lv_iinc (v := x2 + nI 1) (lv' := [(2, .int (x2 + nI 1)), (0, va_rf (some b)), (1, va_rf o1)]) hx hb d_E_countBroken_81 hl (k := 2) rfl rfl (by decide) (congrArg (List.cons _) (fl_k rfl (va_rf_cat _) (fl_k rfl (va_rf_cat _) (fl_d rfl fl_n)))) (fun ls hl => ?_)
      refine lv_goto (tgt := 26) hx hb d_E_countBroken_84 (by decide) ?_
      rw [hK26] at hB
      exact hB _ _ _ hg hw hS (lv_sub hl [1, 2, 0] rfl) ha1 ha2

set_option maxHeartbeats 4000000 in
set_option maxRecDepth 100000 in
theorem c_E_demand (l : Launch) (D : va_G) (B : Nat) (b : Nat) (o1 : Option Nat) (x2 : Int32) (σ : St) (mc : Nat) (ms : Nat) (Q : St → Prop) (h : P_E_demand b o1 x2 σ mc ms Q) : zM l y_E_demand b_E_demand 5 none (rm_E_demand mc ms) D B [.ref b, va_rf o1, .int x2] σ (zQv Q) := by
  refine zM.ofW (own := "LawWorlds$Search") (by decide +kernel) rfl (lg_c rfl (lg_c (va_rf_cat _) (lg_c rfl lg_0))) ?_
  intro p e s m args below meth c ls hx hb hml hr hlocks hname hC hwk hw hS hl
  obtain ⟨σ0, eσ⟩ : ∃ z, z = σ := ⟨_, rfl⟩
  have hg : gr σ0 σ := by rw [eσ]; exact gr.rf
  rw [lv_args_c rfl, lv_args_c (va_rf_cat _), lv_args_c rfl] at hl
  have hl : lv_has ls 5 [(0, va_rf (some b)), (1, va_rf o1), (2, .int x2)] := hl
  have ha1 : 0 ≤ mc := Nat.zero_le _
  have ha2 : 0 ≤ ms := Nat.zero_le _
  obtain ⟨hsb, hB⟩ := h
  have hsb0 : s_s σ0 b = some (.inl 6) := by rw [eσ]; exact hsb
  rw [← eσ]
  skip
  obtain ⟨K7, hK7⟩ : ∃ K : Option Nat → Int32 → Int32 → St → Nat → Nat → Prop, K = (fun (o1 : Option Nat) (x2 : Int32) (x3 : Int32) (σ : St) (ca : Nat) (cb : Nat) => ∀ (H : Heap) (locs : List Loc) (ls : Array Slot), gr σ0 σ → wh D B σ s H → va_S (zA B) s.heap H locs → lv_has ls 5 [(0, va_rf (some b)), (1, va_rf o1), (2, .int x2), (3, .int x3)] → ca ≤ mc → cb ≤ ms → W p l e (rm_E_demand mc ms) s m args below meth c H locs ca cb (MQ below (zQ D B σ0 (zQv Q)) args s (rm_E_demand mc ms).cells (rm_E_demand mc ms).slots (zA B)) (F0 m 7 ls [])) := ⟨_, rfl⟩
  refine (fun hB => ?_) (hB K7 ?_)
  · skip
    refine zr_aload_n (o := some b) hx hb d_E_demand_0 rfl (lv_at hl 0 rfl) ?_
    refine lv_iconst (v := nI 0) hx hb d_E_demand_1 (by decide) ?_
    refine zr_putI hx hb hC hw hS rfl hsb fl_E_89 rfl rfl d_E_demand_2 (fun H locs hw hS => ?_)
    refine lv_iconst (v := nI 0) hx hb d_E_demand_5 (by decide) ?_
    refine lv_istore_n (lv' := [(3, .int (nI 0)), (0, va_rf (some b)), (1, va_rf o1), (2, .int x2)]) hx hb d_E_demand_6 rfl hl (by decide) rfl (fun ls hl => ?_)
    rw [hK7] at hB
    exact hB _ _ _ hg hw hS (lv_sub hl [1, 2, 3, 0] rfl) ha1 ha2
  · intro o1 x2 x3 σ ca cb hB
    rw [hK7]
    intro H locs ls hg hw hS hl ha1 ha2
    have hsb := hg _ _ hsb0
    refine lv_iload_n hx hb d_E_demand_7 rfl (lv_at hl 3 rfl) ?_
    refine zr_aload_n (o := o1) hx hb d_E_demand_8 rfl (lv_at hl 1 rfl) ?_
    obtain ⟨q1, ho1, hs1, hB⟩ := hB
    refine zr_get (v := .int (s_i σ q1 2)) hx hb hC hw ho1 hs1 fl_E_92 rfl d_E_demand_9 ?_
    refine lv_icmp_ge (tgt := 82) hx hb d_E_demand_12 (by decide) (fun cd => ?_) (fun cd => ?_)
    · have hB := hB.1 cd
      refine W.widen (k := mc) (n := ms) ha1 ha2 ?_
      exact zr_vret hx hb hr hlocks hB hg hw hS d_E_demand_82
    · have hB := hB.2 cd
      refine zr_aload_n (o := o1) hx hb d_E_demand_15 rfl (lv_at hl 1 rfl) ?_
      refine lv_iload_n hx hb d_E_demand_16 rfl (lv_at hl 3 rfl) ?_
      obtain ⟨q2, ho2, hB⟩ := hB
      have hsr := And.left hB
      refine zr_callV (ci := 1) (As := [.int x3]) (rest := []) hx hb hml hC hwk hw hS hl.1 (c_S_lawAt l D B q2 x3 σ _ hB) mk_S_lawAt mi_S_lawAt ms_S_lawAt ml_E_66 ⟨Nat.le_of_ble_eq_true rfl, Nat.le_of_ble_eq_true rfl⟩ ho2 hsr rfl (cat_8 cat_n (Nat.le_of_ble_eq_true rfl)) d_E_demand_17 ⟨ha1, ha2⟩ rfl (fun v σ3 H locs hp hgn hw hS => ?_)
      have hg := hg.tr hgn
      have hsb := hgn _ _ hsb
      have hs1 := hgn _ _ hs1
      obtain ⟨r4, rfl, hB⟩ := hp
      refine W.eq (g2 := F0 m 20 ls [va_rf r4]) rfl ?_
      refine zr_astore (lv' := [(4, va_rf r4), (0, va_rf (some b)), (1, va_rf o1), (2, .int x2), (3, .int x3)]) hx hb d_E_demand_20 hl (by decide) rfl (fun ls hl => ?_)
      refine zr_aload (o := r4) hx hb d_E_demand_22 (lv_at hl 0 rfl) ?_
      refine zr_ifnull (tgt := 76) hx hb d_E_demand_24 (by decide) (fun cd => ?_) (fun cd => ?_)
      · have hB := hB.1 cd
        refine lv_iinc (v := x3 + nI 1) (lv' := [(3, .int (x3 + nI 1)), (4, va_rf r4), (0, va_rf (some b)), (1, va_rf o1), (2, .int x2)]) hx hb d_E_demand_76 hl (k := 4) rfl rfl (by decide) rfl (fun ls hl => ?_)
        refine lv_goto (tgt := 7) hx hb d_E_demand_79 (by decide) ?_
        rw [hK7] at hB
        exact hB _ _ _ hg hw hS (lv_sub hl [2, 3, 4, 0] rfl) ha1 ha2
      · have hB := hB.2 cd
        refine lv_iload_n hx hb d_E_demand_27 rfl (lv_at hl 4 rfl) ?_
        refine lv_iload_n hx hb d_E_demand_28 rfl (lv_at hl 3 rfl) ?_
        refine lv_icmp_eq (tgt := 76) hx hb d_E_demand_29 (by decide) (fun cd => ?_) (fun cd => ?_)
        · have hB := hB.1 cd
          refine lv_iinc (v := x3 + nI 1) (lv' := [(3, .int (x3 + nI 1)), (4, va_rf r4), (0, va_rf (some b)), (1, va_rf o1), (2, .int x2)]) hx hb d_E_demand_76 hl (k := 4) rfl rfl (by decide) rfl (fun ls hl => ?_)
          refine lv_goto (tgt := 7) hx hb d_E_demand_79 (by decide) ?_
          rw [hK7] at hB
          exact hB _ _ _ hg hw hS (lv_sub hl [2, 3, 4, 0] rfl) ha1 ha2
        · have hB := hB.2 cd
          refine zr_aload_n (o := o1) hx hb d_E_demand_32 rfl (lv_at hl 2 rfl) ?_
          obtain ⟨q5, ho5, hs5, hB⟩ := hB
          refine zr_get (v := va_rf (s_r σ3 q5 1)) hx hb hC hw ho5 hs5 fl_E_95 rfl d_E_demand_33 ?_
          refine lv_iload_n hx hb d_E_demand_36 rfl (lv_at hl 4 rfl) ?_
          obtain ⟨q6, n6, j7, ho, hs, hin, hj, hB⟩ := hB
          refine zr_zald hx hb hw ho hs hin hj d_E_demand_37 ?_
          refine lv_if_eq (tgt := 76) hx hb d_E_demand_38 (by decide) (fun cd => ?_) (fun cd => ?_)
          · have hB := hB.1 cd
            refine lv_iinc (v := x3 + nI 1) (lv' := [(3, .int (x3 + nI 1)), (4, va_rf r4), (0, va_rf (some b)), (1, va_rf o1), (2, .int x2)]) hx hb d_E_demand_76 hl (k := 4) rfl rfl (by decide) rfl (fun ls hl => ?_)
            refine lv_goto (tgt := 7) hx hb d_E_demand_79 (by decide) ?_
            rw [hK7] at hB
            exact hB _ _ _ hg hw hS (lv_sub hl [2, 3, 4, 0] rfl) ha1 ha2
          · have hB := hB.2 cd
            refine zr_aload_n (o := some b) hx hb d_E_demand_41 rfl (lv_at hl 1 rfl) ?_
            refine zr_get (v := .int (s_i σ3 b 3)) hx hb hC hw rfl hsb fl_E_89 rfl d_E_demand_42 ?_
            refine lv_iconst (v := nI 5) hx hb d_E_demand_45 (by decide) ?_
            refine lv_icmp_ge (tgt := 76) hx hb d_E_demand_46 (by decide) (fun cd => ?_) (fun cd => ?_)
            · have hB := hB.1 cd
              refine lv_iinc (v := x3 + nI 1) (lv' := [(3, .int (x3 + nI 1)), (4, va_rf r4), (0, va_rf (some b)), (1, va_rf o1), (2, .int x2)]) hx hb d_E_demand_76 hl (k := 4) rfl rfl (by decide) rfl (fun ls hl => ?_)
              refine lv_goto (tgt := 7) hx hb d_E_demand_79 (by decide) ?_
              rw [hK7] at hB
              exact hB _ _ _ hg hw hS (lv_sub hl [2, 3, 4, 0] rfl) ha1 ha2
            · have hB := hB.2 cd
              refine zr_aload_n (o := some b) hx hb d_E_demand_49 rfl (lv_at hl 1 rfl) ?_
              refine zr_aload (o := r4) hx hb d_E_demand_50 (lv_at hl 0 rfl) ?_
              obtain ⟨c8, d9, hc1, hc2, hB⟩ := hB
              have hsr := And.left hB
              refine zr_callV (ci := 6) (As := [va_rf r4]) (rest := []) hx hb hml hC hwk hw hS hl.1 (c_E_countBroken l D B b r4 σ3 c8 d9 _ hB) mk_E_countBroken mi_E_countBroken ms_E_countBroken ml_E_72 ⟨Nat.le_of_ble_eq_true rfl, Nat.le_of_ble_eq_true rfl⟩ rfl hsr rfl (cat_8 cat_n (Nat.le_of_ble_eq_true rfl)) d_E_demand_52 ⟨hc1, hc2⟩ rfl (fun v σ10 H locs hp hgn hw hS => ?_)
              have hg := hg.tr hgn
              have hsb := hgn _ _ hsb
              have hs1 := hgn _ _ hs1
              have hs5 := hgn _ _ hs5
              have ha1 := hc1
              have ha2 := hc2
              obtain ⟨rfl, hB⟩ := hp
              refine W.eq (g2 := F0 m 55 ls []) rfl ?_
              refine zr_aload_n (o := some b) hx hb d_E_demand_55 rfl (lv_at hl 1 rfl) ?_
              refine zr_get (v := va_rf (s_r σ10 b 2)) hx hb hC hw rfl hsb fl_E_27 rfl d_E_demand_56 ?_
              refine zr_aload_n (o := some b) hx hb d_E_demand_59 rfl (lv_at hl 1 rfl) ?_
              refine zr_get (v := .int (s_i σ10 b 3)) hx hb hC hw rfl hsb fl_E_89 rfl d_E_demand_60 ?_
              refine zr_aload (o := r4) hx hb d_E_demand_63 (lv_at hl 0 rfl) ?_
              obtain ⟨q11, n11, j12, ho, hs, hin, hj, hB⟩ := hB
              refine zr_aast hx hb hC hw hS ho hs rfl hB.1 hin hj d_E_demand_65 (fun H locs hw hS => ?_)
              have hB := hB.2
              refine zr_aload_n (o := some b) hx hb d_E_demand_66 rfl (lv_at hl 1 rfl) ?_
              refine lv_dup hx hb d_E_demand_67 (va_rf_cat _) ?_
              refine zr_get (v := .int (s_i (w_r σ10 q11 j12 r4) b 3)) hx hb hC hw rfl hsb fl_E_89 rfl d_E_demand_68 ?_
              refine lv_iconst (v := nI 1) hx hb d_E_demand_71 (by decide) ?_
              refine lv_iadd hx hb d_E_demand_72 ?_
              refine zr_putI hx hb hC hw hS rfl hsb fl_E_89 rfl rfl d_E_demand_73 (fun H locs hw hS => ?_)
              refine lv_iinc (v := x3 + nI 1) (lv' := [(3, .int (x3 + nI 1)), (4, va_rf r4), (0, va_rf (some b)), (1, va_rf o1), (2, .int x2)]) hx hb d_E_demand_76 hl (k := 4) rfl rfl (by decide) rfl (fun ls hl => ?_)
              refine lv_goto (tgt := 7) hx hb d_E_demand_79 (by decide) ?_
              rw [hK7] at hB
              exact hB _ _ _ hg hw hS (lv_sub hl [2, 3, 4, 0] rfl) ha1 ha2

set_option maxHeartbeats 4000000 in
set_option maxRecDepth 100000 in
theorem c_E_isAmongFirst (l : Launch) (D : va_G) (B : Nat) (b : Nat) (x1 : Int32) (σ : St) (Q : Int32 → St → Prop) (h : P_E_isAmongFirst b x1 σ Q) : zM l y_E_isAmongFirst b_E_isAmongFirst 2 (some (.boolean)) (rm_E_isAmongFirst) D B [.ref b, .int x1] σ (zQi Q) := by
  refine zM.ofW (own := "LawWorlds$Search") (by decide +kernel) rfl (Nat.le_of_ble_eq_true rfl) ?_
  intro p e s m args below meth c ls hx hb hml hr hlocks hname hC hwk hw hS hl
  obtain ⟨σ0, eσ⟩ : ∃ z, z = σ := ⟨_, rfl⟩
  have hg : gr σ0 σ := by rw [eσ]; exact gr.rf
  have hl : lv_has ls 2 [(0, va_rf (some b)), (1, .int x1)] := hl
  obtain ⟨hsb, hB⟩ := h
  have hsb0 : s_s σ0 b = some (.inl 6) := by rw [eσ]; exact hsb
  rw [← eσ]
  skip
  refine zr_aload_n (o := some b) hx hb d_E_isAmongFirst_0 rfl (lv_at hl 0 rfl) ?_
  refine zr_get (v := .int (s_i σ b 6)) hx hb hC hw rfl hsb fl_E_62 rfl d_E_isAmongFirst_1 ?_
  refine lv_bipush (v := nI 12) hx hb d_E_isAmongFirst_4 (by decide) ?_
  refine lv_icmp_lt (tgt := 20) hx hb d_E_isAmongFirst_6 (by decide) (fun cd => ?_) (fun cd => ?_)
  · have hB := hB.1 cd
    refine lv_iconst (v := nI 1) hx hb d_E_isAmongFirst_20 (by decide) ?_
    refine lv_goto (tgt := 25) hx hb d_E_isAmongFirst_21 (by decide) ?_
    exact zr_zret hx hb hr hlocks (Or.inr rfl) hB hg hw hS d_E_isAmongFirst_25
  · have hB := hB.2 cd
    refine lv_iload_n hx hb d_E_isAmongFirst_9 rfl (lv_at hl 1 rfl) ?_
    refine zr_aload_n (o := some b) hx hb d_E_isAmongFirst_10 rfl (lv_at hl 0 rfl) ?_
    refine zr_get (v := va_rf (s_r σ b 5)) hx hb hC hw rfl hsb fl_E_35 rfl d_E_isAmongFirst_11 ?_
    refine lv_bipush (v := nI 11) hx hb d_E_isAmongFirst_14 (by decide) ?_
    obtain ⟨q1, n1, j2, ho, hs, hin, hj, hB⟩ := hB
    refine zr_iald hx hb hw ho hs hin hj d_E_isAmongFirst_16 ?_
    refine lv_icmp_ge (tgt := 24) hx hb d_E_isAmongFirst_17 (by decide) (fun cd => ?_) (fun cd => ?_)
    · have hB := hB.1 cd
      refine lv_iconst (v := nI 0) hx hb d_E_isAmongFirst_24 (by decide) ?_
      exact zr_zret hx hb hr hlocks (Or.inl rfl) hB hg hw hS d_E_isAmongFirst_25
    · have hB := hB.2 cd
      refine lv_iconst (v := nI 1) hx hb d_E_isAmongFirst_20 (by decide) ?_
      refine lv_goto (tgt := 25) hx hb d_E_isAmongFirst_21 (by decide) ?_
      exact zr_zret hx hb hr hlocks (Or.inr rfl) hB hg hw hS d_E_isAmongFirst_25

set_option maxHeartbeats 4000000 in
set_option maxRecDepth 100000 in
theorem c_E_isModel (l : Launch) (D : va_G) (B : Nat) (b : Nat) (x1 : Int32) (σ : St) (Q : Int32 → St → Prop) (h : P_E_isModel b x1 σ Q) : zM l y_E_isModel b_E_isModel 4 (some (.boolean)) (rm_E_isModel) D B [.ref b, .int x1] σ (zQi Q) := by
  refine zM.ofW (own := "LawWorlds$Search") (by decide +kernel) rfl (Nat.le_of_ble_eq_true rfl) ?_
  intro p e s m args below meth c ls hx hb hml hr hlocks hname hC hwk hw hS hl
  obtain ⟨σ0, eσ⟩ : ∃ z, z = σ := ⟨_, rfl⟩
  have hg : gr σ0 σ := by rw [eσ]; exact gr.rf
  have hl : lv_has ls 4 [(0, va_rf (some b)), (1, .int x1)] := hl
  obtain ⟨hsb, hB⟩ := h
  have hsb0 : s_s σ0 b = some (.inl 6) := by rw [eσ]; exact hsb
  rw [← eσ]
  skip
  obtain ⟨K2, hK2⟩ : ∃ K : Int32 → Int32 → St → Prop, K = (fun (x1 : Int32) (x2 : Int32) (σ : St) => ∀ (H : Heap) (locs : List Loc) (ls : Array Slot), gr σ0 σ → wh D B σ s H → va_S (zA B) s.heap H locs → lv_has ls 4 [(0, va_rf (some b)), (1, .int x1), (2, .int x2)] → W p l e (rm_E_isModel) s m args below meth c H locs 0 0 (MQ below (zQ D B σ0 (zQi Q)) args s (rm_E_isModel).cells (rm_E_isModel).slots (zA B)) (F0 m 2 ls [])) := ⟨_, rfl⟩
  refine (fun hB => ?_) (hB K2 ?_)
  · skip
    refine lv_iconst (v := nI 0) hx hb d_E_isModel_0 (by decide) ?_
    refine lv_istore_n (lv' := [(2, .int (nI 0)), (0, va_rf (some b)), (1, .int x1)]) hx hb d_E_isModel_1 rfl hl (by decide) rfl (fun ls hl => ?_)
    rw [hK2] at hB
    exact hB _ _ _ hg hw hS (lv_sub hl [1, 2, 0] rfl)
  · intro x1 x2 σ hB
    rw [hK2]
    intro H locs ls hg hw hS hl
    have hsb := hg _ _ hsb0
    refine lv_iload_n hx hb d_E_isModel_2 rfl (lv_at hl 2 rfl) ?_
    refine zr_aload_n (o := some b) hx hb d_E_isModel_3 rfl (lv_at hl 0 rfl) ?_
    refine zr_get (v := .int (s_i σ b 3)) hx hb hC hw rfl hsb fl_E_89 rfl d_E_isModel_4 ?_
    refine lv_icmp_ge (tgt := 37) hx hb d_E_isModel_7 (by decide) (fun cd => ?_) (fun cd => ?_)
    · have hB := hB.1 cd
      refine lv_iconst (v := nI 1) hx hb d_E_isModel_37 (by decide) ?_
      exact zr_zret hx hb hr hlocks (Or.inr rfl) hB hg hw hS d_E_isModel_38
    · have hB := hB.2 cd
      refine zr_aload_n (o := some b) hx hb d_E_isModel_10 rfl (lv_at hl 0 rfl) ?_
      refine zr_get (v := va_rf (s_r σ b 2)) hx hb hC hw rfl hsb fl_E_27 rfl d_E_isModel_11 ?_
      refine lv_iload_n hx hb d_E_isModel_14 rfl (lv_at hl 2 rfl) ?_
      obtain ⟨q1, n1, j2, ho, hs, hin, hj, hB⟩ := hB
      refine zr_aald hx hb hw ho hs ⟨_, rfl⟩ hin hj d_E_isModel_15 ?_
      refine zr_astore_n (lv' := [(3, va_rf (s_r σ q1 j2)), (0, va_rf (some b)), (1, .int x1), (2, .int x2)]) hx hb d_E_isModel_16 rfl hl (by decide) rfl (fun ls hl => ?_)
      refine zr_aload_n (o := s_r σ q1 j2) hx hb d_E_isModel_17 rfl (lv_at hl 0 rfl) ?_
      refine zr_ifnull (tgt := 31) hx hb d_E_isModel_18 (by decide) (fun cd => ?_) (fun cd => ?_)
      · have hB := hB.1 cd
        refine lv_iinc (v := x2 + nI 1) (lv' := [(2, .int (x2 + nI 1)), (3, va_rf (s_r σ q1 j2)), (0, va_rf (some b)), (1, .int x1)]) hx hb d_E_isModel_31 hl (k := 3) rfl rfl (by decide) rfl (fun ls hl => ?_)
        refine lv_goto (tgt := 2) hx hb d_E_isModel_34 (by decide) ?_
        rw [hK2] at hB
        exact hB _ _ _ hg hw hS (lv_sub hl [2, 3, 0] rfl)
      · have hB := hB.2 cd
        refine zr_aload_n (o := s_r σ q1 j2) hx hb d_E_isModel_21 rfl (lv_at hl 0 rfl) ?_
        refine lv_iload_n hx hb d_E_isModel_22 rfl (lv_at hl 2 rfl) ?_
        obtain ⟨q3, ho3, hB⟩ := hB
        have hsr := And.left hB
        refine zr_callV (ci := 4) (As := [.int x1]) (rest := []) hx hb hml hC hwk hw hS hl.1 (c_L_brokenAt l D B q3 x1 σ _ hB) mk_L_brokenAt mi_L_brokenAt ms_L_brokenAt ml_E_76 ⟨Nat.le_of_ble_eq_true rfl, Nat.le_of_ble_eq_true rfl⟩ ho3 hsr rfl (cat_8 cat_n (Nat.le_of_ble_eq_true rfl)) d_E_isModel_23 ⟨Nat.le_refl _, Nat.le_refl _⟩ rfl (fun v σ4 H locs hp hgn hw hS => ?_)
        have hg := hg.tr hgn
        have hsb := hgn _ _ hsb
        obtain ⟨r5, rfl, hB⟩ := hp
        refine W.eq (g2 := F0 m 26 ls [.int r5]) rfl ?_
        refine lv_if_le (tgt := 31) hx hb d_E_isModel_26 (by decide) (fun cd => ?_) (fun cd => ?_)
        · have hB := hB.1 cd
          refine lv_iinc (v := x2 + nI 1) (lv' := [(2, .int (x2 + nI 1)), (3, va_rf (s_r σ q1 j2)), (0, va_rf (some b)), (1, .int x1)]) hx hb d_E_isModel_31 hl (k := 3) rfl rfl (by decide) rfl (fun ls hl => ?_)
          refine lv_goto (tgt := 2) hx hb d_E_isModel_34 (by decide) ?_
          rw [hK2] at hB
          exact hB _ _ _ hg hw hS (lv_sub hl [2, 3, 0] rfl)
        · have hB := hB.2 cd
          refine lv_iconst (v := nI 0) hx hb d_E_isModel_29 (by decide) ?_
          exact zr_zret hx hb hr hlocks (Or.inl rfl) hB hg hw hS d_E_isModel_30

set_option maxHeartbeats 4000000 in
set_option maxRecDepth 100000 in
theorem c_E_tell (l : Launch) (D : va_G) (B : Nat) (b : Nat) (x1 : Int32) (x2 : Int32) (σ : St) (Q : St → Prop) (h : P_E_tell b x1 x2 σ Q) : zM l y_E_tell b_E_tell 4 none (rm_E_tell) D B [.ref b, .int x1, .int x2] σ (zQv Q) := by
  refine zM.ofW (own := "LawWorlds$Search") (by decide +kernel) rfl (Nat.le_of_ble_eq_true rfl) ?_
  intro p e s m args below meth c ls hx hb hml hr hlocks hname hC hwk hw hS hl
  obtain ⟨σ0, eσ⟩ : ∃ z, z = σ := ⟨_, rfl⟩
  have hg : gr σ0 σ := by rw [eσ]; exact gr.rf
  have hl : lv_has ls 4 [(0, va_rf (some b)), (1, .int x1), (2, .int x2)] := hl
  obtain ⟨hsb, hB⟩ := h
  have hsb0 : s_s σ0 b = some (.inl 6) := by rw [eσ]; exact hsb
  rw [← eσ]
  skip
  obtain ⟨K19, hK19⟩ : ∃ K : Int32 → Int32 → Int32 → St → Prop, K = (fun (x1 : Int32) (x2 : Int32) (x3 : Int32) (σ : St) => ∀ (H : Heap) (locs : List Loc) (ls : Array Slot), gr σ0 σ → wh D B σ s H → va_S (zA B) s.heap H locs → lv_has ls 4 [(0, va_rf (some b)), (1, .int x1), (2, .int x2), (3, .int x3)] → W p l e (rm_E_tell) s m args below meth c H locs 0 0 (MQ below (zQ D B σ0 (zQv Q)) args s (rm_E_tell).cells (rm_E_tell).slots (zA B)) (F0 m 19 ls [])) := ⟨_, rfl⟩
  refine (fun hB => ?_) (hB K19 ?_)
  · skip
    refine zr_aload_n (o := some b) hx hb d_E_tell_0 rfl (lv_at hl 0 rfl) ?_
    refine zr_get (v := .int (s_i σ b 6)) hx hb hC hw rfl hsb fl_E_62 rfl d_E_tell_1 ?_
    refine lv_bipush (v := nI 12) hx hb d_E_tell_4 (by decide) ?_
    refine lv_icmp_ge (tgt := 16) hx hb d_E_tell_6 (by decide) (fun cd => ?_) (fun cd => ?_)
    · have hB := hB.1 cd
      refine lv_bipush (v := nI 11) hx hb d_E_tell_16 (by decide) ?_
      refine lv_istore_n (lv' := [(3, .int (nI 11)), (0, va_rf (some b)), (1, .int x1), (2, .int x2)]) hx hb d_E_tell_18 rfl hl (by decide) rfl (fun ls hl => ?_)
      rw [hK19] at hB
      exact hB _ _ _ hg hw hS (lv_sub hl [1, 2, 3, 0] rfl)
    · have hB := hB.2 cd
      refine zr_aload_n (o := some b) hx hb d_E_tell_9 rfl (lv_at hl 0 rfl) ?_
      refine zr_get (v := .int (s_i σ b 6)) hx hb hC hw rfl hsb fl_E_62 rfl d_E_tell_10 ?_
      refine lv_goto (tgt := 18) hx hb d_E_tell_13 (by decide) ?_
      refine lv_istore_n (lv' := [(3, .int (s_i σ b 6)), (0, va_rf (some b)), (1, .int x1), (2, .int x2)]) hx hb d_E_tell_18 rfl hl (by decide) rfl (fun ls hl => ?_)
      rw [hK19] at hB
      exact hB _ _ _ hg hw hS (lv_sub hl [1, 2, 3, 0] rfl)
  · intro x1 x2 x3 σ hB
    rw [hK19]
    intro H locs ls hg hw hS hl
    have hsb := hg _ _ hsb0
    refine lv_iload_n hx hb d_E_tell_19 rfl (lv_at hl 3 rfl) ?_
    refine lv_if_le (tgt := 69) hx hb d_E_tell_20 (by decide) (fun cd => ?_) (fun cd => ?_)
    · have hB := hB.1 cd
      refine zr_aload_n (o := some b) hx hb d_E_tell_69 rfl (lv_at hl 0 rfl) ?_
      refine zr_get (v := va_rf (s_r σ b 4)) hx hb hC hw rfl hsb fl_E_31 rfl d_E_tell_70 ?_
      refine lv_iload_n hx hb d_E_tell_73 rfl (lv_at hl 3 rfl) ?_
      refine lv_iload_n hx hb d_E_tell_74 rfl (lv_at hl 1 rfl) ?_
      obtain ⟨q1, n1, j2, ho, hs, hin, hj, hB⟩ := hB
      refine zr_iast hx hb hw hS ho hs hin hj d_E_tell_75 (fun H locs hw hS => ?_)
      refine zr_aload_n (o := some b) hx hb d_E_tell_76 rfl (lv_at hl 0 rfl) ?_
      refine zr_get (v := va_rf (s_r (w_i σ q1 j2 x1) b 5)) hx hb hC hw rfl hsb fl_E_35 rfl d_E_tell_77 ?_
      refine lv_iload_n hx hb d_E_tell_80 rfl (lv_at hl 3 rfl) ?_
      refine lv_iload_n hx hb d_E_tell_81 rfl (lv_at hl 2 rfl) ?_
      obtain ⟨q3, n3, j4, ho, hs, hin, hj, hB⟩ := hB
      refine zr_iast hx hb hw hS ho hs hin hj d_E_tell_82 (fun H locs hw hS => ?_)
      refine zr_aload_n (o := some b) hx hb d_E_tell_83 rfl (lv_at hl 0 rfl) ?_
      refine zr_aload_n (o := some b) hx hb d_E_tell_84 rfl (lv_at hl 0 rfl) ?_
      refine zr_get (v := .int (s_i (w_i (w_i σ q1 j2 x1) q3 j4 x2) b 6)) hx hb hC hw rfl hsb fl_E_62 rfl d_E_tell_85 ?_
      refine lv_iconst (v := nI 1) hx hb d_E_tell_88 (by decide) ?_
      refine lv_iadd hx hb d_E_tell_89 ?_
      refine lv_bipush (v := nI 12) hx hb d_E_tell_90 (by decide) ?_
      refine zr_min hx hb (hml.trans hl.1.symm) hC ml_E_122 (Nat.le_of_ble_eq_true rfl) (Nat.le_of_ble_eq_true rfl) (cat_8 (cat_c (va_rf_cat _) cat_n) (Nat.le_of_ble_eq_true rfl)) (Nat.zero_le _) (Nat.zero_le _) d_E_tell_92 ?_
      refine zr_putI hx hb hC hw hS rfl hsb fl_E_62 rfl rfl d_E_tell_95 (fun H locs hw hS => ?_)
      exact zr_vret hx hb hr hlocks hB hg hw hS d_E_tell_98
    · have hB := hB.2 cd
      refine zr_aload_n (o := some b) hx hb d_E_tell_23 rfl (lv_at hl 0 rfl) ?_
      refine zr_get (v := va_rf (s_r σ b 5)) hx hb hC hw rfl hsb fl_E_35 rfl d_E_tell_24 ?_
      refine lv_iload_n hx hb d_E_tell_27 rfl (lv_at hl 3 rfl) ?_
      refine lv_iconst (v := nI 1) hx hb d_E_tell_28 (by decide) ?_
      refine lv_isub hx hb d_E_tell_29 ?_
      obtain ⟨q5, n5, j6, ho, hs, hin, hj, hB⟩ := hB
      refine zr_iald hx hb hw ho hs hin hj d_E_tell_30 ?_
      refine lv_iload_n hx hb d_E_tell_31 rfl (lv_at hl 2 rfl) ?_
      refine lv_icmp_le (tgt := 69) hx hb d_E_tell_32 (by decide) (fun cd => ?_) (fun cd => ?_)
      · have hB := hB.1 cd
        refine zr_aload_n (o := some b) hx hb d_E_tell_69 rfl (lv_at hl 0 rfl) ?_
        refine zr_get (v := va_rf (s_r σ b 4)) hx hb hC hw rfl hsb fl_E_31 rfl d_E_tell_70 ?_
        refine lv_iload_n hx hb d_E_tell_73 rfl (lv_at hl 3 rfl) ?_
        refine lv_iload_n hx hb d_E_tell_74 rfl (lv_at hl 1 rfl) ?_
        obtain ⟨q7, n7, j8, ho, hs, hin, hj, hB⟩ := hB
        refine zr_iast hx hb hw hS ho hs hin hj d_E_tell_75 (fun H locs hw hS => ?_)
        refine zr_aload_n (o := some b) hx hb d_E_tell_76 rfl (lv_at hl 0 rfl) ?_
        refine zr_get (v := va_rf (s_r (w_i σ q7 j8 x1) b 5)) hx hb hC hw rfl hsb fl_E_35 rfl d_E_tell_77 ?_
        refine lv_iload_n hx hb d_E_tell_80 rfl (lv_at hl 3 rfl) ?_
        refine lv_iload_n hx hb d_E_tell_81 rfl (lv_at hl 2 rfl) ?_
        obtain ⟨q9, n9, j10, ho, hs, hin, hj, hB⟩ := hB
        refine zr_iast hx hb hw hS ho hs hin hj d_E_tell_82 (fun H locs hw hS => ?_)
        refine zr_aload_n (o := some b) hx hb d_E_tell_83 rfl (lv_at hl 0 rfl) ?_
        refine zr_aload_n (o := some b) hx hb d_E_tell_84 rfl (lv_at hl 0 rfl) ?_
        refine zr_get (v := .int (s_i (w_i (w_i σ q7 j8 x1) q9 j10 x2) b 6)) hx hb hC hw rfl hsb fl_E_62 rfl d_E_tell_85 ?_
        refine lv_iconst (v := nI 1) hx hb d_E_tell_88 (by decide) ?_
        refine lv_iadd hx hb d_E_tell_89 ?_
        refine lv_bipush (v := nI 12) hx hb d_E_tell_90 (by decide) ?_
        refine zr_min hx hb (hml.trans hl.1.symm) hC ml_E_122 (Nat.le_of_ble_eq_true rfl) (Nat.le_of_ble_eq_true rfl) (cat_8 (cat_c (va_rf_cat _) cat_n) (Nat.le_of_ble_eq_true rfl)) (Nat.zero_le _) (Nat.zero_le _) d_E_tell_92 ?_
        refine zr_putI hx hb hC hw hS rfl hsb fl_E_62 rfl rfl d_E_tell_95 (fun H locs hw hS => ?_)
        exact zr_vret hx hb hr hlocks hB hg hw hS d_E_tell_98
      · have hB := hB.2 cd
        refine zr_aload_n (o := some b) hx hb d_E_tell_35 rfl (lv_at hl 0 rfl) ?_
        refine zr_get (v := va_rf (s_r σ b 4)) hx hb hC hw rfl hsb fl_E_31 rfl d_E_tell_36 ?_
        refine lv_iload_n hx hb d_E_tell_39 rfl (lv_at hl 3 rfl) ?_
        refine zr_aload_n (o := some b) hx hb d_E_tell_40 rfl (lv_at hl 0 rfl) ?_
        refine zr_get (v := va_rf (s_r σ b 4)) hx hb hC hw rfl hsb fl_E_31 rfl d_E_tell_41 ?_
        refine lv_iload_n hx hb d_E_tell_44 rfl (lv_at hl 3 rfl) ?_
        refine lv_iconst (v := nI 1) hx hb d_E_tell_45 (by decide) ?_
        refine lv_isub hx hb d_E_tell_46 ?_
        obtain ⟨q11, n11, j12, ho, hs, hin, hj, hB⟩ := hB
        refine zr_iald hx hb hw ho hs hin hj d_E_tell_47 ?_
        obtain ⟨q13, n13, j14, ho, hs, hin, hj, hB⟩ := hB
        refine zr_iast hx hb hw hS ho hs hin hj d_E_tell_48 (fun H locs hw hS => ?_)
        refine zr_aload_n (o := some b) hx hb d_E_tell_49 rfl (lv_at hl 0 rfl) ?_
        refine zr_get (v := va_rf (s_r (w_i σ q13 j14 (s_i σ q11 j12)) b 5)) hx hb hC hw rfl hsb fl_E_35 rfl d_E_tell_50 ?_
        refine lv_iload_n hx hb d_E_tell_53 rfl (lv_at hl 3 rfl) ?_
        refine zr_aload_n (o := some b) hx hb d_E_tell_54 rfl (lv_at hl 0 rfl) ?_
        refine zr_get (v := va_rf (s_r (w_i σ q13 j14 (s_i σ q11 j12)) b 5)) hx hb hC hw rfl hsb fl_E_35 rfl d_E_tell_55 ?_
        refine lv_iload_n hx hb d_E_tell_58 rfl (lv_at hl 3 rfl) ?_
        refine lv_iconst (v := nI 1) hx hb d_E_tell_59 (by decide) ?_
        refine lv_isub hx hb d_E_tell_60 ?_
        obtain ⟨q15, n15, j16, ho, hs, hin, hj, hB⟩ := hB
        refine zr_iald hx hb hw ho hs hin hj d_E_tell_61 ?_
        obtain ⟨q17, n17, j18, ho, hs, hin, hj, hB⟩ := hB
        refine zr_iast hx hb hw hS ho hs hin hj d_E_tell_62 (fun H locs hw hS => ?_)
        refine lv_iinc (v := x3 + (-1)) (lv' := [(3, .int (x3 + (-1))), (0, va_rf (some b)), (1, .int x1), (2, .int x2)]) hx hb d_E_tell_63 hl (k := 3) rfl rfl (by decide) rfl (fun ls hl => ?_)
        refine lv_goto (tgt := 19) hx hb d_E_tell_66 (by decide) ?_
        rw [hK19] at hB
        exact hB _ _ _ hg hw hS (lv_sub hl [1, 2, 3, 0] rfl)

set_option maxHeartbeats 4000000 in
set_option maxRecDepth 100000 in
theorem c_E_findWitnesses (l : Launch) (D : va_G) (B : Nat) (b : Nat) (o1 : Option Nat) (x2 : Int32) (σ : St) (mc : Nat) (ms : Nat) (Q : Int32 → St → Prop) (h : P_E_findWitnesses b o1 x2 σ mc ms Q) : zM l y_E_findWitnesses b_E_findWitnesses 6 (some (.int)) (rm_E_findWitnesses mc ms) D B [.ref b, va_rf o1, .int x2] σ (zQi Q) := by
  refine zM.ofW (own := "LawWorlds$Search") (by decide +kernel) rfl (lg_c rfl (lg_c (va_rf_cat _) (lg_c rfl lg_0))) ?_
  intro p e s m args below meth c ls hx hb hml hr hlocks hname hC hwk hw hS hl
  obtain ⟨σ0, eσ⟩ : ∃ z, z = σ := ⟨_, rfl⟩
  have hg : gr σ0 σ := by rw [eσ]; exact gr.rf
  rw [lv_args_c rfl, lv_args_c (va_rf_cat _), lv_args_c rfl] at hl
  have hl : lv_has ls 6 [(0, va_rf (some b)), (1, va_rf o1), (2, .int x2)] := hl
  have ha1 : 0 ≤ mc := Nat.zero_le _
  have ha2 : 0 ≤ ms := Nat.zero_le _
  obtain ⟨hsb, hB⟩ := h
  have hsb0 : s_s σ0 b = some (.inl 6) := by rw [eσ]; exact hsb
  rw [← eσ]
  skip
  obtain ⟨K38, hK38⟩ : ∃ K : Option Nat → Int32 → St → Nat → Nat → Prop, K = (fun (o3 : Option Nat) (x4 : Int32) (σ : St) (ca : Nat) (cb : Nat) => ∀ (H : Heap) (locs : List Loc) (ls : Array Slot), gr σ0 σ → wh D B σ s H → va_S (zA B) s.heap H locs → lv_has ls 6 [(0, va_rf (some b)), (3, va_rf o3), (4, .int x4)] → ca ≤ mc → cb ≤ ms → W p l e (rm_E_findWitnesses mc ms) s m args below meth c H locs ca cb (MQ below (zQ D B σ0 (zQi Q)) args s (rm_E_findWitnesses mc ms).cells (rm_E_findWitnesses mc ms).slots (zA B)) (F0 m 38 ls [])) := ⟨_, rfl⟩
  refine (fun hB => ?_) (hB K38 ?_)
  · skip
    refine zr_aload_n (o := some b) hx hb d_E_findWitnesses_0 rfl (lv_at hl 0 rfl) ?_
    refine lv_iconst (v := nI 0) hx hb d_E_findWitnesses_1 (by decide) ?_
    refine zr_putI hx hb hC hw hS rfl hsb fl_E_62 rfl rfl d_E_findWitnesses_2 (fun H locs hw hS => ?_)
    refine zr_aload_n (o := o1) hx hb d_E_findWitnesses_5 rfl (lv_at hl 1 rfl) ?_
    refine lv_iload_n hx hb d_E_findWitnesses_6 rfl (lv_at hl 2 rfl) ?_
    obtain ⟨q9, ho9, hB⟩ := hB
    have hsr := And.left hB
    refine zr_callV (ci := 1) (As := [.int x2]) (rest := []) hx hb hml hC hwk hw hS hl.1 (c_S_lawAt l D B q9 x2 (w_i σ b 6 (nI 0)) _ hB) mk_S_lawAt mi_S_lawAt ms_S_lawAt ml_E_66 ⟨Nat.le_of_ble_eq_true rfl, Nat.le_of_ble_eq_true rfl⟩ ho9 hsr rfl (cat_8 cat_n (Nat.le_of_ble_eq_true rfl)) d_E_findWitnesses_7 ⟨ha1, ha2⟩ rfl (fun v σ10 H locs hp hgn hw hS => ?_)
    have hg := hg.tr hgn
    have hsb := hgn _ _ hsb
    obtain ⟨r11, rfl, hB⟩ := hp
    refine W.eq (g2 := F0 m 10 ls [va_rf r11]) rfl ?_
    refine zr_astore_n (lv' := [(3, va_rf r11), (0, va_rf (some b)), (1, va_rf o1), (2, .int x2)]) hx hb d_E_findWitnesses_10 rfl hl (by decide) rfl (fun ls hl => ?_)
    refine zr_aload_n (o := r11) hx hb d_E_findWitnesses_11 rfl (lv_at hl 0 rfl) ?_
    refine zr_ifnonnull (tgt := 17) hx hb d_E_findWitnesses_12 (by decide) (fun cd => ?_) (fun cd => ?_)
    · have hB := hB.2 cd
      refine zr_aload_n (o := some b) hx hb d_E_findWitnesses_17 rfl (lv_at hl 1 rfl) ?_
      refine zr_get (v := va_rf (s_r σ10 b 1)) hx hb hC hw rfl hsb fl_E_21 rfl d_E_findWitnesses_18 ?_
      obtain ⟨q12, ho12, hB⟩ := hB
      obtain ⟨c13, d14, hc1, hc2, hB⟩ := hB
      have hsr := And.left hB
      refine zr_callV (ci := 7) (As := []) (rest := []) hx hb hml hC hwk hw hS hl.1 (c_P_list l D B q12 σ10 c13 d14 _ hB) mk_P_list mi_P_list ms_P_list ml_E_38 ⟨Nat.le_of_ble_eq_true rfl, Nat.le_of_ble_eq_true rfl⟩ ho12 hsr rfl (cat_8 cat_n (Nat.le_of_ble_eq_true rfl)) d_E_findWitnesses_21 ⟨hc1, hc2⟩ rfl (fun v σ15 H locs hp hgn hw hS => ?_)
      have hg := hg.tr hgn
      have hsb := hgn _ _ hsb
      have ha1 := hc1
      have ha2 := hc2
      obtain ⟨rfl, hB⟩ := hp
      refine W.eq (g2 := F0 m 24 ls []) rfl ?_
      refine zr_aload_n (o := some b) hx hb d_E_findWitnesses_24 rfl (lv_at hl 1 rfl) ?_
      refine zr_aload_n (o := o1) hx hb d_E_findWitnesses_25 rfl (lv_at hl 2 rfl) ?_
      refine lv_iload_n hx hb d_E_findWitnesses_26 rfl (lv_at hl 3 rfl) ?_
      obtain ⟨c16, d17, hc1, hc2, hB⟩ := hB
      have hsr := And.left hB
      refine zr_callV (ci := 6) (As := [va_rf o1, .int x2]) (rest := []) hx hb hml hC hwk hw hS hl.1 (c_E_demand l D B b o1 x2 σ15 c16 d17 _ hB) mk_E_demand mi_E_demand ms_E_demand ml_E_41 ⟨Nat.le_of_ble_eq_true rfl, Nat.le_of_ble_eq_true rfl⟩ rfl hsr rfl (cat_8 cat_n (Nat.le_of_ble_eq_true rfl)) d_E_findWitnesses_27 ⟨hc1, hc2⟩ rfl (fun v σ18 H locs hp hgn hw hS => ?_)
      have hg := hg.tr hgn
      have hsb := hgn _ _ hsb
      have ha1 := hc1
      have ha2 := hc2
      obtain ⟨rfl, hB⟩ := hp
      refine W.eq (g2 := F0 m 30 ls []) rfl ?_
      refine zr_aload_n (o := some b) hx hb d_E_findWitnesses_30 rfl (lv_at hl 1 rfl) ?_
      refine zr_aload_n (o := r11) hx hb d_E_findWitnesses_31 rfl (lv_at hl 0 rfl) ?_
      obtain ⟨c19, d20, hc1, hc2, hB⟩ := hB
      have hsr := And.left hB
      refine zr_callV (ci := 6) (As := [va_rf r11]) (rest := []) hx hb hml hC hwk hw hS hl.1 (c_E_countBroken l D B b r11 σ18 c19 d20 _ hB) mk_E_countBroken mi_E_countBroken ms_E_countBroken ml_E_72 ⟨Nat.le_of_ble_eq_true rfl, Nat.le_of_ble_eq_true rfl⟩ rfl hsr rfl (cat_8 cat_n (Nat.le_of_ble_eq_true rfl)) d_E_findWitnesses_32 ⟨hc1, hc2⟩ rfl (fun v σ21 H locs hp hgn hw hS => ?_)
      have hg := hg.tr hgn
      have hsb := hgn _ _ hsb
      have ha1 := hc1
      have ha2 := hc2
      obtain ⟨rfl, hB⟩ := hp
      refine W.eq (g2 := F0 m 35 ls []) rfl ?_
      refine lv_iconst (v := nI 0) hx hb d_E_findWitnesses_35 (by decide) ?_
      refine lv_istore (lv' := [(4, .int (nI 0)), (3, va_rf r11), (0, va_rf (some b)), (1, va_rf o1), (2, .int x2)]) hx hb d_E_findWitnesses_36 hl (by decide) (congrArg (List.cons _) (fl_k rfl (va_rf_cat _) (fl_k rfl (va_rf_cat _) (fl_k rfl (va_rf_cat _) (fl_k rfl rfl fl_n))))) (fun ls hl => ?_)
      rw [hK38] at hB
      exact hB _ _ _ hg hw hS (lv_sub hl [2, 1, 0] rfl) ha1 ha2
    · have hB := hB.1 cd
      refine lv_iconst (v := nI 0) hx hb d_E_findWitnesses_15 (by decide) ?_
      refine W.widen (k := mc) (n := ms) ha1 ha2 ?_
      exact zr_iret hx hb hr hlocks hB hg hw hS d_E_findWitnesses_16
  · intro o3 x4 σ ca cb hB
    rw [hK38]
    intro H locs ls hg hw hS hl ha1 ha2
    have hsb := hg _ _ hsb0
    refine lv_iload hx hb d_E_findWitnesses_38 (lv_at hl 2 rfl) ?_
    refine lv_sipush (v := nI 3341) hx hb d_E_findWitnesses_40 (by decide) ?_
    refine lv_icmp_ge (tgt := 91) hx hb d_E_findWitnesses_43 (by decide) (fun cd => ?_) (fun cd => ?_)
    · have hB := hB.1 cd
      refine zr_aload_n (o := some b) hx hb d_E_findWitnesses_91 rfl (lv_at hl 0 rfl) ?_
      refine zr_get (v := .int (s_i σ b 6)) hx hb hC hw rfl hsb fl_E_62 rfl d_E_findWitnesses_92 ?_
      refine W.widen (k := mc) (n := ms) ha1 ha2 ?_
      exact zr_iret hx hb hr hlocks hB hg hw hS d_E_findWitnesses_95
    · have hB := hB.2 cd
      refine zr_aload_n (o := o3) hx hb d_E_findWitnesses_46 rfl (lv_at hl 1 rfl) ?_
      refine lv_iload hx hb d_E_findWitnesses_47 (lv_at hl 2 rfl) ?_
      obtain ⟨q1, ho1, hB⟩ := hB
      have hsr := And.left hB
      refine zr_callV (ci := 4) (As := [.int x4]) (rest := []) hx hb hml hC hwk hw hS hl.1 (c_L_brokenAt l D B q1 x4 σ _ hB) mk_L_brokenAt mi_L_brokenAt ms_L_brokenAt ml_E_76 ⟨Nat.le_of_ble_eq_true rfl, Nat.le_of_ble_eq_true rfl⟩ ho1 hsr rfl (cat_8 cat_n (Nat.le_of_ble_eq_true rfl)) d_E_findWitnesses_49 ⟨ha1, ha2⟩ rfl (fun v σ2 H locs hp hgn hw hS => ?_)
      have hg := hg.tr hgn
      have hsb := hgn _ _ hsb
      obtain ⟨r3, rfl, hB⟩ := hp
      refine W.eq (g2 := F0 m 52 ls [.int r3]) rfl ?_
      refine lv_istore (lv' := [(5, .int r3), (0, va_rf (some b)), (3, va_rf o3), (4, .int x4)]) hx hb d_E_findWitnesses_52 hl (by decide) rfl (fun ls hl => ?_)
      refine lv_iload hx hb d_E_findWitnesses_54 (lv_at hl 0 rfl) ?_
      refine lv_if_le (tgt := 85) hx hb d_E_findWitnesses_56 (by decide) (fun cd => ?_) (fun cd => ?_)
      · have hB := hB.1 cd
        refine lv_iinc (v := x4 + nI 1) (lv' := [(4, .int (x4 + nI 1)), (5, .int r3), (0, va_rf (some b)), (3, va_rf o3)]) hx hb d_E_findWitnesses_85 hl (k := 3) rfl rfl (by decide) (congrArg (List.cons _) (fl_k rfl rfl (fl_k rfl (va_rf_cat _) (fl_k rfl (va_rf_cat _) (fl_d rfl fl_n))))) (fun ls hl => ?_)
        refine lv_goto (tgt := 38) hx hb d_E_findWitnesses_88 (by decide) ?_
        rw [hK38] at hB
        exact hB _ _ _ hg hw hS (lv_sub hl [2, 3, 0] rfl) ha1 ha2
      · have hB := hB.2 cd
        refine zr_aload_n (o := some b) hx hb d_E_findWitnesses_59 rfl (lv_at hl 1 rfl) ?_
        refine lv_iload hx hb d_E_findWitnesses_60 (lv_at hl 0 rfl) ?_
        have hsr := And.left hB
        refine zr_callV (ci := 6) (As := [.int r3]) (rest := []) hx hb hml hC hwk hw hS hl.1 (c_E_isAmongFirst l D B b r3 σ2 _ hB) mk_E_isAmongFirst mi_E_isAmongFirst ms_E_isAmongFirst ml_E_79 ⟨Nat.le_of_ble_eq_true rfl, Nat.le_of_ble_eq_true rfl⟩ rfl hsr rfl (cat_8 cat_n (Nat.le_of_ble_eq_true rfl)) d_E_findWitnesses_62 ⟨ha1, ha2⟩ rfl (fun v σ4 H locs hp hgn hw hS => ?_)
        have hg := hg.tr hgn
        have hsb := hgn _ _ hsb
        obtain ⟨r5, rfl, hB⟩ := hp
        refine W.eq (g2 := F0 m 65 ls [.int r5]) rfl ?_
        refine lv_if_eq (tgt := 85) hx hb d_E_findWitnesses_65 (by decide) (fun cd => ?_) (fun cd => ?_)
        · have hB := hB.1 cd
          refine lv_iinc (v := x4 + nI 1) (lv' := [(4, .int (x4 + nI 1)), (5, .int r3), (0, va_rf (some b)), (3, va_rf o3)]) hx hb d_E_findWitnesses_85 hl (k := 3) rfl rfl (by decide) (congrArg (List.cons _) (fl_k rfl rfl (fl_k rfl (va_rf_cat _) (fl_k rfl (va_rf_cat _) (fl_d rfl fl_n))))) (fun ls hl => ?_)
          refine lv_goto (tgt := 38) hx hb d_E_findWitnesses_88 (by decide) ?_
          rw [hK38] at hB
          exact hB _ _ _ hg hw hS (lv_sub hl [2, 3, 0] rfl) ha1 ha2
        · have hB := hB.2 cd
          refine zr_aload_n (o := some b) hx hb d_E_findWitnesses_68 rfl (lv_at hl 1 rfl) ?_
          refine lv_iload hx hb d_E_findWitnesses_69 (lv_at hl 3 rfl) ?_
          have hsr := And.left hB
          refine zr_callV (ci := 6) (As := [.int x4]) (rest := []) hx hb hml hC hwk hw hS hl.1 (c_E_isModel l D B b x4 σ4 _ hB) mk_E_isModel mi_E_isModel ms_E_isModel ml_E_52 ⟨Nat.le_of_ble_eq_true rfl, Nat.le_of_ble_eq_true rfl⟩ rfl hsr rfl (cat_8 cat_n (Nat.le_of_ble_eq_true rfl)) d_E_findWitnesses_71 ⟨ha1, ha2⟩ rfl (fun v σ6 H locs hp hgn hw hS => ?_)
          have hg := hg.tr hgn
          have hsb := hgn _ _ hsb
          obtain ⟨r7, rfl, hB⟩ := hp
          refine W.eq (g2 := F0 m 74 ls [.int r7]) rfl ?_
          refine lv_if_eq (tgt := 85) hx hb d_E_findWitnesses_74 (by decide) (fun cd => ?_) (fun cd => ?_)
          · have hB := hB.1 cd
            refine lv_iinc (v := x4 + nI 1) (lv' := [(4, .int (x4 + nI 1)), (5, .int r3), (0, va_rf (some b)), (3, va_rf o3)]) hx hb d_E_findWitnesses_85 hl (k := 3) rfl rfl (by decide) (congrArg (List.cons _) (fl_k rfl rfl (fl_k rfl (va_rf_cat _) (fl_k rfl (va_rf_cat _) (fl_d rfl fl_n))))) (fun ls hl => ?_)
            refine lv_goto (tgt := 38) hx hb d_E_findWitnesses_88 (by decide) ?_
            rw [hK38] at hB
            exact hB _ _ _ hg hw hS (lv_sub hl [2, 3, 0] rfl) ha1 ha2
          · have hB := hB.2 cd
            refine zr_aload_n (o := some b) hx hb d_E_findWitnesses_77 rfl (lv_at hl 1 rfl) ?_
            refine lv_iload hx hb d_E_findWitnesses_78 (lv_at hl 3 rfl) ?_
            refine lv_iload hx hb d_E_findWitnesses_80 (lv_at hl 0 rfl) ?_
            have hsr := And.left hB
            refine zr_callV (ci := 6) (As := [.int x4, .int r3]) (rest := []) hx hb hml hC hwk hw hS hl.1 (c_E_tell l D B b x4 r3 σ6 _ hB) mk_E_tell mi_E_tell ms_E_tell ml_E_82 ⟨Nat.le_of_ble_eq_true rfl, Nat.le_of_ble_eq_true rfl⟩ rfl hsr rfl (cat_8 cat_n (Nat.le_of_ble_eq_true rfl)) d_E_findWitnesses_82 ⟨ha1, ha2⟩ rfl (fun v σ8 H locs hp hgn hw hS => ?_)
            have hg := hg.tr hgn
            have hsb := hgn _ _ hsb
            obtain ⟨rfl, hB⟩ := hp
            refine W.eq (g2 := F0 m 85 ls []) rfl ?_
            refine lv_iinc (v := x4 + nI 1) (lv' := [(4, .int (x4 + nI 1)), (5, .int r3), (0, va_rf (some b)), (3, va_rf o3)]) hx hb d_E_findWitnesses_85 hl (k := 3) rfl rfl (by decide) (congrArg (List.cons _) (fl_k rfl rfl (fl_k rfl (va_rf_cat _) (fl_k rfl (va_rf_cat _) (fl_d rfl fl_n))))) (fun ls hl => ?_)
            refine lv_goto (tgt := 38) hx hb d_E_findWitnesses_88 (by decide) ?_
            rw [hK38] at hB
            exact hB _ _ _ hg hw hS (lv_sub hl [2, 3, 0] rfl) ha1 ha2

set_option maxHeartbeats 4000000 in
set_option maxRecDepth 100000 in
theorem c_E_witnessNumber (l : Launch) (D : va_G) (B : Nat) (b : Nat) (x1 : Int32) (x2 : Int32) (σ : St) (Q : Int32 → St → Prop) (h : P_E_witnessNumber b x1 x2 σ Q) : zM l y_E_witnessNumber b_E_witnessNumber 3 (some (.int)) (rm_E_witnessNumber) D B [.ref b, .int x1, .int x2] σ (zQi Q) := by
  refine zM.ofW (own := "LawWorlds$Search") (by decide +kernel) rfl (Nat.le_of_ble_eq_true rfl) ?_
  intro p e s m args below meth c ls hx hb hml hr hlocks hname hC hwk hw hS hl
  obtain ⟨σ0, eσ⟩ : ∃ z, z = σ := ⟨_, rfl⟩
  have hg : gr σ0 σ := by rw [eσ]; exact gr.rf
  have hl : lv_has ls 3 [(0, va_rf (some b)), (1, .int x1), (2, .int x2)] := hl
  obtain ⟨hsb, hB⟩ := h
  have hsb0 : s_s σ0 b = some (.inl 6) := by rw [eσ]; exact hsb
  rw [← eσ]
  skip
  refine lv_iload_n hx hb d_E_witnessNumber_0 rfl (lv_at hl 1 rfl) ?_
  refine lv_if_lt (tgt := 12) hx hb d_E_witnessNumber_1 (by decide) (fun cd => ?_) (fun cd => ?_)
  · have hB := hB.1 cd
    refine lv_bipush (v := (-5)) hx hb d_E_witnessNumber_12 (by decide) ?_
    exact zr_iret hx hb hr hlocks hB hg hw hS d_E_witnessNumber_14
  · have hB := hB.2 cd
    refine lv_iload_n hx hb d_E_witnessNumber_4 rfl (lv_at hl 1 rfl) ?_
    refine zr_aload_n (o := some b) hx hb d_E_witnessNumber_5 rfl (lv_at hl 0 rfl) ?_
    refine zr_get (v := .int (s_i σ b 6)) hx hb hC hw rfl hsb fl_E_62 rfl d_E_witnessNumber_6 ?_
    refine lv_icmp_lt (tgt := 15) hx hb d_E_witnessNumber_9 (by decide) (fun cd => ?_) (fun cd => ?_)
    · have hB := hB.1 cd
      refine lv_iload_n hx hb d_E_witnessNumber_15 rfl (lv_at hl 2 rfl) ?_
      refine lv_iconst (v := nI 2) hx hb d_E_witnessNumber_16 (by decide) ?_
      refine lv_icmp_ne (tgt := 27) hx hb d_E_witnessNumber_17 (by decide) (fun cd => ?_) (fun cd => ?_)
      · have hB := hB.2 cd
        refine lv_iload_n hx hb d_E_witnessNumber_27 rfl (lv_at hl 2 rfl) ?_
        refine lv_iconst (v := nI 1) hx hb d_E_witnessNumber_28 (by decide) ?_
        refine lv_icmp_ne (tgt := 48) hx hb d_E_witnessNumber_29 (by decide) (fun cd => ?_) (fun cd => ?_)
        · have hB := hB.2 cd
          refine zr_aload_n (o := some b) hx hb d_E_witnessNumber_48 rfl (lv_at hl 0 rfl) ?_
          refine zr_get (v := va_rf (s_r σ b 1)) hx hb hC hw rfl hsb fl_E_21 rfl d_E_witnessNumber_49 ?_
          refine zr_aload_n (o := some b) hx hb d_E_witnessNumber_52 rfl (lv_at hl 0 rfl) ?_
          refine zr_get (v := va_rf (s_r σ b 4)) hx hb hC hw rfl hsb fl_E_31 rfl d_E_witnessNumber_53 ?_
          refine lv_iload_n hx hb d_E_witnessNumber_56 rfl (lv_at hl 1 rfl) ?_
          obtain ⟨q1, n1, j2, ho, hs, hin, hj, hB⟩ := hB
          refine zr_iald hx hb hw ho hs hin hj d_E_witnessNumber_57 ?_
          obtain ⟨q3, ho3, hB⟩ := hB
          have hsr := And.left hB
          refine zr_callV (ci := 7) (As := [.int (s_i σ q1 j2)]) (rest := []) hx hb hml hC hwk hw hS hl.1 (c_P_sizeAt l D B q3 (s_i σ q1 j2) σ _ hB) mk_P_sizeAt mi_P_sizeAt ms_P_sizeAt ml_E_86 ⟨Nat.le_of_ble_eq_true rfl, Nat.le_of_ble_eq_true rfl⟩ ho3 hsr rfl (cat_8 cat_n (Nat.le_of_ble_eq_true rfl)) d_E_witnessNumber_58 ⟨Nat.le_refl _, Nat.le_refl _⟩ rfl (fun v σ4 H locs hp hgn hw hS => ?_)
          have hg := hg.tr hgn
          have hsb := hgn _ _ hsb
          obtain ⟨r5, rfl, hB⟩ := hp
          refine W.eq (g2 := F0 m 61 ls [.int r5]) rfl ?_
          exact zr_iret hx hb hr hlocks hB hg hw hS d_E_witnessNumber_61
        · have hB := hB.1 cd
          refine zr_aload_n (o := some b) hx hb d_E_witnessNumber_32 rfl (lv_at hl 0 rfl) ?_
          refine zr_get (v := va_rf (s_r σ b 1)) hx hb hC hw rfl hsb fl_E_21 rfl d_E_witnessNumber_33 ?_
          refine zr_aload_n (o := some b) hx hb d_E_witnessNumber_36 rfl (lv_at hl 0 rfl) ?_
          refine zr_get (v := va_rf (s_r σ b 4)) hx hb hC hw rfl hsb fl_E_31 rfl d_E_witnessNumber_37 ?_
          refine lv_iload_n hx hb d_E_witnessNumber_40 rfl (lv_at hl 1 rfl) ?_
          obtain ⟨q6, n6, j7, ho, hs, hin, hj, hB⟩ := hB
          refine zr_iald hx hb hw ho hs hin hj d_E_witnessNumber_41 ?_
          obtain ⟨q8, ho8, hB⟩ := hB
          have hsr := And.left hB
          refine zr_callV (ci := 7) (As := [.int (s_i σ q6 j7)]) (rest := []) hx hb hml hC hwk hw hS hl.1 (c_P_codeAt l D B q8 (s_i σ q6 j7) σ _ hB) mk_P_codeAt mi_P_codeAt ms_P_codeAt ml_E_59 ⟨Nat.le_of_ble_eq_true rfl, Nat.le_of_ble_eq_true rfl⟩ ho8 hsr rfl (cat_8 cat_n (Nat.le_of_ble_eq_true rfl)) d_E_witnessNumber_42 ⟨Nat.le_refl _, Nat.le_refl _⟩ rfl (fun v σ9 H locs hp hgn hw hS => ?_)
          have hg := hg.tr hgn
          have hsb := hgn _ _ hsb
          obtain ⟨r10, rfl, hB⟩ := hp
          refine W.eq (g2 := F0 m 45 ls [.int r10]) rfl ?_
          refine lv_goto (tgt := 61) hx hb d_E_witnessNumber_45 (by decide) ?_
          exact zr_iret hx hb hr hlocks hB hg hw hS d_E_witnessNumber_61
      · have hB := hB.1 cd
        refine zr_aload_n (o := some b) hx hb d_E_witnessNumber_20 rfl (lv_at hl 0 rfl) ?_
        refine zr_get (v := va_rf (s_r σ b 5)) hx hb hC hw rfl hsb fl_E_35 rfl d_E_witnessNumber_21 ?_
        refine lv_iload_n hx hb d_E_witnessNumber_24 rfl (lv_at hl 1 rfl) ?_
        obtain ⟨q11, n11, j12, ho, hs, hin, hj, hB⟩ := hB
        refine zr_iald hx hb hw ho hs hin hj d_E_witnessNumber_25 ?_
        exact zr_iret hx hb hr hlocks hB hg hw hS d_E_witnessNumber_26
    · have hB := hB.2 cd
      refine lv_bipush (v := (-5)) hx hb d_E_witnessNumber_12 (by decide) ?_
      exact zr_iret hx hb hr hlocks hB hg hw hS d_E_witnessNumber_14

set_option maxHeartbeats 4000000 in
set_option maxRecDepth 100000 in
theorem c_H_goBack (l : Launch) (D : va_G) (B : Nat) (b : Nat) (o1 : Option Nat) (σ : St) (Q : Int32 → St → Prop) (h : P_H_goBack b o1 σ Q) : zM l y_H_goBack b_H_goBack 2 (some (.boolean)) (rm_H_goBack) D B [.ref b, va_rf o1] σ (zQi Q) := by
  refine zM.ofW (own := "LawWorlds$History") (by decide +kernel) rfl (lg_c rfl (lg_c (va_rf_cat _) lg_0)) ?_
  intro p e s m args below meth c ls hx hb hml hr hlocks hname hC hwk hw hS hl
  obtain ⟨σ0, eσ⟩ : ∃ z, z = σ := ⟨_, rfl⟩
  have hg : gr σ0 σ := by rw [eσ]; exact gr.rf
  rw [lv_args_c rfl, lv_args_c (va_rf_cat _)] at hl
  have hl : lv_has ls 2 [(0, va_rf (some b)), (1, va_rf o1)] := hl
  obtain ⟨hsb, hB⟩ := h
  have hsb0 : s_s σ0 b = some (.inl 2) := by rw [eσ]; exact hsb
  rw [← eσ]
  skip
  refine zr_aload_n (o := some b) hx hb d_H_goBack_0 rfl (lv_at hl 0 rfl) ?_
  refine zr_get (v := .int (s_i σ b 2)) hx hb hC hw rfl hsb fl_H_22 rfl d_H_goBack_1 ?_
  refine lv_if_ne (tgt := 9) hx hb d_H_goBack_4 (by decide) (fun cd => ?_) (fun cd => ?_)
  · have hB := hB.2 cd
    refine zr_aload_n (o := some b) hx hb d_H_goBack_9 rfl (lv_at hl 0 rfl) ?_
    refine lv_dup hx hb d_H_goBack_10 (va_rf_cat _) ?_
    refine zr_get (v := .int (s_i σ b 2)) hx hb hC hw rfl hsb fl_H_22 rfl d_H_goBack_11 ?_
    refine lv_iconst (v := nI 1) hx hb d_H_goBack_14 (by decide) ?_
    refine lv_isub hx hb d_H_goBack_15 ?_
    refine zr_putI hx hb hC hw hS rfl hsb fl_H_22 rfl rfl d_H_goBack_16 (fun H locs hw hS => ?_)
    refine zr_aload_n (o := o1) hx hb d_H_goBack_19 rfl (lv_at hl 1 rfl) ?_
    refine zr_aload_n (o := some b) hx hb d_H_goBack_20 rfl (lv_at hl 0 rfl) ?_
    refine zr_get (v := va_rf (s_r (w_i σ b 2 ((s_i σ b 2) - (nI 1))) b 0)) hx hb hC hw rfl hsb fl_H_12 rfl d_H_goBack_21 ?_
    refine zr_aload_n (o := some b) hx hb d_H_goBack_24 rfl (lv_at hl 0 rfl) ?_
    refine zr_get (v := .int (s_i (w_i σ b 2 ((s_i σ b 2) - (nI 1))) b 2)) hx hb hC hw rfl hsb fl_H_22 rfl d_H_goBack_25 ?_
    obtain ⟨q1, n1, j2, ho, hs, hin, hj, hB⟩ := hB
    refine zr_aald hx hb hw ho hs ⟨_, rfl⟩ hin hj d_H_goBack_28 ?_
    obtain ⟨q3, ho3, hB⟩ := hB
    have hsr := And.left hB
    refine zr_callV (ci := 1) (As := [va_rf (s_r (w_i σ b 2 ((s_i σ b 2) - (nI 1))) q1 j2)]) (rest := []) hx hb hml hC hwk hw hS hl.1 (c_S_copyFrom l D B q3 (s_r (w_i σ b 2 ((s_i σ b 2) - (nI 1))) q1 j2) (w_i σ b 2 ((s_i σ b 2) - (nI 1))) _ hB) mk_S_copyFrom mi_S_copyFrom ms_S_copyFrom ml_H_29 ⟨Nat.le_of_ble_eq_true rfl, Nat.le_of_ble_eq_true rfl⟩ ho3 hsr rfl (cat_8 cat_n (Nat.le_of_ble_eq_true rfl)) d_H_goBack_29 ⟨Nat.le_refl _, Nat.le_refl _⟩ rfl (fun v σ4 H locs hp hgn hw hS => ?_)
    have hg := hg.tr hgn
    have hsb := hgn _ _ hsb
    obtain ⟨rfl, hB⟩ := hp
    refine W.eq (g2 := F0 m 32 ls []) rfl ?_
    refine lv_iconst (v := nI 1) hx hb d_H_goBack_32 (by decide) ?_
    exact zr_zret hx hb hr hlocks (Or.inr rfl) hB hg hw hS d_H_goBack_33
  · have hB := hB.1 cd
    refine lv_iconst (v := nI 0) hx hb d_H_goBack_7 (by decide) ?_
    exact zr_zret hx hb hr hlocks (Or.inl rfl) hB hg hw hS d_H_goBack_8

set_option maxHeartbeats 4000000 in
set_option maxRecDepth 100000 in
theorem c_H_takeSnapshot (l : Launch) (D : va_G) (B : Nat) (b : Nat) (o1 : Option Nat) (σ : St) (Q : St → Prop) (h : P_H_takeSnapshot b o1 σ Q) : zM l y_H_takeSnapshot b_H_takeSnapshot 2 none (rm_H_takeSnapshot) D B [.ref b, va_rf o1] σ (zQv Q) := by
  refine zM.ofW (own := "LawWorlds$History") (by decide +kernel) rfl (lg_c rfl (lg_c (va_rf_cat _) lg_0)) ?_
  intro p e s m args below meth c ls hx hb hml hr hlocks hname hC hwk hw hS hl
  obtain ⟨σ0, eσ⟩ : ∃ z, z = σ := ⟨_, rfl⟩
  have hg : gr σ0 σ := by rw [eσ]; exact gr.rf
  rw [lv_args_c rfl, lv_args_c (va_rf_cat _)] at hl
  have hl : lv_has ls 2 [(0, va_rf (some b)), (1, va_rf o1)] := hl
  obtain ⟨hsb, hB⟩ := h
  have hsb0 : s_s σ0 b = some (.inl 2) := by rw [eσ]; exact hsb
  rw [← eσ]
  skip
  refine zr_aload_n (o := some b) hx hb d_H_takeSnapshot_0 rfl (lv_at hl 0 rfl) ?_
  refine zr_get (v := va_rf (s_r σ b 1)) hx hb hC hw rfl hsb fl_H_18 rfl d_H_takeSnapshot_1 ?_
  refine zr_aload_n (o := o1) hx hb d_H_takeSnapshot_4 rfl (lv_at hl 1 rfl) ?_
  obtain ⟨q1, ho1, hB⟩ := hB
  have hsr := And.left hB
  refine zr_callV (ci := 1) (As := [va_rf o1]) (rest := []) hx hb hml hC hwk hw hS hl.1 (c_S_copyFrom l D B q1 o1 σ _ hB) mk_S_copyFrom mi_S_copyFrom ms_S_copyFrom ml_H_29 ⟨Nat.le_of_ble_eq_true rfl, Nat.le_of_ble_eq_true rfl⟩ ho1 hsr rfl (cat_8 cat_n (Nat.le_of_ble_eq_true rfl)) d_H_takeSnapshot_5 ⟨Nat.le_refl _, Nat.le_refl _⟩ rfl (fun v σ2 H locs hp hgn hw hS => ?_)
  have hg := hg.tr hgn
  have hsb := hgn _ _ hsb
  obtain ⟨rfl, hB⟩ := hp
  refine W.eq (g2 := F0 m 8 ls []) rfl ?_
  refine zr_aload_n (o := some b) hx hb d_H_takeSnapshot_8 rfl (lv_at hl 0 rfl) ?_
  refine lv_iconst (v := nI 1) hx hb d_H_takeSnapshot_9 (by decide) ?_
  refine zr_putZ hx hb hC hw hS rfl hsb fl_H_33 rfl rfl (Or.inr rfl) d_H_takeSnapshot_10 (fun H locs hw hS => ?_)
  exact zr_vret hx hb hr hlocks hB hg hw hS d_H_takeSnapshot_13

set_option maxHeartbeats 4000000 in
set_option maxRecDepth 100000 in
theorem c_H_bringSnapshot (l : Launch) (D : va_G) (B : Nat) (b : Nat) (o1 : Option Nat) (σ : St) (Q : St → Prop) (h : P_H_bringSnapshot b o1 σ Q) : zM l y_H_bringSnapshot b_H_bringSnapshot 2 none (rm_H_bringSnapshot) D B [.ref b, va_rf o1] σ (zQv Q) := by
  refine zM.ofW (own := "LawWorlds$History") (by decide +kernel) rfl (lg_c rfl (lg_c (va_rf_cat _) lg_0)) ?_
  intro p e s m args below meth c ls hx hb hml hr hlocks hname hC hwk hw hS hl
  obtain ⟨σ0, eσ⟩ : ∃ z, z = σ := ⟨_, rfl⟩
  have hg : gr σ0 σ := by rw [eσ]; exact gr.rf
  rw [lv_args_c rfl, lv_args_c (va_rf_cat _)] at hl
  have hl : lv_has ls 2 [(0, va_rf (some b)), (1, va_rf o1)] := hl
  obtain ⟨hsb, hB⟩ := h
  have hsb0 : s_s σ0 b = some (.inl 2) := by rw [eσ]; exact hsb
  rw [← eσ]
  skip
  refine zr_aload_n (o := o1) hx hb d_H_bringSnapshot_0 rfl (lv_at hl 1 rfl) ?_
  refine zr_aload_n (o := some b) hx hb d_H_bringSnapshot_1 rfl (lv_at hl 0 rfl) ?_
  refine zr_get (v := va_rf (s_r σ b 1)) hx hb hC hw rfl hsb fl_H_18 rfl d_H_bringSnapshot_2 ?_
  obtain ⟨q1, ho1, hB⟩ := hB
  have hsr := And.left hB
  refine zr_callV (ci := 1) (As := [va_rf (s_r σ b 1)]) (rest := []) hx hb hml hC hwk hw hS hl.1 (c_S_copyFrom l D B q1 (s_r σ b 1) σ _ hB) mk_S_copyFrom mi_S_copyFrom ms_S_copyFrom ml_H_29 ⟨Nat.le_of_ble_eq_true rfl, Nat.le_of_ble_eq_true rfl⟩ ho1 hsr rfl (cat_8 cat_n (Nat.le_of_ble_eq_true rfl)) d_H_bringSnapshot_5 ⟨Nat.le_refl _, Nat.le_refl _⟩ rfl (fun v σ2 H locs hp hgn hw hS => ?_)
  have hg := hg.tr hgn
  have hsb := hgn _ _ hsb
  obtain ⟨rfl, hB⟩ := hp
  refine W.eq (g2 := F0 m 8 ls []) rfl ?_
  exact zr_vret hx hb hr hlocks hB hg hw hS d_H_bringSnapshot_8

set_option maxHeartbeats 4000000 in
set_option maxRecDepth 100000 in
theorem c_E_modelCode (l : Launch) (D : va_G) (B : Nat) (b : Nat) (o1 : Option Nat) (x2 : Int32) (x3 : Int32) (σ : St) (mc : Nat) (ms : Nat) (Q : Int32 → St → Prop) (h : P_E_modelCode b o1 x2 x3 σ mc ms Q) : zM l y_E_modelCode b_E_modelCode 6 (some (.int)) (rm_E_modelCode mc ms) D B [.ref b, va_rf o1, .int x2, .int x3] σ (zQi Q) := by
  refine zM.ofW (own := "LawWorlds$Search") (by decide +kernel) rfl (lg_c rfl (lg_c (va_rf_cat _) (lg_c rfl (lg_c rfl lg_0)))) ?_
  intro p e s m args below meth c ls hx hb hml hr hlocks hname hC hwk hw hS hl
  obtain ⟨σ0, eσ⟩ : ∃ z, z = σ := ⟨_, rfl⟩
  have hg : gr σ0 σ := by rw [eσ]; exact gr.rf
  rw [lv_args_c rfl, lv_args_c (va_rf_cat _), lv_args_c rfl, lv_args_c rfl] at hl
  have hl : lv_has ls 6 [(0, va_rf (some b)), (1, va_rf o1), (2, .int x2), (3, .int x3)] := hl
  have ha1 : 0 ≤ mc := Nat.zero_le _
  have ha2 : 0 ≤ ms := Nat.zero_le _
  obtain ⟨hsb, hB⟩ := h
  have hsb0 : s_s σ0 b = some (.inl 6) := by rw [eσ]; exact hsb
  rw [← eσ]
  skip
  obtain ⟨K26, hK26⟩ : ∃ K : Int32 → Int32 → Int32 → Int32 → St → Nat → Nat → Prop, K = (fun (x2 : Int32) (x3 : Int32) (x4 : Int32) (x5 : Int32) (σ : St) (ca : Nat) (cb : Nat) => ∀ (H : Heap) (locs : List Loc) (ls : Array Slot), gr σ0 σ → wh D B σ s H → va_S (zA B) s.heap H locs → lv_has ls 6 [(0, va_rf (some b)), (2, .int x2), (3, .int x3), (4, .int x4), (5, .int x5)] → ca ≤ mc → cb ≤ ms → W p l e (rm_E_modelCode mc ms) s m args below meth c H locs ca cb (MQ below (zQ D B σ0 (zQi Q)) args s (rm_E_modelCode mc ms).cells (rm_E_modelCode mc ms).slots (zA B)) (F0 m 26 ls [])) := ⟨_, rfl⟩
  refine (fun hB => ?_) (hB K26 ?_)
  · skip
    refine zr_aload_n (o := some b) hx hb d_E_modelCode_0 rfl (lv_at hl 0 rfl) ?_
    refine zr_get (v := va_rf (s_r σ b 1)) hx hb hC hw rfl hsb fl_E_21 rfl d_E_modelCode_1 ?_
    obtain ⟨q9, ho9, hB⟩ := hB
    obtain ⟨c10, d11, hc1, hc2, hB⟩ := hB
    have hsr := And.left hB
    refine zr_callV (ci := 7) (As := []) (rest := []) hx hb hml hC hwk hw hS hl.1 (c_P_list l D B q9 σ c10 d11 _ hB) mk_P_list mi_P_list ms_P_list ml_E_38 ⟨Nat.le_of_ble_eq_true rfl, Nat.le_of_ble_eq_true rfl⟩ ho9 hsr rfl (cat_8 cat_n (Nat.le_of_ble_eq_true rfl)) d_E_modelCode_4 ⟨hc1, hc2⟩ rfl (fun v σ12 H locs hp hgn hw hS => ?_)
    have hg := hg.tr hgn
    have hsb := hgn _ _ hsb
    have ha1 := hc1
    have ha2 := hc2
    obtain ⟨rfl, hB⟩ := hp
    refine W.eq (g2 := F0 m 7 ls []) rfl ?_
    refine zr_aload_n (o := some b) hx hb d_E_modelCode_7 rfl (lv_at hl 0 rfl) ?_
    refine zr_aload_n (o := o1) hx hb d_E_modelCode_8 rfl (lv_at hl 1 rfl) ?_
    refine lv_iconst (v := (-1)) hx hb d_E_modelCode_9 (by decide) ?_
    obtain ⟨c13, d14, hc1, hc2, hB⟩ := hB
    have hsr := And.left hB
    refine zr_callV (ci := 6) (As := [va_rf o1, .int (-1)]) (rest := []) hx hb hml hC hwk hw hS hl.1 (c_E_demand l D B b o1 (-1) σ12 c13 d14 _ hB) mk_E_demand mi_E_demand ms_E_demand ml_E_41 ⟨Nat.le_of_ble_eq_true rfl, Nat.le_of_ble_eq_true rfl⟩ rfl hsr rfl (cat_8 cat_n (Nat.le_of_ble_eq_true rfl)) d_E_modelCode_10 ⟨hc1, hc2⟩ rfl (fun v σ15 H locs hp hgn hw hS => ?_)
    have hg := hg.tr hgn
    have hsb := hgn _ _ hsb
    have ha1 := hc1
    have ha2 := hc2
    obtain ⟨rfl, hB⟩ := hp
    refine W.eq (g2 := F0 m 13 ls []) rfl ?_
    refine lv_iconst (v := nI 0) hx hb d_E_modelCode_13 (by decide) ?_
    refine lv_istore (lv' := [(4, .int (nI 0)), (0, va_rf (some b)), (1, va_rf o1), (2, .int x2), (3, .int x3)]) hx hb d_E_modelCode_14 hl (by decide) rfl (fun ls hl => ?_)
    refine zr_aload_n (o := some b) hx hb d_E_modelCode_16 rfl (lv_at hl 1 rfl) ?_
    refine zr_get (v := va_rf (s_r σ15 b 1)) hx hb hC hw rfl hsb fl_E_21 rfl d_E_modelCode_17 ?_
    refine lv_iload_n hx hb d_E_modelCode_20 rfl (lv_at hl 3 rfl) ?_
    obtain ⟨q16, ho16, hB⟩ := hB
    have hsr := And.left hB
    refine zr_callV (ci := 7) (As := [.int x2]) (rest := []) hx hb hml hC hwk hw hS hl.1 (c_P_start l D B q16 x2 σ15 _ hB) mk_P_start mi_P_start ms_P_start ml_E_45 ⟨Nat.le_of_ble_eq_true rfl, Nat.le_of_ble_eq_true rfl⟩ ho16 hsr rfl (cat_8 cat_n (Nat.le_of_ble_eq_true rfl)) d_E_modelCode_21 ⟨ha1, ha2⟩ rfl (fun v σ17 H locs hp hgn hw hS => ?_)
    have hg := hg.tr hgn
    have hsb := hgn _ _ hsb
    obtain ⟨r18, rfl, hB⟩ := hp
    refine W.eq (g2 := F0 m 24 ls [.int r18]) rfl ?_
    refine lv_istore (lv' := [(5, .int r18), (4, .int (nI 0)), (0, va_rf (some b)), (1, va_rf o1), (2, .int x2), (3, .int x3)]) hx hb d_E_modelCode_24 hl (by decide) rfl (fun ls hl => ?_)
    rw [hK26] at hB
    exact hB _ _ _ hg hw hS (lv_sub hl [2, 4, 5, 1, 0] rfl) ha1 ha2
  · intro x2 x3 x4 x5 σ ca cb hB
    rw [hK26]
    intro H locs ls hg hw hS hl ha1 ha2
    have hsb := hg _ _ hsb0
    refine lv_iload hx hb d_E_modelCode_26 (lv_at hl 4 rfl) ?_
    refine zr_aload_n (o := some b) hx hb d_E_modelCode_28 rfl (lv_at hl 0 rfl) ?_
    refine zr_get (v := va_rf (s_r σ b 1)) hx hb hC hw rfl hsb fl_E_21 rfl d_E_modelCode_29 ?_
    refine lv_iload_n hx hb d_E_modelCode_32 rfl (lv_at hl 1 rfl) ?_
    obtain ⟨q1, ho1, hB⟩ := hB
    have hsr := And.left hB
    refine zr_callV (ci := 7) (As := [.int x2]) (rest := [.int x5]) hx hb hml hC hwk hw hS hl.1 (c_P_end l D B q1 x2 σ _ hB) mk_P_end mi_P_end ms_P_end ml_E_49 ⟨Nat.le_of_ble_eq_true rfl, Nat.le_of_ble_eq_true rfl⟩ ho1 hsr rfl (cat_8 (cat_c rfl cat_n) (Nat.le_of_ble_eq_true rfl)) d_E_modelCode_33 ⟨ha1, ha2⟩ rfl (fun v σ2 H locs hp hgn hw hS => ?_)
    have hg := hg.tr hgn
    have hsb := hgn _ _ hsb
    obtain ⟨r3, rfl, hB⟩ := hp
    refine W.eq (g2 := F0 m 36 ls [.int r3, .int x5]) rfl ?_
    refine lv_icmp_ge (tgt := 73) hx hb d_E_modelCode_36 (by decide) (fun cd => ?_) (fun cd => ?_)
    · have hB := hB.1 cd
      refine lv_bipush (v := (-5)) hx hb d_E_modelCode_73 (by decide) ?_
      refine W.widen (k := mc) (n := ms) ha1 ha2 ?_
      exact zr_iret hx hb hr hlocks hB hg hw hS d_E_modelCode_75
    · have hB := hB.2 cd
      refine zr_aload_n (o := some b) hx hb d_E_modelCode_39 rfl (lv_at hl 0 rfl) ?_
      refine lv_iload hx hb d_E_modelCode_40 (lv_at hl 4 rfl) ?_
      have hsr := And.left hB
      refine zr_callV (ci := 6) (As := [.int x5]) (rest := []) hx hb hml hC hwk hw hS hl.1 (c_E_isModel l D B b x5 σ2 _ hB) mk_E_isModel mi_E_isModel ms_E_isModel ml_E_52 ⟨Nat.le_of_ble_eq_true rfl, Nat.le_of_ble_eq_true rfl⟩ rfl hsr rfl (cat_8 cat_n (Nat.le_of_ble_eq_true rfl)) d_E_modelCode_42 ⟨ha1, ha2⟩ rfl (fun v σ4 H locs hp hgn hw hS => ?_)
      have hg := hg.tr hgn
      have hsb := hgn _ _ hsb
      obtain ⟨r5, rfl, hB⟩ := hp
      refine W.eq (g2 := F0 m 45 ls [.int r5]) rfl ?_
      refine lv_if_eq (tgt := 67) hx hb d_E_modelCode_45 (by decide) (fun cd => ?_) (fun cd => ?_)
      · have hB := hB.1 cd
        refine lv_iinc (v := x5 + nI 1) (lv' := [(5, .int (x5 + nI 1)), (0, va_rf (some b)), (2, .int x2), (3, .int x3), (4, .int x4)]) hx hb d_E_modelCode_67 hl (k := 4) rfl rfl (by decide) rfl (fun ls hl => ?_)
        refine lv_goto (tgt := 26) hx hb d_E_modelCode_70 (by decide) ?_
        rw [hK26] at hB
        exact hB _ _ _ hg hw hS (lv_sub hl [1, 2, 3, 4, 0] rfl) ha1 ha2
      · have hB := hB.2 cd
        refine lv_iload hx hb d_E_modelCode_48 (lv_at hl 3 rfl) ?_
        refine lv_iload_n hx hb d_E_modelCode_50 rfl (lv_at hl 2 rfl) ?_
        refine lv_icmp_ne (tgt := 64) hx hb d_E_modelCode_51 (by decide) (fun cd => ?_) (fun cd => ?_)
        · have hB := hB.2 cd
          refine lv_iinc (v := x4 + nI 1) (lv' := [(4, .int (x4 + nI 1)), (0, va_rf (some b)), (2, .int x2), (3, .int x3), (5, .int x5)]) hx hb d_E_modelCode_64 hl (k := 3) rfl rfl (by decide) rfl (fun ls hl => ?_)
          refine lv_iinc (v := x5 + nI 1) (lv' := [(5, .int (x5 + nI 1)), (4, .int (x4 + nI 1)), (0, va_rf (some b)), (2, .int x2), (3, .int x3)]) hx hb d_E_modelCode_67 hl (k := 4) rfl rfl (by decide) rfl (fun ls hl => ?_)
          refine lv_goto (tgt := 26) hx hb d_E_modelCode_70 (by decide) ?_
          rw [hK26] at hB
          exact hB _ _ _ hg hw hS (lv_sub hl [2, 3, 4, 1, 0] rfl) ha1 ha2
        · have hB := hB.1 cd
          refine zr_aload_n (o := some b) hx hb d_E_modelCode_54 rfl (lv_at hl 0 rfl) ?_
          refine zr_get (v := va_rf (s_r σ4 b 1)) hx hb hC hw rfl hsb fl_E_21 rfl d_E_modelCode_55 ?_
          refine lv_iload hx hb d_E_modelCode_58 (lv_at hl 4 rfl) ?_
          obtain ⟨q6, ho6, hB⟩ := hB
          have hsr := And.left hB
          refine zr_callV (ci := 7) (As := [.int x5]) (rest := []) hx hb hml hC hwk hw hS hl.1 (c_P_codeAt l D B q6 x5 σ4 _ hB) mk_P_codeAt mi_P_codeAt ms_P_codeAt ml_E_59 ⟨Nat.le_of_ble_eq_true rfl, Nat.le_of_ble_eq_true rfl⟩ ho6 hsr rfl (cat_8 cat_n (Nat.le_of_ble_eq_true rfl)) d_E_modelCode_60 ⟨ha1, ha2⟩ rfl (fun v σ7 H locs hp hgn hw hS => ?_)
          have hg := hg.tr hgn
          have hsb := hgn _ _ hsb
          obtain ⟨r8, rfl, hB⟩ := hp
          refine W.eq (g2 := F0 m 63 ls [.int r8]) rfl ?_
          refine W.widen (k := mc) (n := ms) ha1 ha2 ?_
          exact zr_iret hx hb hr hlocks hB hg hw hS d_E_modelCode_63

set_option maxHeartbeats 4000000 in
set_option maxRecDepth 100000 in
theorem c_E_countModels (l : Launch) (D : va_G) (B : Nat) (b : Nat) (o1 : Option Nat) (x2 : Int32) (x3 : Int32) (σ : St) (mc : Nat) (ms : Nat) (Q : Int32 → St → Prop) (h : P_E_countModels b o1 x2 x3 σ mc ms Q) : zM l y_E_countModels b_E_countModels 6 (some (.int)) (rm_E_countModels mc ms) D B [.ref b, va_rf o1, .int x2, .int x3] σ (zQi Q) := by
  refine zM.ofW (own := "LawWorlds$Search") (by decide +kernel) rfl (lg_c rfl (lg_c (va_rf_cat _) (lg_c rfl (lg_c rfl lg_0)))) ?_
  intro p e s m args below meth c ls hx hb hml hr hlocks hname hC hwk hw hS hl
  obtain ⟨σ0, eσ⟩ : ∃ z, z = σ := ⟨_, rfl⟩
  have hg : gr σ0 σ := by rw [eσ]; exact gr.rf
  rw [lv_args_c rfl, lv_args_c (va_rf_cat _), lv_args_c rfl, lv_args_c rfl] at hl
  have hl : lv_has ls 6 [(0, va_rf (some b)), (1, va_rf o1), (2, .int x2), (3, .int x3)] := hl
  have ha1 : 0 ≤ mc := Nat.zero_le _
  have ha2 : 0 ≤ ms := Nat.zero_le _
  obtain ⟨hsb, hB⟩ := h
  have hsb0 : s_s σ0 b = some (.inl 6) := by rw [eσ]; exact hsb
  rw [← eσ]
  skip
  obtain ⟨K26, hK26⟩ : ∃ K : Int32 → Int32 → Int32 → Int32 → St → Nat → Nat → Prop, K = (fun (x2 : Int32) (x3 : Int32) (x4 : Int32) (x5 : Int32) (σ : St) (ca : Nat) (cb : Nat) => ∀ (H : Heap) (locs : List Loc) (ls : Array Slot), gr σ0 σ → wh D B σ s H → va_S (zA B) s.heap H locs → lv_has ls 6 [(0, va_rf (some b)), (2, .int x2), (3, .int x3), (4, .int x4), (5, .int x5)] → ca ≤ mc → cb ≤ ms → W p l e (rm_E_countModels mc ms) s m args below meth c H locs ca cb (MQ below (zQ D B σ0 (zQi Q)) args s (rm_E_countModels mc ms).cells (rm_E_countModels mc ms).slots (zA B)) (F0 m 26 ls [])) := ⟨_, rfl⟩
  refine (fun hB => ?_) (hB K26 ?_)
  · skip
    refine zr_aload_n (o := some b) hx hb d_E_countModels_0 rfl (lv_at hl 0 rfl) ?_
    refine zr_get (v := va_rf (s_r σ b 1)) hx hb hC hw rfl hsb fl_E_21 rfl d_E_countModels_1 ?_
    obtain ⟨q9, ho9, hB⟩ := hB
    obtain ⟨c10, d11, hc1, hc2, hB⟩ := hB
    have hsr := And.left hB
    refine zr_callV (ci := 7) (As := []) (rest := []) hx hb hml hC hwk hw hS hl.1 (c_P_list l D B q9 σ c10 d11 _ hB) mk_P_list mi_P_list ms_P_list ml_E_38 ⟨Nat.le_of_ble_eq_true rfl, Nat.le_of_ble_eq_true rfl⟩ ho9 hsr rfl (cat_8 cat_n (Nat.le_of_ble_eq_true rfl)) d_E_countModels_4 ⟨hc1, hc2⟩ rfl (fun v σ12 H locs hp hgn hw hS => ?_)
    have hg := hg.tr hgn
    have hsb := hgn _ _ hsb
    have ha1 := hc1
    have ha2 := hc2
    obtain ⟨rfl, hB⟩ := hp
    refine W.eq (g2 := F0 m 7 ls []) rfl ?_
    refine zr_aload_n (o := some b) hx hb d_E_countModels_7 rfl (lv_at hl 0 rfl) ?_
    refine zr_aload_n (o := o1) hx hb d_E_countModels_8 rfl (lv_at hl 1 rfl) ?_
    refine lv_iconst (v := (-1)) hx hb d_E_countModels_9 (by decide) ?_
    obtain ⟨c13, d14, hc1, hc2, hB⟩ := hB
    have hsr := And.left hB
    refine zr_callV (ci := 6) (As := [va_rf o1, .int (-1)]) (rest := []) hx hb hml hC hwk hw hS hl.1 (c_E_demand l D B b o1 (-1) σ12 c13 d14 _ hB) mk_E_demand mi_E_demand ms_E_demand ml_E_41 ⟨Nat.le_of_ble_eq_true rfl, Nat.le_of_ble_eq_true rfl⟩ rfl hsr rfl (cat_8 cat_n (Nat.le_of_ble_eq_true rfl)) d_E_countModels_10 ⟨hc1, hc2⟩ rfl (fun v σ15 H locs hp hgn hw hS => ?_)
    have hg := hg.tr hgn
    have hsb := hgn _ _ hsb
    have ha1 := hc1
    have ha2 := hc2
    obtain ⟨rfl, hB⟩ := hp
    refine W.eq (g2 := F0 m 13 ls []) rfl ?_
    refine lv_iconst (v := nI 0) hx hb d_E_countModels_13 (by decide) ?_
    refine lv_istore (lv' := [(4, .int (nI 0)), (0, va_rf (some b)), (1, va_rf o1), (2, .int x2), (3, .int x3)]) hx hb d_E_countModels_14 hl (by decide) rfl (fun ls hl => ?_)
    refine zr_aload_n (o := some b) hx hb d_E_countModels_16 rfl (lv_at hl 1 rfl) ?_
    refine zr_get (v := va_rf (s_r σ15 b 1)) hx hb hC hw rfl hsb fl_E_21 rfl d_E_countModels_17 ?_
    refine lv_iload_n hx hb d_E_countModels_20 rfl (lv_at hl 3 rfl) ?_
    obtain ⟨q16, ho16, hB⟩ := hB
    have hsr := And.left hB
    refine zr_callV (ci := 7) (As := [.int x2]) (rest := []) hx hb hml hC hwk hw hS hl.1 (c_P_start l D B q16 x2 σ15 _ hB) mk_P_start mi_P_start ms_P_start ml_E_45 ⟨Nat.le_of_ble_eq_true rfl, Nat.le_of_ble_eq_true rfl⟩ ho16 hsr rfl (cat_8 cat_n (Nat.le_of_ble_eq_true rfl)) d_E_countModels_21 ⟨ha1, ha2⟩ rfl (fun v σ17 H locs hp hgn hw hS => ?_)
    have hg := hg.tr hgn
    have hsb := hgn _ _ hsb
    obtain ⟨r18, rfl, hB⟩ := hp
    refine W.eq (g2 := F0 m 24 ls [.int r18]) rfl ?_
    refine lv_istore (lv' := [(5, .int r18), (4, .int (nI 0)), (0, va_rf (some b)), (1, va_rf o1), (2, .int x2), (3, .int x3)]) hx hb d_E_countModels_24 hl (by decide) rfl (fun ls hl => ?_)
    rw [hK26] at hB
    exact hB _ _ _ hg hw hS (lv_sub hl [2, 4, 5, 1, 0] rfl) ha1 ha2
  · intro x2 x3 x4 x5 σ ca cb hB
    rw [hK26]
    intro H locs ls hg hw hS hl ha1 ha2
    have hsb := hg _ _ hsb0
    refine lv_iload hx hb d_E_countModels_26 (lv_at hl 4 rfl) ?_
    refine zr_aload_n (o := some b) hx hb d_E_countModels_28 rfl (lv_at hl 0 rfl) ?_
    refine zr_get (v := va_rf (s_r σ b 1)) hx hb hC hw rfl hsb fl_E_21 rfl d_E_countModels_29 ?_
    refine lv_iload_n hx hb d_E_countModels_32 rfl (lv_at hl 1 rfl) ?_
    obtain ⟨q1, ho1, hB⟩ := hB
    have hsr := And.left hB
    refine zr_callV (ci := 7) (As := [.int x2]) (rest := [.int x5]) hx hb hml hC hwk hw hS hl.1 (c_P_end l D B q1 x2 σ _ hB) mk_P_end mi_P_end ms_P_end ml_E_49 ⟨Nat.le_of_ble_eq_true rfl, Nat.le_of_ble_eq_true rfl⟩ ho1 hsr rfl (cat_8 (cat_c rfl cat_n) (Nat.le_of_ble_eq_true rfl)) d_E_countModels_33 ⟨ha1, ha2⟩ rfl (fun v σ2 H locs hp hgn hw hS => ?_)
    have hg := hg.tr hgn
    have hsb := hgn _ _ hsb
    obtain ⟨r3, rfl, hB⟩ := hp
    refine W.eq (g2 := F0 m 36 ls [.int r3, .int x5]) rfl ?_
    refine lv_icmp_ge (tgt := 76) hx hb d_E_countModels_36 (by decide) (fun cd => ?_) (fun cd => ?_)
    · have hB := hB.1 cd
      refine lv_iload hx hb d_E_countModels_76 (lv_at hl 3 rfl) ?_
      refine W.widen (k := mc) (n := ms) ha1 ha2 ?_
      exact zr_iret hx hb hr hlocks hB hg hw hS d_E_countModels_78
    · have hB := hB.2 cd
      refine zr_aload_n (o := some b) hx hb d_E_countModels_39 rfl (lv_at hl 0 rfl) ?_
      refine lv_iload hx hb d_E_countModels_40 (lv_at hl 4 rfl) ?_
      have hsr := And.left hB
      refine zr_callV (ci := 6) (As := [.int x5]) (rest := []) hx hb hml hC hwk hw hS hl.1 (c_E_isModel l D B b x5 σ2 _ hB) mk_E_isModel mi_E_isModel ms_E_isModel ml_E_52 ⟨Nat.le_of_ble_eq_true rfl, Nat.le_of_ble_eq_true rfl⟩ rfl hsr rfl (cat_8 cat_n (Nat.le_of_ble_eq_true rfl)) d_E_countModels_42 ⟨ha1, ha2⟩ rfl (fun v σ4 H locs hp hgn hw hS => ?_)
      have hg := hg.tr hgn
      have hsb := hgn _ _ hsb
      obtain ⟨r5, rfl, hB⟩ := hp
      refine W.eq (g2 := F0 m 45 ls [.int r5]) rfl ?_
      refine lv_if_eq (tgt := 70) hx hb d_E_countModels_45 (by decide) (fun cd => ?_) (fun cd => ?_)
      · have hB := hB.1 cd
        refine lv_iinc (v := x5 + nI 1) (lv' := [(5, .int (x5 + nI 1)), (0, va_rf (some b)), (2, .int x2), (3, .int x3), (4, .int x4)]) hx hb d_E_countModels_70 hl (k := 4) rfl rfl (by decide) rfl (fun ls hl => ?_)
        refine lv_goto (tgt := 26) hx hb d_E_countModels_73 (by decide) ?_
        rw [hK26] at hB
        exact hB _ _ _ hg hw hS (lv_sub hl [1, 2, 3, 4, 0] rfl) ha1 ha2
      · have hB := hB.2 cd
        refine lv_iload hx hb d_E_countModels_48 (lv_at hl 3 rfl) ?_
        refine lv_iload_n hx hb d_E_countModels_50 rfl (lv_at hl 2 rfl) ?_
        refine lv_if_eq (tgt := 66) hx hb d_E_countModels_51 (by decide) (fun cd => ?_) (fun cd => ?_)
        · have hB := hB.1 cd
          refine lv_iconst (v := nI 1) hx hb d_E_countModels_66 (by decide) ?_
          refine lv_iadd hx hb d_E_countModels_67 ?_
          refine lv_istore (lv' := [(4, .int (x4 + (nI 1))), (0, va_rf (some b)), (2, .int x2), (3, .int x3), (5, .int x5)]) hx hb d_E_countModels_68 hl (by decide) rfl (fun ls hl => ?_)
          refine lv_iinc (v := x5 + nI 1) (lv' := [(5, .int (x5 + nI 1)), (4, .int (x4 + (nI 1))), (0, va_rf (some b)), (2, .int x2), (3, .int x3)]) hx hb d_E_countModels_70 hl (k := 4) rfl rfl (by decide) rfl (fun ls hl => ?_)
          refine lv_goto (tgt := 26) hx hb d_E_countModels_73 (by decide) ?_
          rw [hK26] at hB
          exact hB _ _ _ hg hw hS (lv_sub hl [2, 3, 4, 1, 0] rfl) ha1 ha2
        · have hB := hB.2 cd
          refine zr_aload_n (o := some b) hx hb d_E_countModels_54 rfl (lv_at hl 0 rfl) ?_
          refine zr_get (v := va_rf (s_r σ4 b 1)) hx hb hC hw rfl hsb fl_E_21 rfl d_E_countModels_55 ?_
          refine lv_iload hx hb d_E_countModels_58 (lv_at hl 4 rfl) ?_
          obtain ⟨q6, ho6, hB⟩ := hB
          have hsr := And.left hB
          refine zr_callV (ci := 7) (As := [.int x5]) (rest := [.int x4]) hx hb hml hC hwk hw hS hl.1 (c_P_alikesAt l D B q6 x5 σ4 _ hB) mk_P_alikesAt mi_P_alikesAt ms_P_alikesAt ml_E_56 ⟨Nat.le_of_ble_eq_true rfl, Nat.le_of_ble_eq_true rfl⟩ ho6 hsr rfl (cat_8 (cat_c rfl cat_n) (Nat.le_of_ble_eq_true rfl)) d_E_countModels_60 ⟨ha1, ha2⟩ rfl (fun v σ7 H locs hp hgn hw hS => ?_)
          have hg := hg.tr hgn
          have hsb := hgn _ _ hsb
          obtain ⟨r8, rfl, hB⟩ := hp
          refine W.eq (g2 := F0 m 63 ls [.int r8, .int x4]) rfl ?_
          refine lv_goto (tgt := 67) hx hb d_E_countModels_63 (by decide) ?_
          refine lv_iadd hx hb d_E_countModels_67 ?_
          refine lv_istore (lv' := [(4, .int (x4 + r8)), (0, va_rf (some b)), (2, .int x2), (3, .int x3), (5, .int x5)]) hx hb d_E_countModels_68 hl (by decide) rfl (fun ls hl => ?_)
          refine lv_iinc (v := x5 + nI 1) (lv' := [(5, .int (x5 + nI 1)), (4, .int (x4 + r8)), (0, va_rf (some b)), (2, .int x2), (3, .int x3)]) hx hb d_E_countModels_70 hl (k := 4) rfl rfl (by decide) rfl (fun ls hl => ?_)
          refine lv_goto (tgt := 26) hx hb d_E_countModels_73 (by decide) ?_
          rw [hK26] at hB
          exact hB _ _ _ hg hw hS (lv_sub hl [2, 3, 4, 1, 0] rfl) ha1 ha2
