set_option maxHeartbeats 4000000 in
set_option maxRecDepth 100000 in
theorem c_X_init (l : Launch) (D : va_G) (B : Nat) (b : Nat) (σ : St) (mc : Nat) (ms : Nat) (Q : St → Prop) (h : P_X_init b σ mc ms Q) : zM l y_X_init b_X_init 1 none (rm_X_init mc ms) D B [.ref b] σ (zQv Q) := by
  refine zM.ofW (own := "LawWorlds") (by decide +kernel) rfl (Nat.le_of_ble_eq_true rfl) ?_
  intro p e s m args below meth c ls hx hb hml hr hlocks hname hC hwk hw hS hl
  obtain ⟨σ0, eσ⟩ : ∃ z, z = σ := ⟨_, rfl⟩
  have hg : gr σ0 σ := by rw [eσ]; exact gr.rf
  have hl : lv_has ls 1 [(0, va_rf (some b))] := hl
  have ha1 : 0 ≤ mc := Nat.zero_le _
  have ha2 : 0 ≤ ms := Nat.zero_le _
  obtain ⟨hsb, hB⟩ := h
  have hsb0 : s_s σ0 b = some (.inl 0) := by rw [eσ]; exact hsb
  rw [← eσ]
  skip
  refine zr_aload_n (o := some b) hx hb d_X_init_0 rfl (lv_at hl 0 rfl) ?_
  refine W.objInit hx hb hC.1 (hC.2.1 _ ml_X_1) (hC.2.1 _ k_oi) (hC.2.1 _ k_oc) rfl (by rw [hml]; exact hl.1) rfl d_X_init_1 (Nat.le_of_ble_eq_true rfl) (Nat.le_of_ble_eq_true rfl) ?_
  refine W.eq (g2 := F0 m 4 ls []) rfl ?_
  refine zr_aload_n (o := some b) hx hb d_X_init_4 rfl (lv_at hl 0 rfl) ?_
  obtain ⟨hc1, hc2, hB⟩ := hB
  obtain ⟨q1, eqq1⟩ : ∃ z, z = s_n σ := ⟨_, rfl⟩
  obtain ⟨σ2, eσ2⟩ : ∃ z, z = w_new σ (.inl 1) := ⟨_, rfl⟩
  have hB := hB q1 σ2 eqq1 eσ2
  have hgn := hw.gnew (.inl 1)
  refine zr_new (ci := 1) hx hb hC hwk.1 hw hS (by decide) kl_X_7 in_S mk_S_init.2.1 hc1 hc2 d_X_init_5 (fun H hw hS => ?_)
  rw [← eσ2] at hw hgn
  rw [← eqq1]
  have hg := hg.tr hgn
  have hsb := hgn _ _ hsb
  have ha1 := hc1
  have ha2 := hc2
  refine lv_dup hx hb d_X_init_8 (va_rf_cat _) ?_
  obtain ⟨c3, d4, hc1, hc2, hB⟩ := hB
  refine zr_callN (As := []) (rest := [va_rf (some q1), va_rf (some b)]) hx hb hml hC hwk hw hS hl.1 (c_S_init l D B q1 σ2 c3 d4 _ hB) mk_S_init mi_S_init rfl nl_X_9 ⟨Nat.le_of_ble_eq_true rfl, Nat.le_of_ble_eq_true rfl⟩ rfl rfl (cat_8 (cat_c (va_rf_cat _) (cat_c (va_rf_cat _) cat_n)) (Nat.le_of_ble_eq_true rfl)) d_X_init_9 ⟨hc1, hc2⟩ rfl (fun v σ5 H locs hp hgn hw hS => ?_)
  have hg := hg.tr hgn
  have hsb := hgn _ _ hsb
  have ha1 := hc1
  have ha2 := hc2
  obtain ⟨rfl, hB⟩ := hp
  refine W.eq (g2 := F0 m 12 ls [va_rf (some q1), va_rf (some b)]) rfl ?_
  refine zr_putRF hx hb hC hname hw hS rfl hsb fl_X_10 rfl rfl (Or.inl ⟨_, rfl⟩) d_X_init_12 (fun H locs hw hS => ?_)
  refine zr_aload_n (o := some b) hx hb d_X_init_15 rfl (lv_at hl 0 rfl) ?_
  obtain ⟨hc1, hc2, hB⟩ := hB
  obtain ⟨q6, eqq6⟩ : ∃ z, z = s_n (w_r σ5 b 0 (some q1)) := ⟨_, rfl⟩
  obtain ⟨σ7, eσ7⟩ : ∃ z, z = w_new (w_r σ5 b 0 (some q1)) (.inl 2) := ⟨_, rfl⟩
  have hB := hB q6 σ7 eqq6 eσ7
  have hgn := hw.gnew (.inl 2)
  refine zr_new (ci := 2) hx hb hC hwk.1 hw hS (by decide) kl_X_16 in_H mk_H_init.2.1 hc1 hc2 d_X_init_16 (fun H hw hS => ?_)
  rw [← eσ7] at hw hgn
  rw [← eqq6]
  have hg := hg.tr hgn
  have hsb := hgn _ _ hsb
  have ha1 := hc1
  have ha2 := hc2
  refine lv_dup hx hb d_X_init_19 (va_rf_cat _) ?_
  obtain ⟨c8, d9, hc1, hc2, hB⟩ := hB
  refine zr_callN (As := []) (rest := [va_rf (some q6), va_rf (some b)]) hx hb hml hC hwk hw hS hl.1 (c_H_init l D B q6 σ7 c8 d9 _ hB) mk_H_init mi_H_init rfl nl_X_18 ⟨Nat.le_of_ble_eq_true rfl, Nat.le_of_ble_eq_true rfl⟩ rfl rfl (cat_8 (cat_c (va_rf_cat _) (cat_c (va_rf_cat _) cat_n)) (Nat.le_of_ble_eq_true rfl)) d_X_init_20 ⟨hc1, hc2⟩ rfl (fun v σ10 H locs hp hgn hw hS => ?_)
  have hg := hg.tr hgn
  have hsb := hgn _ _ hsb
  have ha1 := hc1
  have ha2 := hc2
  obtain ⟨rfl, hB⟩ := hp
  refine W.eq (g2 := F0 m 23 ls [va_rf (some q6), va_rf (some b)]) rfl ?_
  refine zr_putRF hx hb hC hname hw hS rfl hsb fl_X_19 rfl rfl (Or.inl ⟨_, rfl⟩) d_X_init_23 (fun H locs hw hS => ?_)
  refine zr_aload_n (o := some b) hx hb d_X_init_26 rfl (lv_at hl 0 rfl) ?_
  obtain ⟨hc1, hc2, hB⟩ := hB
  obtain ⟨q11, eqq11⟩ : ∃ z, z = s_n (w_r σ10 b 1 (some q6)) := ⟨_, rfl⟩
  obtain ⟨σ12, eσ12⟩ : ∃ z, z = w_new (w_r σ10 b 1 (some q6)) (.inl 3) := ⟨_, rfl⟩
  have hB := hB q11 σ12 eqq11 eσ12
  have hgn := hw.gnew (.inl 3)
  refine zr_new (ci := 3) hx hb hC hwk.1 hw hS (by decide) kl_X_23 in_F mk_F_init.2.1 hc1 hc2 d_X_init_27 (fun H hw hS => ?_)
  rw [← eσ12] at hw hgn
  rw [← eqq11]
  have hg := hg.tr hgn
  have hsb := hgn _ _ hsb
  have ha1 := hc1
  have ha2 := hc2
  refine lv_dup hx hb d_X_init_30 (va_rf_cat _) ?_
  obtain ⟨c13, d14, hc1, hc2, hB⟩ := hB
  refine zr_callI (As := []) (rest := [va_rf (some q11), va_rf (some b)]) hx hb hml hC hwk hw hS hl.1 (c_F_init l D B q11 σ12 c13 d14 _ hB) mk_F_init mi_F_init rfl ml_X_25 ⟨Nat.le_of_ble_eq_true rfl, Nat.le_of_ble_eq_true rfl⟩ rfl rfl (cat_8 (cat_c (va_rf_cat _) (cat_c (va_rf_cat _) cat_n)) (Nat.le_of_ble_eq_true rfl)) d_X_init_31 ⟨hc1, hc2⟩ rfl (fun v σ15 H locs hp hgn hw hS => ?_)
  have hg := hg.tr hgn
  have hsb := hgn _ _ hsb
  have ha1 := hc1
  have ha2 := hc2
  obtain ⟨rfl, hB⟩ := hp
  refine W.eq (g2 := F0 m 34 ls [va_rf (some q11), va_rf (some b)]) rfl ?_
  refine zr_putRF hx hb hC hname hw hS rfl hsb fl_X_26 rfl rfl (Or.inl ⟨_, rfl⟩) d_X_init_34 (fun H locs hw hS => ?_)
  refine zr_aload_n (o := some b) hx hb d_X_init_37 rfl (lv_at hl 0 rfl) ?_
  obtain ⟨hc1, hc2, hB⟩ := hB
  obtain ⟨q16, eqq16⟩ : ∃ z, z = s_n (w_r σ15 b 2 (some q11)) := ⟨_, rfl⟩
  obtain ⟨σ17, eσ17⟩ : ∃ z, z = w_new (w_r σ15 b 2 (some q11)) (.inl 5) := ⟨_, rfl⟩
  have hB := hB q16 σ17 eqq16 eσ17
  have hgn := hw.gnew (.inl 5)
  refine zr_new (ci := 5) hx hb hC hwk.1 hw hS (by decide) kl_X_30 in_B mk_B_init.2.1 hc1 hc2 d_X_init_38 (fun H hw hS => ?_)
  rw [← eσ17] at hw hgn
  rw [← eqq16]
  have hg := hg.tr hgn
  have hsb := hgn _ _ hsb
  have ha1 := hc1
  have ha2 := hc2
  refine lv_dup hx hb d_X_init_41 (va_rf_cat _) ?_
  obtain ⟨c18, d19, hc1, hc2, hB⟩ := hB
  refine zr_callN (As := []) (rest := [va_rf (some q16), va_rf (some b)]) hx hb hml hC hwk hw hS hl.1 (c_B_init l D B q16 σ17 c18 d19 _ hB) mk_B_init mi_B_init rfl nl_X_32 ⟨Nat.le_of_ble_eq_true rfl, Nat.le_of_ble_eq_true rfl⟩ rfl rfl (cat_8 (cat_c (va_rf_cat _) (cat_c (va_rf_cat _) cat_n)) (Nat.le_of_ble_eq_true rfl)) d_X_init_42 ⟨hc1, hc2⟩ rfl (fun v σ20 H locs hp hgn hw hS => ?_)
  have hg := hg.tr hgn
  have hsb := hgn _ _ hsb
  have ha1 := hc1
  have ha2 := hc2
  obtain ⟨rfl, hB⟩ := hp
  refine W.eq (g2 := F0 m 45 ls [va_rf (some q16), va_rf (some b)]) rfl ?_
  refine zr_putRF hx hb hC hname hw hS rfl hsb fl_X_33 rfl rfl (Or.inl ⟨_, rfl⟩) d_X_init_45 (fun H locs hw hS => ?_)
  refine zr_aload_n (o := some b) hx hb d_X_init_48 rfl (lv_at hl 0 rfl) ?_
  obtain ⟨hc1, hc2, hB⟩ := hB
  obtain ⟨q21, eqq21⟩ : ∃ z, z = s_n (w_r σ20 b 3 (some q16)) := ⟨_, rfl⟩
  obtain ⟨σ22, eσ22⟩ : ∃ z, z = w_new (w_r σ20 b 3 (some q16)) (.inl 6) := ⟨_, rfl⟩
  have hB := hB q21 σ22 eqq21 eσ22
  have hgn := hw.gnew (.inl 6)
  refine zr_new (ci := 6) hx hb hC hwk.1 hw hS (by decide) kl_X_37 in_E mk_E_init.2.1 hc1 hc2 d_X_init_49 (fun H hw hS => ?_)
  rw [← eσ22] at hw hgn
  rw [← eqq21]
  have hg := hg.tr hgn
  have hsb := hgn _ _ hsb
  have ha1 := hc1
  have ha2 := hc2
  refine lv_dup hx hb d_X_init_52 (va_rf_cat _) ?_
  obtain ⟨c23, d24, hc1, hc2, hB⟩ := hB
  refine zr_callN (As := []) (rest := [va_rf (some q21), va_rf (some b)]) hx hb hml hC hwk hw hS hl.1 (c_E_init l D B q21 σ22 c23 d24 _ hB) mk_E_init mi_E_init rfl nl_X_39 ⟨Nat.le_of_ble_eq_true rfl, Nat.le_of_ble_eq_true rfl⟩ rfl rfl (cat_8 (cat_c (va_rf_cat _) (cat_c (va_rf_cat _) cat_n)) (Nat.le_of_ble_eq_true rfl)) d_X_init_53 ⟨hc1, hc2⟩ rfl (fun v σ25 H locs hp hgn hw hS => ?_)
  have hg := hg.tr hgn
  have hsb := hgn _ _ hsb
  have ha1 := hc1
  have ha2 := hc2
  obtain ⟨rfl, hB⟩ := hp
  refine W.eq (g2 := F0 m 56 ls [va_rf (some q21), va_rf (some b)]) rfl ?_
  refine zr_putRF hx hb hC hname hw hS rfl hsb fl_X_40 rfl rfl (Or.inl ⟨_, rfl⟩) d_X_init_56 (fun H locs hw hS => ?_)
  refine zr_aload_n (o := some b) hx hb d_X_init_59 rfl (lv_at hl 0 rfl) ?_
  obtain ⟨hc1, hc2, hB⟩ := hB
  obtain ⟨q26, eqq26⟩ : ∃ z, z = s_n (w_r σ25 b 4 (some q21)) := ⟨_, rfl⟩
  obtain ⟨σ27, eσ27⟩ : ∃ z, z = w_new (w_r σ25 b 4 (some q21)) (.inl 8) := ⟨_, rfl⟩
  have hB := hB q26 σ27 eqq26 eσ27
  have hgn := hw.gnew (.inl 8)
  refine zr_new (ci := 8) hx hb hC hwk.1 hw hS (by decide) kl_X_44 in_D mk_D_init.2.1 hc1 hc2 d_X_init_60 (fun H hw hS => ?_)
  rw [← eσ27] at hw hgn
  rw [← eqq26]
  have hg := hg.tr hgn
  have hsb := hgn _ _ hsb
  have ha1 := hc1
  have ha2 := hc2
  refine lv_dup hx hb d_X_init_63 (va_rf_cat _) ?_
  obtain ⟨c28, d29, hc1, hc2, hB⟩ := hB
  refine zr_callN (As := []) (rest := [va_rf (some q26), va_rf (some b)]) hx hb hml hC hwk hw hS hl.1 (c_D_init l D B q26 σ27 c28 d29 _ hB) mk_D_init mi_D_init rfl nl_X_46 ⟨Nat.le_of_ble_eq_true rfl, Nat.le_of_ble_eq_true rfl⟩ rfl rfl (cat_8 (cat_c (va_rf_cat _) (cat_c (va_rf_cat _) cat_n)) (Nat.le_of_ble_eq_true rfl)) d_X_init_64 ⟨hc1, hc2⟩ rfl (fun v σ30 H locs hp hgn hw hS => ?_)
  have hg := hg.tr hgn
  have hsb := hgn _ _ hsb
  have ha1 := hc1
  have ha2 := hc2
  obtain ⟨rfl, hB⟩ := hp
  refine W.eq (g2 := F0 m 67 ls [va_rf (some q26), va_rf (some b)]) rfl ?_
  refine zr_putRF hx hb hC hname hw hS rfl hsb fl_X_47 rfl rfl (Or.inl ⟨_, rfl⟩) d_X_init_67 (fun H locs hw hS => ?_)
  refine zr_aload_n (o := some b) hx hb d_X_init_70 rfl (lv_at hl 0 rfl) ?_
  refine lv_bipush (v := nI 60) hx hb d_X_init_71 (by decide) ?_
  obtain ⟨hc1, hc2, hB⟩ := hB
  obtain ⟨q31, eqq31⟩ : ∃ z, z = s_n (w_r σ30 b 5 (some q26)) := ⟨_, rfl⟩
  obtain ⟨σ32, eσ32⟩ : ∃ z, z = w_new (w_r σ30 b 5 (some q26)) (.inr (3, 60)) := ⟨_, rfl⟩
  have hB := hB q31 σ32 eqq31 eσ32
  have hgn := hw.gnew (.inr (3, 60))
  refine zr_newa (t := 3) (atype := .char) (N := 60) hx hb hC hwk.1 hw hS ac_char rfl rfl rfl (Nat.le_of_ble_eq_true rfl) hc1 hc2 d_X_init_73 (fun H hw hS => ?_)
  rw [← eσ32] at hw hgn
  rw [← eqq31]
  have hg := hg.tr hgn
  have hsb := hgn _ _ hsb
  have ha1 := hc1
  have ha2 := hc2
  refine zr_putRF hx hb hC hname hw hS rfl hsb fl_X_51 rfl rfl (Or.inr ⟨_, rfl⟩) d_X_init_75 (fun H locs hw hS => ?_)
  refine W.widen (k := mc) (n := ms) ha1 ha2 ?_
  exact zr_vret hx hb hr hlocks hB hg hw hS d_X_init_78

set_option maxHeartbeats 4000000 in
set_option maxRecDepth 100000 in
theorem c_X_take (l : Launch) (D : va_G) (B : Nat) (b : Nat) (x1 : Int32) (x2 : Int32) (σ : St) (Q : Int32 → St → Prop) (h : P_X_take b x1 x2 σ Q) : zM l y_X_take b_X_take 4 (some (.int)) (rm_X_take) D B [.ref b, .int x1, .int x2] σ (zQi Q) := by
  refine zM.ofW (own := "LawWorlds") (by decide +kernel) rfl (Nat.le_of_ble_eq_true rfl) ?_
  intro p e s m args below meth c ls hx hb hml hr hlocks hname hC hwk hw hS hl
  obtain ⟨σ0, eσ⟩ : ∃ z, z = σ := ⟨_, rfl⟩
  have hg : gr σ0 σ := by rw [eσ]; exact gr.rf
  have hl : lv_has ls 4 [(0, va_rf (some b)), (1, .int x1), (2, .int x2)] := hl
  obtain ⟨hsb, hB⟩ := h
  have hsb0 : s_s σ0 b = some (.inl 0) := by rw [eσ]; exact hsb
  rw [← eσ]
  skip
  refine lv_iload_n hx hb d_X_take_0 rfl (lv_at hl 1 rfl) ?_
  refine lv_iload_n hx hb d_X_take_1 rfl (lv_at hl 2 rfl) ?_
  refine zr_callS (As := [.int x1, .int x2]) (rest := []) hx hb hml hC hwk hw hS hl.1 (c_C_isCode l D B x1 x2 σ _ hB) mk_C_isCode mt_C_isCode ml_X_55 ⟨Nat.le_of_ble_eq_true rfl, Nat.le_of_ble_eq_true rfl⟩ rfl (cat_8 cat_n (Nat.le_of_ble_eq_true rfl)) d_X_take_2 ⟨Nat.le_refl _, Nat.le_refl _⟩ rfl (fun v σ1 H locs hp hgn hw hS => ?_)
  have hg := hg.tr hgn
  have hsb := hgn _ _ hsb
  obtain ⟨r2, rfl, hB⟩ := hp
  refine W.eq (g2 := F0 m 5 ls [.int r2]) rfl ?_
  refine lv_if_ne (tgt := 11) hx hb d_X_take_5 (by decide) (fun cd => ?_) (fun cd => ?_)
  · have hB := hB.2 cd
    refine lv_iload_n hx hb d_X_take_11 rfl (lv_at hl 1 rfl) ?_
    refine zr_aload_n (o := some b) hx hb d_X_take_12 rfl (lv_at hl 0 rfl) ?_
    refine zr_get (v := va_rf (s_r σ1 b 0)) hx hb hC hw rfl hsb fl_X_10 rfl d_X_take_13 ?_
    obtain ⟨q3, ho3, hs3, hB⟩ := hB
    refine zr_get (v := .int (s_i σ1 q3 3)) hx hb hC hw ho3 hs3 fl_X_61 rfl d_X_take_16 ?_
    refine lv_icmp_ne (tgt := 36) hx hb d_X_take_19 (by decide) (fun cd => ?_) (fun cd => ?_)
    · have hB := hB.2 cd
      refine zr_aload_n (o := some b) hx hb d_X_take_36 rfl (lv_at hl 0 rfl) ?_
      refine zr_get (v := va_rf (s_r σ1 b 0)) hx hb hC hw rfl hsb fl_X_10 rfl d_X_take_37 ?_
      obtain ⟨q4, ho4, hs4, hB⟩ := hB
      refine zr_get (v := .int (s_i σ1 q4 4)) hx hb hC hw ho4 hs4 fl_X_65 rfl d_X_take_40 ?_
      refine lv_istore_n (lv' := [(3, .int (s_i σ1 q4 4)), (0, va_rf (some b)), (1, .int x1), (2, .int x2)]) hx hb d_X_take_43 rfl hl (by decide) rfl (fun ls hl => ?_)
      refine zr_aload_n (o := some b) hx hb d_X_take_44 rfl (lv_at hl 1 rfl) ?_
      refine zr_get (v := va_rf (s_r σ1 b 1)) hx hb hC hw rfl hsb fl_X_19 rfl d_X_take_45 ?_
      refine zr_aload_n (o := some b) hx hb d_X_take_48 rfl (lv_at hl 1 rfl) ?_
      refine zr_get (v := va_rf (s_r σ1 b 0)) hx hb hC hw rfl hsb fl_X_10 rfl d_X_take_49 ?_
      obtain ⟨q5, ho5, hB⟩ := hB
      have hsr := And.left hB
      refine zr_callV (ci := 2) (As := [va_rf (s_r σ1 b 0)]) (rest := []) hx hb hml hC hwk hw hS hl.1 (c_H_record l D B q5 (s_r σ1 b 0) σ1 _ hB) mk_H_record mi_H_record ms_H_record ml_X_68 ⟨Nat.le_of_ble_eq_true rfl, Nat.le_of_ble_eq_true rfl⟩ ho5 hsr rfl (cat_8 cat_n (Nat.le_of_ble_eq_true rfl)) d_X_take_52 ⟨Nat.le_refl _, Nat.le_refl _⟩ rfl (fun v σ6 H locs hp hgn hw hS => ?_)
      have hg := hg.tr hgn
      have hsb := hgn _ _ hsb
      have hs3 := hgn _ _ hs3
      have hs4 := hgn _ _ hs4
      obtain ⟨rfl, hB⟩ := hp
      refine W.eq (g2 := F0 m 55 ls []) rfl ?_
      refine zr_aload_n (o := some b) hx hb d_X_take_55 rfl (lv_at hl 1 rfl) ?_
      refine zr_get (v := va_rf (s_r σ6 b 0)) hx hb hC hw rfl hsb fl_X_10 rfl d_X_take_56 ?_
      refine lv_iload_n hx hb d_X_take_59 rfl (lv_at hl 2 rfl) ?_
      obtain ⟨q7, ho7, hs7, hB⟩ := hB
      refine zr_putI hx hb hC hw hS ho7 hs7 fl_X_61 rfl rfl d_X_take_60 (fun H locs hw hS => ?_)
      refine zr_aload_n (o := some b) hx hb d_X_take_63 rfl (lv_at hl 1 rfl) ?_
      refine zr_get (v := va_rf (s_r (w_i σ6 q7 3 x1) b 0)) hx hb hC hw rfl hsb fl_X_10 rfl d_X_take_64 ?_
      refine lv_iload_n hx hb d_X_take_67 rfl (lv_at hl 3 rfl) ?_
      obtain ⟨q8, ho8, hs8, hB⟩ := hB
      refine zr_putI hx hb hC hw hS ho8 hs8 fl_X_65 rfl rfl d_X_take_68 (fun H locs hw hS => ?_)
      refine lv_iload_n hx hb d_X_take_71 rfl (lv_at hl 0 rfl) ?_
      exact zr_iret hx hb hr hlocks hB hg hw hS d_X_take_72
    · have hB := hB.1 cd
      refine lv_iload_n hx hb d_X_take_22 rfl (lv_at hl 2 rfl) ?_
      refine zr_aload_n (o := some b) hx hb d_X_take_23 rfl (lv_at hl 0 rfl) ?_
      refine zr_get (v := va_rf (s_r σ1 b 0)) hx hb hC hw rfl hsb fl_X_10 rfl d_X_take_24 ?_
      obtain ⟨q9, ho9, hs9, hB⟩ := hB
      refine zr_get (v := .int (s_i σ1 q9 4)) hx hb hC hw ho9 hs9 fl_X_65 rfl d_X_take_27 ?_
      refine lv_icmp_ne (tgt := 36) hx hb d_X_take_30 (by decide) (fun cd => ?_) (fun cd => ?_)
      · have hB := hB.2 cd
        refine zr_aload_n (o := some b) hx hb d_X_take_36 rfl (lv_at hl 0 rfl) ?_
        refine zr_get (v := va_rf (s_r σ1 b 0)) hx hb hC hw rfl hsb fl_X_10 rfl d_X_take_37 ?_
        obtain ⟨q10, ho10, hs10, hB⟩ := hB
        refine zr_get (v := .int (s_i σ1 q10 4)) hx hb hC hw ho10 hs10 fl_X_65 rfl d_X_take_40 ?_
        refine lv_istore_n (lv' := [(3, .int (s_i σ1 q10 4)), (0, va_rf (some b)), (1, .int x1), (2, .int x2)]) hx hb d_X_take_43 rfl hl (by decide) rfl (fun ls hl => ?_)
        refine zr_aload_n (o := some b) hx hb d_X_take_44 rfl (lv_at hl 1 rfl) ?_
        refine zr_get (v := va_rf (s_r σ1 b 1)) hx hb hC hw rfl hsb fl_X_19 rfl d_X_take_45 ?_
        refine zr_aload_n (o := some b) hx hb d_X_take_48 rfl (lv_at hl 1 rfl) ?_
        refine zr_get (v := va_rf (s_r σ1 b 0)) hx hb hC hw rfl hsb fl_X_10 rfl d_X_take_49 ?_
        obtain ⟨q11, ho11, hB⟩ := hB
        have hsr := And.left hB
        refine zr_callV (ci := 2) (As := [va_rf (s_r σ1 b 0)]) (rest := []) hx hb hml hC hwk hw hS hl.1 (c_H_record l D B q11 (s_r σ1 b 0) σ1 _ hB) mk_H_record mi_H_record ms_H_record ml_X_68 ⟨Nat.le_of_ble_eq_true rfl, Nat.le_of_ble_eq_true rfl⟩ ho11 hsr rfl (cat_8 cat_n (Nat.le_of_ble_eq_true rfl)) d_X_take_52 ⟨Nat.le_refl _, Nat.le_refl _⟩ rfl (fun v σ12 H locs hp hgn hw hS => ?_)
        have hg := hg.tr hgn
        have hsb := hgn _ _ hsb
        have hs3 := hgn _ _ hs3
        have hs9 := hgn _ _ hs9
        have hs10 := hgn _ _ hs10
        obtain ⟨rfl, hB⟩ := hp
        refine W.eq (g2 := F0 m 55 ls []) rfl ?_
        refine zr_aload_n (o := some b) hx hb d_X_take_55 rfl (lv_at hl 1 rfl) ?_
        refine zr_get (v := va_rf (s_r σ12 b 0)) hx hb hC hw rfl hsb fl_X_10 rfl d_X_take_56 ?_
        refine lv_iload_n hx hb d_X_take_59 rfl (lv_at hl 2 rfl) ?_
        obtain ⟨q13, ho13, hs13, hB⟩ := hB
        refine zr_putI hx hb hC hw hS ho13 hs13 fl_X_61 rfl rfl d_X_take_60 (fun H locs hw hS => ?_)
        refine zr_aload_n (o := some b) hx hb d_X_take_63 rfl (lv_at hl 1 rfl) ?_
        refine zr_get (v := va_rf (s_r (w_i σ12 q13 3 x1) b 0)) hx hb hC hw rfl hsb fl_X_10 rfl d_X_take_64 ?_
        refine lv_iload_n hx hb d_X_take_67 rfl (lv_at hl 3 rfl) ?_
        obtain ⟨q14, ho14, hs14, hB⟩ := hB
        refine zr_putI hx hb hC hw hS ho14 hs14 fl_X_65 rfl rfl d_X_take_68 (fun H locs hw hS => ?_)
        refine lv_iload_n hx hb d_X_take_71 rfl (lv_at hl 0 rfl) ?_
        exact zr_iret hx hb hr hlocks hB hg hw hS d_X_take_72
      · have hB := hB.1 cd
        refine lv_bipush (v := (-5)) hx hb d_X_take_33 (by decide) ?_
        exact zr_iret hx hb hr hlocks hB hg hw hS d_X_take_35
  · have hB := hB.1 cd
    refine lv_bipush (v := (-2)) hx hb d_X_take_8 (by decide) ?_
    exact zr_iret hx hb hr hlocks hB hg hw hS d_X_take_10

set_option maxHeartbeats 4000000 in
set_option maxRecDepth 100000 in
theorem c_X_isThing (l : Launch) (D : va_G) (B : Nat) (b : Nat) (x1 : Int32) (σ : St) (Q : Int32 → St → Prop) (h : P_X_isThing b x1 σ Q) : zM l y_X_isThing b_X_isThing 2 (some (.boolean)) (rm_X_isThing) D B [.ref b, .int x1] σ (zQi Q) := by
  refine zM.ofW (own := "LawWorlds") (by decide +kernel) rfl (Nat.le_of_ble_eq_true rfl) ?_
  intro p e s m args below meth c ls hx hb hml hr hlocks hname hC hwk hw hS hl
  obtain ⟨σ0, eσ⟩ : ∃ z, z = σ := ⟨_, rfl⟩
  have hg : gr σ0 σ := by rw [eσ]; exact gr.rf
  have hl : lv_has ls 2 [(0, va_rf (some b)), (1, .int x1)] := hl
  obtain ⟨hsb, hB⟩ := h
  have hsb0 : s_s σ0 b = some (.inl 0) := by rw [eσ]; exact hsb
  rw [← eσ]
  skip
  refine lv_iload_n hx hb d_X_isThing_0 rfl (lv_at hl 1 rfl) ?_
  refine lv_if_lt (tgt := 19) hx hb d_X_isThing_1 (by decide) (fun cd => ?_) (fun cd => ?_)
  · have hB := hB.1 cd
    refine lv_iconst (v := nI 0) hx hb d_X_isThing_19 (by decide) ?_
    exact zr_zret hx hb hr hlocks (Or.inl rfl) hB hg hw hS d_X_isThing_20
  · have hB := hB.2 cd
    refine lv_iload_n hx hb d_X_isThing_4 rfl (lv_at hl 1 rfl) ?_
    refine zr_aload_n (o := some b) hx hb d_X_isThing_5 rfl (lv_at hl 0 rfl) ?_
    refine zr_get (v := va_rf (s_r σ b 0)) hx hb hC hw rfl hsb fl_X_10 rfl d_X_isThing_6 ?_
    obtain ⟨q1, ho1, hs1, hB⟩ := hB
    refine zr_get (v := .int (s_i σ q1 3)) hx hb hC hw ho1 hs1 fl_X_61 rfl d_X_isThing_9 ?_
    refine lv_icmp_ge (tgt := 19) hx hb d_X_isThing_12 (by decide) (fun cd => ?_) (fun cd => ?_)
    · have hB := hB.1 cd
      refine lv_iconst (v := nI 0) hx hb d_X_isThing_19 (by decide) ?_
      exact zr_zret hx hb hr hlocks (Or.inl rfl) hB hg hw hS d_X_isThing_20
    · have hB := hB.2 cd
      refine lv_iconst (v := nI 1) hx hb d_X_isThing_15 (by decide) ?_
      refine lv_goto (tgt := 20) hx hb d_X_isThing_16 (by decide) ?_
      exact zr_zret hx hb hr hlocks (Or.inr rfl) hB hg hw hS d_X_isThing_20

set_option maxHeartbeats 4000000 in
set_option maxRecDepth 100000 in
theorem c_X_changeTo (l : Launch) (D : va_G) (B : Nat) (b : Nat) (x1 : Int32) (σ : St) (Q : Int32 → St → Prop) (h : P_X_changeTo b x1 σ Q) : zM l y_X_changeTo b_X_changeTo 2 (some (.int)) (rm_X_changeTo) D B [.ref b, .int x1] σ (zQi Q) := by
  refine zM.ofW (own := "LawWorlds") (by decide +kernel) rfl (Nat.le_of_ble_eq_true rfl) ?_
  intro p e s m args below meth c ls hx hb hml hr hlocks hname hC hwk hw hS hl
  obtain ⟨σ0, eσ⟩ : ∃ z, z = σ := ⟨_, rfl⟩
  have hg : gr σ0 σ := by rw [eσ]; exact gr.rf
  have hl : lv_has ls 2 [(0, va_rf (some b)), (1, .int x1)] := hl
  obtain ⟨hsb, hB⟩ := h
  have hsb0 : s_s σ0 b = some (.inl 0) := by rw [eσ]; exact hsb
  rw [← eσ]
  skip
  refine lv_iload_n hx hb d_X_changeTo_0 rfl (lv_at hl 1 rfl) ?_
  refine zr_aload_n (o := some b) hx hb d_X_changeTo_1 rfl (lv_at hl 0 rfl) ?_
  refine zr_get (v := va_rf (s_r σ b 0)) hx hb hC hw rfl hsb fl_X_10 rfl d_X_changeTo_2 ?_
  obtain ⟨q1, ho1, hs1, hB⟩ := hB
  refine zr_get (v := .int (s_i σ q1 4)) hx hb hC hw ho1 hs1 fl_X_65 rfl d_X_changeTo_5 ?_
  refine lv_icmp_ne (tgt := 14) hx hb d_X_changeTo_8 (by decide) (fun cd => ?_) (fun cd => ?_)
  · have hB := hB.2 cd
    refine zr_aload_n (o := some b) hx hb d_X_changeTo_14 rfl (lv_at hl 0 rfl) ?_
    refine zr_get (v := va_rf (s_r σ b 1)) hx hb hC hw rfl hsb fl_X_19 rfl d_X_changeTo_15 ?_
    refine zr_aload_n (o := some b) hx hb d_X_changeTo_18 rfl (lv_at hl 0 rfl) ?_
    refine zr_get (v := va_rf (s_r σ b 0)) hx hb hC hw rfl hsb fl_X_10 rfl d_X_changeTo_19 ?_
    obtain ⟨q2, ho2, hB⟩ := hB
    have hsr := And.left hB
    refine zr_callV (ci := 2) (As := [va_rf (s_r σ b 0)]) (rest := []) hx hb hml hC hwk hw hS hl.1 (c_H_record l D B q2 (s_r σ b 0) σ _ hB) mk_H_record mi_H_record ms_H_record ml_X_68 ⟨Nat.le_of_ble_eq_true rfl, Nat.le_of_ble_eq_true rfl⟩ ho2 hsr rfl (cat_8 cat_n (Nat.le_of_ble_eq_true rfl)) d_X_changeTo_22 ⟨Nat.le_refl _, Nat.le_refl _⟩ rfl (fun v σ3 H locs hp hgn hw hS => ?_)
    have hg := hg.tr hgn
    have hsb := hgn _ _ hsb
    have hs1 := hgn _ _ hs1
    obtain ⟨rfl, hB⟩ := hp
    refine W.eq (g2 := F0 m 25 ls []) rfl ?_
    refine zr_aload_n (o := some b) hx hb d_X_changeTo_25 rfl (lv_at hl 0 rfl) ?_
    refine zr_get (v := va_rf (s_r σ3 b 0)) hx hb hC hw rfl hsb fl_X_10 rfl d_X_changeTo_26 ?_
    refine lv_iload_n hx hb d_X_changeTo_29 rfl (lv_at hl 1 rfl) ?_
    obtain ⟨q4, ho4, hs4, hB⟩ := hB
    refine zr_putI hx hb hC hw hS ho4 hs4 fl_X_65 rfl rfl d_X_changeTo_30 (fun H locs hw hS => ?_)
    refine lv_iload_n hx hb d_X_changeTo_33 rfl (lv_at hl 1 rfl) ?_
    exact zr_iret hx hb hr hlocks hB hg hw hS d_X_changeTo_34
  · have hB := hB.1 cd
    refine lv_bipush (v := (-5)) hx hb d_X_changeTo_11 (by decide) ?_
    exact zr_iret hx hb hr hlocks hB hg hw hS d_X_changeTo_13

set_option maxHeartbeats 4000000 in
set_option maxRecDepth 100000 in
theorem c_X_put (l : Launch) (D : va_G) (B : Nat) (b : Nat) (x1 : Int32) (x2 : Int32) (x3 : Int32) (σ : St) (Q : Int32 → St → Prop) (h : P_X_put b x1 x2 x3 σ Q) : zM l y_X_put b_X_put 5 (some (.int)) (rm_X_put) D B [.ref b, .int x1, .int x2, .int x3] σ (zQi Q) := by
  refine zM.ofW (own := "LawWorlds") (by decide +kernel) rfl (Nat.le_of_ble_eq_true rfl) ?_
  intro p e s m args below meth c ls hx hb hml hr hlocks hname hC hwk hw hS hl
  obtain ⟨σ0, eσ⟩ : ∃ z, z = σ := ⟨_, rfl⟩
  have hg : gr σ0 σ := by rw [eσ]; exact gr.rf
  have hl : lv_has ls 5 [(0, va_rf (some b)), (1, .int x1), (2, .int x2), (3, .int x3)] := hl
  obtain ⟨hsb, hB⟩ := h
  have hsb0 : s_s σ0 b = some (.inl 0) := by rw [eσ]; exact hsb
  rw [← eσ]
  skip
  refine zr_aload_n (o := some b) hx hb d_X_put_0 rfl (lv_at hl 0 rfl) ?_
  refine lv_iload_n hx hb d_X_put_1 rfl (lv_at hl 1 rfl) ?_
  have hsr := And.left hB
  refine zr_callV (ci := 0) (As := [.int x1]) (rest := []) hx hb hml hC hwk hw hS hl.1 (c_X_isThing l D B b x1 σ _ hB) mk_X_isThing mi_X_isThing ms_X_isThing ml_X_72 ⟨Nat.le_of_ble_eq_true rfl, Nat.le_of_ble_eq_true rfl⟩ rfl hsr rfl (cat_8 cat_n (Nat.le_of_ble_eq_true rfl)) d_X_put_2 ⟨Nat.le_refl _, Nat.le_refl _⟩ rfl (fun v σ1 H locs hp hgn hw hS => ?_)
  have hg := hg.tr hgn
  have hsb := hgn _ _ hsb
  obtain ⟨r2, rfl, hB⟩ := hp
  refine W.eq (g2 := F0 m 5 ls [.int r2]) rfl ?_
  refine lv_if_eq (tgt := 24) hx hb d_X_put_5 (by decide) (fun cd => ?_) (fun cd => ?_)
  · have hB := hB.1 cd
    refine lv_iconst (v := (-1)) hx hb d_X_put_24 (by decide) ?_
    exact zr_iret hx hb hr hlocks hB hg hw hS d_X_put_25
  · have hB := hB.2 cd
    refine zr_aload_n (o := some b) hx hb d_X_put_8 rfl (lv_at hl 0 rfl) ?_
    refine lv_iload_n hx hb d_X_put_9 rfl (lv_at hl 2 rfl) ?_
    have hsr := And.left hB
    refine zr_callV (ci := 0) (As := [.int x2]) (rest := []) hx hb hml hC hwk hw hS hl.1 (c_X_isThing l D B b x2 σ1 _ hB) mk_X_isThing mi_X_isThing ms_X_isThing ml_X_72 ⟨Nat.le_of_ble_eq_true rfl, Nat.le_of_ble_eq_true rfl⟩ rfl hsr rfl (cat_8 cat_n (Nat.le_of_ble_eq_true rfl)) d_X_put_10 ⟨Nat.le_refl _, Nat.le_refl _⟩ rfl (fun v σ3 H locs hp hgn hw hS => ?_)
    have hg := hg.tr hgn
    have hsb := hgn _ _ hsb
    obtain ⟨r4, rfl, hB⟩ := hp
    refine W.eq (g2 := F0 m 13 ls [.int r4]) rfl ?_
    refine lv_if_eq (tgt := 24) hx hb d_X_put_13 (by decide) (fun cd => ?_) (fun cd => ?_)
    · have hB := hB.1 cd
      refine lv_iconst (v := (-1)) hx hb d_X_put_24 (by decide) ?_
      exact zr_iret hx hb hr hlocks hB hg hw hS d_X_put_25
    · have hB := hB.2 cd
      refine zr_aload_n (o := some b) hx hb d_X_put_16 rfl (lv_at hl 0 rfl) ?_
      refine lv_iload_n hx hb d_X_put_17 rfl (lv_at hl 3 rfl) ?_
      have hsr := And.left hB
      refine zr_callV (ci := 0) (As := [.int x3]) (rest := []) hx hb hml hC hwk hw hS hl.1 (c_X_isThing l D B b x3 σ3 _ hB) mk_X_isThing mi_X_isThing ms_X_isThing ml_X_72 ⟨Nat.le_of_ble_eq_true rfl, Nat.le_of_ble_eq_true rfl⟩ rfl hsr rfl (cat_8 cat_n (Nat.le_of_ble_eq_true rfl)) d_X_put_18 ⟨Nat.le_refl _, Nat.le_refl _⟩ rfl (fun v σ5 H locs hp hgn hw hS => ?_)
      have hg := hg.tr hgn
      have hsb := hgn _ _ hsb
      obtain ⟨r6, rfl, hB⟩ := hp
      refine W.eq (g2 := F0 m 21 ls [.int r6]) rfl ?_
      refine lv_if_ne (tgt := 26) hx hb d_X_put_21 (by decide) (fun cd => ?_) (fun cd => ?_)
      · have hB := hB.2 cd
        refine lv_iload_n hx hb d_X_put_26 rfl (lv_at hl 3 rfl) ?_
        refine zr_aload_n (o := some b) hx hb d_X_put_27 rfl (lv_at hl 0 rfl) ?_
        refine zr_get (v := va_rf (s_r σ5 b 0)) hx hb hC hw rfl hsb fl_X_10 rfl d_X_put_28 ?_
        obtain ⟨q7, ho7, hs7, hB⟩ := hB
        refine zr_get (v := .int (s_i σ5 q7 3)) hx hb hC hw ho7 hs7 fl_X_61 rfl d_X_put_31 ?_
        refine zr_aload_n (o := some b) hx hb d_X_put_34 rfl (lv_at hl 0 rfl) ?_
        refine zr_get (v := va_rf (s_r σ5 b 0)) hx hb hC hw rfl hsb fl_X_10 rfl d_X_put_35 ?_
        obtain ⟨q8, ho8, hs8, hB⟩ := hB
        refine zr_get (v := .int (s_i σ5 q8 4)) hx hb hC hw ho8 hs8 fl_X_65 rfl d_X_put_38 ?_
        refine lv_iload_n hx hb d_X_put_41 rfl (lv_at hl 1 rfl) ?_
        refine lv_iload_n hx hb d_X_put_42 rfl (lv_at hl 2 rfl) ?_
        refine zr_callS (As := [.int (s_i σ5 q7 3), .int (s_i σ5 q8 4), .int x1, .int x2]) (rest := [.int x3]) hx hb hml hC hwk hw hS hl.1 (c_C_product l D B (s_i σ5 q7 3) (s_i σ5 q8 4) x1 x2 σ5 _ hB) mk_C_product mt_C_product ml_X_76 ⟨Nat.le_of_ble_eq_true rfl, Nat.le_of_ble_eq_true rfl⟩ rfl (cat_8 (cat_c rfl cat_n) (Nat.le_of_ble_eq_true rfl)) d_X_put_43 ⟨Nat.le_refl _, Nat.le_refl _⟩ rfl (fun v σ9 H locs hp hgn hw hS => ?_)
        have hg := hg.tr hgn
        have hsb := hgn _ _ hsb
        have hs7 := hgn _ _ hs7
        have hs8 := hgn _ _ hs8
        obtain ⟨r10, rfl, hB⟩ := hp
        refine W.eq (g2 := F0 m 46 ls [.int r10, .int x3]) rfl ?_
        refine lv_isub hx hb d_X_put_46 ?_
        refine lv_istore (lv' := [(4, .int (x3 - r10)), (0, va_rf (some b)), (1, .int x1), (2, .int x2), (3, .int x3)]) hx hb d_X_put_47 hl (by decide) rfl (fun ls hl => ?_)
        refine zr_aload_n (o := some b) hx hb d_X_put_49 rfl (lv_at hl 1 rfl) ?_
        refine zr_aload_n (o := some b) hx hb d_X_put_50 rfl (lv_at hl 1 rfl) ?_
        refine zr_get (v := va_rf (s_r σ9 b 0)) hx hb hC hw rfl hsb fl_X_10 rfl d_X_put_51 ?_
        obtain ⟨q11, ho11, hs11, hB⟩ := hB
        refine zr_get (v := .int (s_i σ9 q11 4)) hx hb hC hw ho11 hs11 fl_X_65 rfl d_X_put_54 ?_
        refine lv_iload hx hb d_X_put_57 (lv_at hl 0 rfl) ?_
        refine zr_aload_n (o := some b) hx hb d_X_put_59 rfl (lv_at hl 1 rfl) ?_
        refine zr_get (v := va_rf (s_r σ9 b 0)) hx hb hC hw rfl hsb fl_X_10 rfl d_X_put_60 ?_
        obtain ⟨q12, ho12, hs12, hB⟩ := hB
        refine zr_get (v := .int (s_i σ9 q12 3)) hx hb hC hw ho12 hs12 fl_X_61 rfl d_X_put_63 ?_
        refine zr_aload_n (o := some b) hx hb d_X_put_66 rfl (lv_at hl 1 rfl) ?_
        refine zr_get (v := va_rf (s_r σ9 b 0)) hx hb hC hw rfl hsb fl_X_10 rfl d_X_put_67 ?_
        obtain ⟨q13, ho13, hs13, hB⟩ := hB
        refine zr_get (v := .int (s_i σ9 q13 3)) hx hb hC hw ho13 hs13 fl_X_61 rfl d_X_put_70 ?_
        refine lv_iload_n hx hb d_X_put_73 rfl (lv_at hl 2 rfl) ?_
        refine lv_imul hx hb d_X_put_74 ?_
        refine lv_iload_n hx hb d_X_put_75 rfl (lv_at hl 3 rfl) ?_
        refine lv_iadd hx hb d_X_put_76 ?_
        refine zr_callS (As := [.int (s_i σ9 q12 3), .int (((s_i σ9 q13 3) * x1) + x2)]) (rest := [.int (x3 - r10), .int (s_i σ9 q11 4), va_rf (some b)]) hx hb hml hC hwk hw hS hl.1 (c_C_power l D B (s_i σ9 q12 3) (((s_i σ9 q13 3) * x1) + x2) σ9 _ hB) mk_C_power mt_C_power ml_X_80 ⟨Nat.le_of_ble_eq_true rfl, Nat.le_of_ble_eq_true rfl⟩ rfl (cat_8 (cat_c rfl (cat_c rfl (cat_c (va_rf_cat _) cat_n))) (Nat.le_of_ble_eq_true rfl)) d_X_put_77 ⟨Nat.le_refl _, Nat.le_refl _⟩ rfl (fun v σ14 H locs hp hgn hw hS => ?_)
        have hg := hg.tr hgn
        have hsb := hgn _ _ hsb
        have hs7 := hgn _ _ hs7
        have hs8 := hgn _ _ hs8
        have hs11 := hgn _ _ hs11
        have hs12 := hgn _ _ hs12
        have hs13 := hgn _ _ hs13
        obtain ⟨r15, rfl, hB⟩ := hp
        refine W.eq (g2 := F0 m 80 ls [.int r15, .int (x3 - r10), .int (s_i σ9 q11 4), va_rf (some b)]) rfl ?_
        refine lv_imul hx hb d_X_put_80 ?_
        refine lv_iadd hx hb d_X_put_81 ?_
        have hsr := And.left hB
        refine zr_callV (ci := 0) (As := [.int ((s_i σ9 q11 4) + ((x3 - r10) * r15))]) (rest := []) hx hb hml hC hwk hw hS hl.1 (c_X_changeTo l D B b ((s_i σ9 q11 4) + ((x3 - r10) * r15)) σ14 _ hB) mk_X_changeTo mi_X_changeTo ms_X_changeTo ml_X_84 ⟨Nat.le_of_ble_eq_true rfl, Nat.le_of_ble_eq_true rfl⟩ rfl hsr rfl (cat_8 cat_n (Nat.le_of_ble_eq_true rfl)) d_X_put_82 ⟨Nat.le_refl _, Nat.le_refl _⟩ rfl (fun v σ16 H locs hp hgn hw hS => ?_)
        have hg := hg.tr hgn
        have hsb := hgn _ _ hsb
        have hs7 := hgn _ _ hs7
        have hs8 := hgn _ _ hs8
        have hs11 := hgn _ _ hs11
        have hs12 := hgn _ _ hs12
        have hs13 := hgn _ _ hs13
        obtain ⟨r17, rfl, hB⟩ := hp
        refine W.eq (g2 := F0 m 85 ls [.int r17]) rfl ?_
        exact zr_iret hx hb hr hlocks hB hg hw hS d_X_put_85
      · have hB := hB.1 cd
        refine lv_iconst (v := (-1)) hx hb d_X_put_24 (by decide) ?_
        exact zr_iret hx hb hr hlocks hB hg hw hS d_X_put_25

set_option maxHeartbeats 4000000 in
set_option maxRecDepth 100000 in
theorem c_X_rename (l : Launch) (D : va_G) (B : Nat) (b : Nat) (x1 : Int32) (x2 : Int32) (σ : St) (Q : Int32 → St → Prop) (h : P_X_rename b x1 x2 σ Q) : zM l y_X_rename b_X_rename 3 (some (.int)) (rm_X_rename) D B [.ref b, .int x1, .int x2] σ (zQi Q) := by
  refine zM.ofW (own := "LawWorlds") (by decide +kernel) rfl (Nat.le_of_ble_eq_true rfl) ?_
  intro p e s m args below meth c ls hx hb hml hr hlocks hname hC hwk hw hS hl
  obtain ⟨σ0, eσ⟩ : ∃ z, z = σ := ⟨_, rfl⟩
  have hg : gr σ0 σ := by rw [eσ]; exact gr.rf
  have hl : lv_has ls 3 [(0, va_rf (some b)), (1, .int x1), (2, .int x2)] := hl
  obtain ⟨hsb, hB⟩ := h
  have hsb0 : s_s σ0 b = some (.inl 0) := by rw [eσ]; exact hsb
  rw [← eσ]
  skip
  refine zr_aload_n (o := some b) hx hb d_X_rename_0 rfl (lv_at hl 0 rfl) ?_
  refine lv_iload_n hx hb d_X_rename_1 rfl (lv_at hl 1 rfl) ?_
  have hsr := And.left hB
  refine zr_callV (ci := 0) (As := [.int x1]) (rest := []) hx hb hml hC hwk hw hS hl.1 (c_X_isThing l D B b x1 σ _ hB) mk_X_isThing mi_X_isThing ms_X_isThing ml_X_72 ⟨Nat.le_of_ble_eq_true rfl, Nat.le_of_ble_eq_true rfl⟩ rfl hsr rfl (cat_8 cat_n (Nat.le_of_ble_eq_true rfl)) d_X_rename_2 ⟨Nat.le_refl _, Nat.le_refl _⟩ rfl (fun v σ1 H locs hp hgn hw hS => ?_)
  have hg := hg.tr hgn
  have hsb := hgn _ _ hsb
  obtain ⟨r2, rfl, hB⟩ := hp
  refine W.eq (g2 := F0 m 5 ls [.int r2]) rfl ?_
  refine lv_if_eq (tgt := 16) hx hb d_X_rename_5 (by decide) (fun cd => ?_) (fun cd => ?_)
  · have hB := hB.1 cd
    refine lv_iconst (v := (-1)) hx hb d_X_rename_16 (by decide) ?_
    exact zr_iret hx hb hr hlocks hB hg hw hS d_X_rename_17
  · have hB := hB.2 cd
    refine zr_aload_n (o := some b) hx hb d_X_rename_8 rfl (lv_at hl 0 rfl) ?_
    refine lv_iload_n hx hb d_X_rename_9 rfl (lv_at hl 2 rfl) ?_
    have hsr := And.left hB
    refine zr_callV (ci := 0) (As := [.int x2]) (rest := []) hx hb hml hC hwk hw hS hl.1 (c_X_isThing l D B b x2 σ1 _ hB) mk_X_isThing mi_X_isThing ms_X_isThing ml_X_72 ⟨Nat.le_of_ble_eq_true rfl, Nat.le_of_ble_eq_true rfl⟩ rfl hsr rfl (cat_8 cat_n (Nat.le_of_ble_eq_true rfl)) d_X_rename_10 ⟨Nat.le_refl _, Nat.le_refl _⟩ rfl (fun v σ3 H locs hp hgn hw hS => ?_)
    have hg := hg.tr hgn
    have hsb := hgn _ _ hsb
    obtain ⟨r4, rfl, hB⟩ := hp
    refine W.eq (g2 := F0 m 13 ls [.int r4]) rfl ?_
    refine lv_if_ne (tgt := 18) hx hb d_X_rename_13 (by decide) (fun cd => ?_) (fun cd => ?_)
    · have hB := hB.2 cd
      refine lv_iload_n hx hb d_X_rename_18 rfl (lv_at hl 1 rfl) ?_
      refine lv_iload_n hx hb d_X_rename_19 rfl (lv_at hl 2 rfl) ?_
      refine lv_icmp_ne (tgt := 26) hx hb d_X_rename_20 (by decide) (fun cd => ?_) (fun cd => ?_)
      · have hB := hB.2 cd
        refine zr_aload_n (o := some b) hx hb d_X_rename_26 rfl (lv_at hl 0 rfl) ?_
        refine zr_aload_n (o := some b) hx hb d_X_rename_27 rfl (lv_at hl 0 rfl) ?_
        refine zr_get (v := va_rf (s_r σ3 b 0)) hx hb hC hw rfl hsb fl_X_10 rfl d_X_rename_28 ?_
        obtain ⟨q5, ho5, hs5, hB⟩ := hB
        refine zr_get (v := .int (s_i σ3 q5 3)) hx hb hC hw ho5 hs5 fl_X_61 rfl d_X_rename_31 ?_
        refine zr_aload_n (o := some b) hx hb d_X_rename_34 rfl (lv_at hl 0 rfl) ?_
        refine zr_get (v := va_rf (s_r σ3 b 0)) hx hb hC hw rfl hsb fl_X_10 rfl d_X_rename_35 ?_
        obtain ⟨q6, ho6, hs6, hB⟩ := hB
        refine zr_get (v := .int (s_i σ3 q6 4)) hx hb hC hw ho6 hs6 fl_X_65 rfl d_X_rename_38 ?_
        refine lv_iload_n hx hb d_X_rename_41 rfl (lv_at hl 1 rfl) ?_
        refine lv_iload_n hx hb d_X_rename_42 rfl (lv_at hl 2 rfl) ?_
        refine zr_callS (As := [.int x1, .int x2]) (rest := [.int (s_i σ3 q6 4), .int (s_i σ3 q5 3), va_rf (some b)]) hx hb hml hC hwk hw hS hl.1 (c_C_exchange l D B x1 x2 σ3 _ hB) mk_C_exchange mt_C_exchange ml_X_88 ⟨Nat.le_of_ble_eq_true rfl, Nat.le_of_ble_eq_true rfl⟩ rfl (cat_8 (cat_c rfl (cat_c rfl (cat_c (va_rf_cat _) cat_n))) (Nat.le_of_ble_eq_true rfl)) d_X_rename_43 ⟨Nat.le_refl _, Nat.le_refl _⟩ rfl (fun v σ7 H locs hp hgn hw hS => ?_)
        have hg := hg.tr hgn
        have hsb := hgn _ _ hsb
        have hs5 := hgn _ _ hs5
        have hs6 := hgn _ _ hs6
        obtain ⟨r8, rfl, hB⟩ := hp
        refine W.eq (g2 := F0 m 46 ls [.int r8, .int (s_i σ3 q6 4), .int (s_i σ3 q5 3), va_rf (some b)]) rfl ?_
        refine zr_callS (As := [.int (s_i σ3 q5 3), .int (s_i σ3 q6 4), .int r8]) (rest := [va_rf (some b)]) hx hb hml hC hwk hw hS hl.1 (c_C_renamed l D B (s_i σ3 q5 3) (s_i σ3 q6 4) r8 σ7 _ hB) mk_C_renamed mt_C_renamed ml_X_91 ⟨Nat.le_of_ble_eq_true rfl, Nat.le_of_ble_eq_true rfl⟩ rfl (cat_8 (cat_c (va_rf_cat _) cat_n) (Nat.le_of_ble_eq_true rfl)) d_X_rename_46 ⟨Nat.le_refl _, Nat.le_refl _⟩ rfl (fun v σ9 H locs hp hgn hw hS => ?_)
        have hg := hg.tr hgn
        have hsb := hgn _ _ hsb
        have hs5 := hgn _ _ hs5
        have hs6 := hgn _ _ hs6
        obtain ⟨r10, rfl, hB⟩ := hp
        refine W.eq (g2 := F0 m 49 ls [.int r10, va_rf (some b)]) rfl ?_
        have hsr := And.left hB
        refine zr_callV (ci := 0) (As := [.int r10]) (rest := []) hx hb hml hC hwk hw hS hl.1 (c_X_changeTo l D B b r10 σ9 _ hB) mk_X_changeTo mi_X_changeTo ms_X_changeTo ml_X_84 ⟨Nat.le_of_ble_eq_true rfl, Nat.le_of_ble_eq_true rfl⟩ rfl hsr rfl (cat_8 cat_n (Nat.le_of_ble_eq_true rfl)) d_X_rename_49 ⟨Nat.le_refl _, Nat.le_refl _⟩ rfl (fun v σ11 H locs hp hgn hw hS => ?_)
        have hg := hg.tr hgn
        have hsb := hgn _ _ hsb
        have hs5 := hgn _ _ hs5
        have hs6 := hgn _ _ hs6
        obtain ⟨r12, rfl, hB⟩ := hp
        refine W.eq (g2 := F0 m 52 ls [.int r12]) rfl ?_
        exact zr_iret hx hb hr hlocks hB hg hw hS d_X_rename_52
      · have hB := hB.1 cd
        refine lv_bipush (v := (-2)) hx hb d_X_rename_23 (by decide) ?_
        exact zr_iret hx hb hr hlocks hB hg hw hS d_X_rename_25
    · have hB := hB.1 cd
      refine lv_iconst (v := (-1)) hx hb d_X_rename_16 (by decide) ?_
      exact zr_iret hx hb hr hlocks hB hg hw hS d_X_rename_17

set_option maxHeartbeats 4000000 in
set_option maxRecDepth 100000 in
theorem c_X_mirror (l : Launch) (D : va_G) (B : Nat) (b : Nat) (σ : St) (Q : Int32 → St → Prop) (h : P_X_mirror b σ Q) : zM l y_X_mirror b_X_mirror 1 (some (.int)) (rm_X_mirror) D B [.ref b] σ (zQi Q) := by
  refine zM.ofW (own := "LawWorlds") (by decide +kernel) rfl (Nat.le_of_ble_eq_true rfl) ?_
  intro p e s m args below meth c ls hx hb hml hr hlocks hname hC hwk hw hS hl
  obtain ⟨σ0, eσ⟩ : ∃ z, z = σ := ⟨_, rfl⟩
  have hg : gr σ0 σ := by rw [eσ]; exact gr.rf
  have hl : lv_has ls 1 [(0, va_rf (some b))] := hl
  obtain ⟨hsb, hB⟩ := h
  have hsb0 : s_s σ0 b = some (.inl 0) := by rw [eσ]; exact hsb
  rw [← eσ]
  skip
  refine zr_aload_n (o := some b) hx hb d_X_mirror_0 rfl (lv_at hl 0 rfl) ?_
  refine zr_aload_n (o := some b) hx hb d_X_mirror_1 rfl (lv_at hl 0 rfl) ?_
  refine zr_get (v := va_rf (s_r σ b 0)) hx hb hC hw rfl hsb fl_X_10 rfl d_X_mirror_2 ?_
  obtain ⟨q1, ho1, hs1, hB⟩ := hB
  refine zr_get (v := .int (s_i σ q1 3)) hx hb hC hw ho1 hs1 fl_X_61 rfl d_X_mirror_5 ?_
  refine zr_aload_n (o := some b) hx hb d_X_mirror_8 rfl (lv_at hl 0 rfl) ?_
  refine zr_get (v := va_rf (s_r σ b 0)) hx hb hC hw rfl hsb fl_X_10 rfl d_X_mirror_9 ?_
  obtain ⟨q2, ho2, hs2, hB⟩ := hB
  refine zr_get (v := .int (s_i σ q2 4)) hx hb hC hw ho2 hs2 fl_X_65 rfl d_X_mirror_12 ?_
  refine zr_callS (As := [.int (s_i σ q1 3), .int (s_i σ q2 4)]) (rest := [va_rf (some b)]) hx hb hml hC hwk hw hS hl.1 (c_C_mirrored l D B (s_i σ q1 3) (s_i σ q2 4) σ _ hB) mk_C_mirrored mt_C_mirrored ml_X_95 ⟨Nat.le_of_ble_eq_true rfl, Nat.le_of_ble_eq_true rfl⟩ rfl (cat_8 (cat_c (va_rf_cat _) cat_n) (Nat.le_of_ble_eq_true rfl)) d_X_mirror_15 ⟨Nat.le_refl _, Nat.le_refl _⟩ rfl (fun v σ3 H locs hp hgn hw hS => ?_)
  have hg := hg.tr hgn
  have hsb := hgn _ _ hsb
  have hs1 := hgn _ _ hs1
  have hs2 := hgn _ _ hs2
  obtain ⟨r4, rfl, hB⟩ := hp
  refine W.eq (g2 := F0 m 18 ls [.int r4, va_rf (some b)]) rfl ?_
  have hsr := And.left hB
  refine zr_callV (ci := 0) (As := [.int r4]) (rest := []) hx hb hml hC hwk hw hS hl.1 (c_X_changeTo l D B b r4 σ3 _ hB) mk_X_changeTo mi_X_changeTo ms_X_changeTo ml_X_84 ⟨Nat.le_of_ble_eq_true rfl, Nat.le_of_ble_eq_true rfl⟩ rfl hsr rfl (cat_8 cat_n (Nat.le_of_ble_eq_true rfl)) d_X_mirror_18 ⟨Nat.le_refl _, Nat.le_refl _⟩ rfl (fun v σ5 H locs hp hgn hw hS => ?_)
  have hg := hg.tr hgn
  have hsb := hgn _ _ hsb
  have hs1 := hgn _ _ hs1
  have hs2 := hgn _ _ hs2
  obtain ⟨r6, rfl, hB⟩ := hp
  refine W.eq (g2 := F0 m 21 ls [.int r6]) rfl ?_
  exact zr_iret hx hb hr hlocks hB hg hw hS d_X_mirror_21

set_option maxHeartbeats 4000000 in
set_option maxRecDepth 100000 in
theorem c_X_addLaws (l : Launch) (D : va_G) (B : Nat) (b : Nat) (σ : St) (Q : Int32 → St → Prop) (h : P_X_addLaws b σ Q) : zM l y_X_addLaws b_X_addLaws 3 (some (.int)) (rm_X_addLaws) D B [.ref b] σ (zQi Q) := by
  refine zM.ofW (own := "LawWorlds") (by decide +kernel) rfl (Nat.le_of_ble_eq_true rfl) ?_
  intro p e s m args below meth c ls hx hb hml hr hlocks hname hC hwk hw hS hl
  obtain ⟨σ0, eσ⟩ : ∃ z, z = σ := ⟨_, rfl⟩
  have hg : gr σ0 σ := by rw [eσ]; exact gr.rf
  have hl : lv_has ls 3 [(0, va_rf (some b))] := hl
  obtain ⟨hsb, hB⟩ := h
  have hsb0 : s_s σ0 b = some (.inl 0) := by rw [eσ]; exact hsb
  rw [← eσ]
  skip
  obtain ⟨K61, hK61⟩ : ∃ K : Int32 → St → Prop, K = (fun (x2 : Int32) (σ : St) => ∀ (H : Heap) (locs : List Loc) (ls : Array Slot), gr σ0 σ → wh D B σ s H → va_S (zA B) s.heap H locs → lv_has ls 3 [(0, va_rf (some b)), (2, .int x2)] → W p l e (rm_X_addLaws) s m args below meth c H locs 0 0 (MQ below (zQ D B σ0 (zQi Q)) args s (rm_X_addLaws).cells (rm_X_addLaws).slots (zA B)) (F0 m 61 ls [])) := ⟨_, rfl⟩
  refine (fun hB => ?_) (hB K61 ?_)
  · skip
    refine zr_aload_n (o := some b) hx hb d_X_addLaws_0 rfl (lv_at hl 0 rfl) ?_
    refine zr_get (v := va_rf (s_r σ b 5)) hx hb hC hw rfl hsb fl_X_47 rfl d_X_addLaws_1 ?_
    refine zr_aload_n (o := some b) hx hb d_X_addLaws_4 rfl (lv_at hl 0 rfl) ?_
    refine zr_get (v := va_rf (s_r σ b 6)) hx hb hC hw rfl hsb fl_X_51 rfl d_X_addLaws_5 ?_
    refine zr_aload_n (o := some b) hx hb d_X_addLaws_8 rfl (lv_at hl 0 rfl) ?_
    refine zr_get (v := .int (s_i σ b 7)) hx hb hC hw rfl hsb fl_X_98 rfl d_X_addLaws_9 ?_
    obtain ⟨q8, ho8, hB⟩ := hB
    have hsr := And.left hB
    refine zr_callV (ci := 8) (As := [va_rf (s_r σ b 6), .int (s_i σ b 7)]) (rest := []) hx hb hml hC hwk hw hS hl.1 (c_D_read l D B q8 (s_r σ b 6) (s_i σ b 7) σ _ hB) mk_D_read mi_D_read ms_D_read ml_X_101 ⟨Nat.le_of_ble_eq_true rfl, Nat.le_of_ble_eq_true rfl⟩ ho8 hsr rfl (cat_8 cat_n (Nat.le_of_ble_eq_true rfl)) d_X_addLaws_12 ⟨Nat.le_refl _, Nat.le_refl _⟩ rfl (fun v σ9 H locs hp hgn hw hS => ?_)
    have hg := hg.tr hgn
    have hsb := hgn _ _ hsb
    obtain ⟨r10, rfl, hB⟩ := hp
    refine W.eq (g2 := F0 m 15 ls [.int r10]) rfl ?_
    refine lv_istore_n (lv' := [(1, .int r10), (0, va_rf (some b))]) hx hb d_X_addLaws_15 rfl hl (by decide) rfl (fun ls hl => ?_)
    refine lv_iload_n hx hb d_X_addLaws_16 rfl (lv_at hl 0 rfl) ?_
    refine lv_iconst (v := (-1)) hx hb d_X_addLaws_17 (by decide) ?_
    refine lv_icmp_eq (tgt := 26) hx hb d_X_addLaws_18 (by decide) (fun cd => ?_) (fun cd => ?_)
    · have hB := hB.1 cd
      refine zr_aload_n (o := some b) hx hb d_X_addLaws_26 rfl (lv_at hl 1 rfl) ?_
      refine zr_get (v := va_rf (s_r σ9 b 0)) hx hb hC hw rfl hsb fl_X_10 rfl d_X_addLaws_27 ?_
      obtain ⟨q11, ho11, hs11, hB⟩ := hB
      refine zr_get (v := .int (s_i σ9 q11 2)) hx hb hC hw ho11 hs11 fl_X_105 rfl d_X_addLaws_30 ?_
      refine zr_aload_n (o := some b) hx hb d_X_addLaws_33 rfl (lv_at hl 1 rfl) ?_
      refine zr_get (v := va_rf (s_r σ9 b 5)) hx hb hC hw rfl hsb fl_X_47 rfl d_X_addLaws_34 ?_
      obtain ⟨q12, ho12, hs12, hB⟩ := hB
      refine zr_get (v := .int (s_i σ9 q12 1)) hx hb hC hw ho12 hs12 fl_X_108 rfl d_X_addLaws_37 ?_
      refine lv_iadd hx hb d_X_addLaws_40 ?_
      refine lv_iconst (v := nI 5) hx hb d_X_addLaws_41 (by decide) ?_
      refine lv_icmp_le (tgt := 48) hx hb d_X_addLaws_42 (by decide) (fun cd => ?_) (fun cd => ?_)
      · have hB := hB.1 cd
        refine zr_aload_n (o := some b) hx hb d_X_addLaws_48 rfl (lv_at hl 1 rfl) ?_
        refine zr_get (v := va_rf (s_r σ9 b 1)) hx hb hC hw rfl hsb fl_X_19 rfl d_X_addLaws_49 ?_
        refine zr_aload_n (o := some b) hx hb d_X_addLaws_52 rfl (lv_at hl 1 rfl) ?_
        refine zr_get (v := va_rf (s_r σ9 b 0)) hx hb hC hw rfl hsb fl_X_10 rfl d_X_addLaws_53 ?_
        obtain ⟨q13, ho13, hB⟩ := hB
        have hsr := And.left hB
        refine zr_callV (ci := 2) (As := [va_rf (s_r σ9 b 0)]) (rest := []) hx hb hml hC hwk hw hS hl.1 (c_H_record l D B q13 (s_r σ9 b 0) σ9 _ hB) mk_H_record mi_H_record ms_H_record ml_X_68 ⟨Nat.le_of_ble_eq_true rfl, Nat.le_of_ble_eq_true rfl⟩ ho13 hsr rfl (cat_8 cat_n (Nat.le_of_ble_eq_true rfl)) d_X_addLaws_56 ⟨Nat.le_refl _, Nat.le_refl _⟩ rfl (fun v σ14 H locs hp hgn hw hS => ?_)
        have hg := hg.tr hgn
        have hsb := hgn _ _ hsb
        have hs11 := hgn _ _ hs11
        have hs12 := hgn _ _ hs12
        obtain ⟨rfl, hB⟩ := hp
        refine W.eq (g2 := F0 m 59 ls []) rfl ?_
        refine lv_iconst (v := nI 0) hx hb d_X_addLaws_59 (by decide) ?_
        refine lv_istore_n (lv' := [(2, .int (nI 0)), (1, .int r10), (0, va_rf (some b))]) hx hb d_X_addLaws_60 rfl hl (by decide) rfl (fun ls hl => ?_)
        rw [hK61] at hB
        exact hB _ _ _ hg hw hS (lv_sub hl [2, 0] rfl)
      · have hB := hB.2 cd
        refine lv_bipush (v := (-3)) hx hb d_X_addLaws_45 (by decide) ?_
        exact zr_iret hx hb hr hlocks hB hg hw hS d_X_addLaws_47
    · have hB := hB.2 cd
      refine lv_bipush (v := (-100)) hx hb d_X_addLaws_21 (by decide) ?_
      refine lv_iload_n hx hb d_X_addLaws_23 rfl (lv_at hl 0 rfl) ?_
      refine lv_isub hx hb d_X_addLaws_24 ?_
      exact zr_iret hx hb hr hlocks hB hg hw hS d_X_addLaws_25
  · intro x2 σ hB
    rw [hK61]
    intro H locs ls hg hw hS hl
    have hsb := hg _ _ hsb0
    refine lv_iload_n hx hb d_X_addLaws_61 rfl (lv_at hl 1 rfl) ?_
    refine zr_aload_n (o := some b) hx hb d_X_addLaws_62 rfl (lv_at hl 0 rfl) ?_
    refine zr_get (v := va_rf (s_r σ b 5)) hx hb hC hw rfl hsb fl_X_47 rfl d_X_addLaws_63 ?_
    obtain ⟨q1, ho1, hs1, hB⟩ := hB
    refine zr_get (v := .int (s_i σ q1 1)) hx hb hC hw ho1 hs1 fl_X_108 rfl d_X_addLaws_66 ?_
    refine lv_icmp_ge (tgt := 105) hx hb d_X_addLaws_69 (by decide) (fun cd => ?_) (fun cd => ?_)
    · have hB := hB.1 cd
      refine zr_aload_n (o := some b) hx hb d_X_addLaws_105 rfl (lv_at hl 0 rfl) ?_
      refine zr_get (v := va_rf (s_r σ b 5)) hx hb hC hw rfl hsb fl_X_47 rfl d_X_addLaws_106 ?_
      obtain ⟨q2, ho2, hs2, hB⟩ := hB
      refine zr_get (v := .int (s_i σ q2 1)) hx hb hC hw ho2 hs2 fl_X_108 rfl d_X_addLaws_109 ?_
      exact zr_iret hx hb hr hlocks hB hg hw hS d_X_addLaws_112
    · have hB := hB.2 cd
      refine zr_aload_n (o := some b) hx hb d_X_addLaws_72 rfl (lv_at hl 0 rfl) ?_
      refine zr_get (v := va_rf (s_r σ b 0)) hx hb hC hw rfl hsb fl_X_10 rfl d_X_addLaws_73 ?_
      refine zr_aload_n (o := some b) hx hb d_X_addLaws_76 rfl (lv_at hl 0 rfl) ?_
      refine zr_get (v := va_rf (s_r σ b 2)) hx hb hC hw rfl hsb fl_X_26 rfl d_X_addLaws_77 ?_
      refine zr_aload_n (o := some b) hx hb d_X_addLaws_80 rfl (lv_at hl 0 rfl) ?_
      refine zr_get (v := va_rf (s_r σ b 5)) hx hb hC hw rfl hsb fl_X_47 rfl d_X_addLaws_81 ?_
      refine lv_iload_n hx hb d_X_addLaws_84 rfl (lv_at hl 1 rfl) ?_
      refine zr_aload_n (o := some b) hx hb d_X_addLaws_85 rfl (lv_at hl 0 rfl) ?_
      refine zr_get (v := va_rf (s_r σ b 0)) hx hb hC hw rfl hsb fl_X_10 rfl d_X_addLaws_86 ?_
      refine zr_aload_n (o := some b) hx hb d_X_addLaws_89 rfl (lv_at hl 0 rfl) ?_
      refine zr_get (v := va_rf (s_r σ b 1)) hx hb hC hw rfl hsb fl_X_19 rfl d_X_addLaws_90 ?_
      obtain ⟨q3, ho3, hB⟩ := hB
      have hsr := And.left hB
      refine zr_callV (ci := 3) (As := [va_rf (s_r σ b 5), .int x2, va_rf (s_r σ b 0), va_rf (s_r σ b 1)]) (rest := [va_rf (s_r σ b 0)]) hx hb hml hC hwk hw hS hl.1 (c_F_bring l D B q3 (s_r σ b 5) x2 (s_r σ b 0) (s_r σ b 1) σ _ hB) mk_F_bring mi_F_bring ms_F_bring ml_X_109 ⟨Nat.le_of_ble_eq_true rfl, Nat.le_of_ble_eq_true rfl⟩ ho3 hsr rfl (cat_8 (cat_c (va_rf_cat _) cat_n) (Nat.le_of_ble_eq_true rfl)) d_X_addLaws_93 ⟨Nat.le_refl _, Nat.le_refl _⟩ rfl (fun v σ4 H locs hp hgn hw hS => ?_)
      have hg := hg.tr hgn
      have hsb := hgn _ _ hsb
      have hs1 := hgn _ _ hs1
      obtain ⟨r5, rfl, hB⟩ := hp
      refine W.eq (g2 := F0 m 96 ls [va_rf r5, va_rf (s_r σ b 0)]) rfl ?_
      obtain ⟨q6, ho6, hB⟩ := hB
      have hsr := And.left hB
      refine zr_callV (ci := 1) (As := [va_rf r5]) (rest := []) hx hb hml hC hwk hw hS hl.1 (c_S_add l D B q6 r5 σ4 _ hB) mk_S_add mi_S_add ms_S_add ml_X_113 ⟨Nat.le_of_ble_eq_true rfl, Nat.le_of_ble_eq_true rfl⟩ ho6 hsr rfl (cat_8 cat_n (Nat.le_of_ble_eq_true rfl)) d_X_addLaws_96 ⟨Nat.le_refl _, Nat.le_refl _⟩ rfl (fun v σ7 H locs hp hgn hw hS => ?_)
      have hg := hg.tr hgn
      have hsb := hgn _ _ hsb
      have hs1 := hgn _ _ hs1
      obtain ⟨rfl, hB⟩ := hp
      refine W.eq (g2 := F0 m 99 ls []) rfl ?_
      refine lv_iinc (v := x2 + nI 1) (lv' := [(2, .int (x2 + nI 1)), (0, va_rf (some b))]) hx hb d_X_addLaws_99 hl (k := 1) rfl rfl (by decide) rfl (fun ls hl => ?_)
      refine lv_goto (tgt := 61) hx hb d_X_addLaws_102 (by decide) ?_
      rw [hK61] at hB
      exact hB _ _ _ hg hw hS (lv_sub hl [1, 0] rfl)

set_option maxHeartbeats 4000000 in
set_option maxRecDepth 100000 in
theorem c_X_removeLaw (l : Launch) (D : va_G) (B : Nat) (b : Nat) (x1 : Int32) (σ : St) (Q : Int32 → St → Prop) (h : P_X_removeLaw b x1 σ Q) : zM l y_X_removeLaw b_X_removeLaw 2 (some (.int)) (rm_X_removeLaw) D B [.ref b, .int x1] σ (zQi Q) := by
  refine zM.ofW (own := "LawWorlds") (by decide +kernel) rfl (Nat.le_of_ble_eq_true rfl) ?_
  intro p e s m args below meth c ls hx hb hml hr hlocks hname hC hwk hw hS hl
  obtain ⟨σ0, eσ⟩ : ∃ z, z = σ := ⟨_, rfl⟩
  have hg : gr σ0 σ := by rw [eσ]; exact gr.rf
  have hl : lv_has ls 2 [(0, va_rf (some b)), (1, .int x1)] := hl
  obtain ⟨hsb, hB⟩ := h
  have hsb0 : s_s σ0 b = some (.inl 0) := by rw [eσ]; exact hsb
  rw [← eσ]
  skip
  refine zr_aload_n (o := some b) hx hb d_X_removeLaw_0 rfl (lv_at hl 0 rfl) ?_
  refine zr_get (v := va_rf (s_r σ b 0)) hx hb hC hw rfl hsb fl_X_10 rfl d_X_removeLaw_1 ?_
  refine lv_iload_n hx hb d_X_removeLaw_4 rfl (lv_at hl 1 rfl) ?_
  obtain ⟨q1, ho1, hB⟩ := hB
  have hsr := And.left hB
  refine zr_callV (ci := 1) (As := [.int x1]) (rest := []) hx hb hml hC hwk hw hS hl.1 (c_S_hasLaw l D B q1 x1 σ _ hB) mk_S_hasLaw mi_S_hasLaw ms_S_hasLaw ml_X_117 ⟨Nat.le_of_ble_eq_true rfl, Nat.le_of_ble_eq_true rfl⟩ ho1 hsr rfl (cat_8 cat_n (Nat.le_of_ble_eq_true rfl)) d_X_removeLaw_5 ⟨Nat.le_refl _, Nat.le_refl _⟩ rfl (fun v σ2 H locs hp hgn hw hS => ?_)
  have hg := hg.tr hgn
  have hsb := hgn _ _ hsb
  obtain ⟨r3, rfl, hB⟩ := hp
  refine W.eq (g2 := F0 m 8 ls [.int r3]) rfl ?_
  refine lv_if_ne (tgt := 13) hx hb d_X_removeLaw_8 (by decide) (fun cd => ?_) (fun cd => ?_)
  · have hB := hB.2 cd
    refine zr_aload_n (o := some b) hx hb d_X_removeLaw_13 rfl (lv_at hl 0 rfl) ?_
    refine zr_get (v := va_rf (s_r σ2 b 1)) hx hb hC hw rfl hsb fl_X_19 rfl d_X_removeLaw_14 ?_
    refine zr_aload_n (o := some b) hx hb d_X_removeLaw_17 rfl (lv_at hl 0 rfl) ?_
    refine zr_get (v := va_rf (s_r σ2 b 0)) hx hb hC hw rfl hsb fl_X_10 rfl d_X_removeLaw_18 ?_
    obtain ⟨q4, ho4, hB⟩ := hB
    have hsr := And.left hB
    refine zr_callV (ci := 2) (As := [va_rf (s_r σ2 b 0)]) (rest := []) hx hb hml hC hwk hw hS hl.1 (c_H_record l D B q4 (s_r σ2 b 0) σ2 _ hB) mk_H_record mi_H_record ms_H_record ml_X_68 ⟨Nat.le_of_ble_eq_true rfl, Nat.le_of_ble_eq_true rfl⟩ ho4 hsr rfl (cat_8 cat_n (Nat.le_of_ble_eq_true rfl)) d_X_removeLaw_21 ⟨Nat.le_refl _, Nat.le_refl _⟩ rfl (fun v σ5 H locs hp hgn hw hS => ?_)
    have hg := hg.tr hgn
    have hsb := hgn _ _ hsb
    obtain ⟨rfl, hB⟩ := hp
    refine W.eq (g2 := F0 m 24 ls []) rfl ?_
    refine zr_aload_n (o := some b) hx hb d_X_removeLaw_24 rfl (lv_at hl 0 rfl) ?_
    refine zr_get (v := va_rf (s_r σ5 b 0)) hx hb hC hw rfl hsb fl_X_10 rfl d_X_removeLaw_25 ?_
    refine lv_iload_n hx hb d_X_removeLaw_28 rfl (lv_at hl 1 rfl) ?_
    obtain ⟨q6, ho6, hB⟩ := hB
    have hsr := And.left hB
    refine zr_callV (ci := 1) (As := [.int x1]) (rest := []) hx hb hml hC hwk hw hS hl.1 (c_S_remove l D B q6 x1 σ5 _ hB) mk_S_remove mi_S_remove ms_S_remove ml_X_120 ⟨Nat.le_of_ble_eq_true rfl, Nat.le_of_ble_eq_true rfl⟩ ho6 hsr rfl (cat_8 cat_n (Nat.le_of_ble_eq_true rfl)) d_X_removeLaw_29 ⟨Nat.le_refl _, Nat.le_refl _⟩ rfl (fun v σ7 H locs hp hgn hw hS => ?_)
    have hg := hg.tr hgn
    have hsb := hgn _ _ hsb
    obtain ⟨rfl, hB⟩ := hp
    refine W.eq (g2 := F0 m 32 ls []) rfl ?_
    refine zr_aload_n (o := some b) hx hb d_X_removeLaw_32 rfl (lv_at hl 0 rfl) ?_
    refine zr_get (v := va_rf (s_r σ7 b 0)) hx hb hC hw rfl hsb fl_X_10 rfl d_X_removeLaw_33 ?_
    obtain ⟨q8, ho8, hs8, hB⟩ := hB
    refine zr_get (v := .int (s_i σ7 q8 2)) hx hb hC hw ho8 hs8 fl_X_105 rfl d_X_removeLaw_36 ?_
    exact zr_iret hx hb hr hlocks hB hg hw hS d_X_removeLaw_39
  · have hB := hB.1 cd
    refine lv_iconst (v := (-1)) hx hb d_X_removeLaw_11 (by decide) ?_
    exact zr_iret hx hb hr hlocks hB hg hw hS d_X_removeLaw_12

set_option maxHeartbeats 4000000 in
set_option maxRecDepth 100000 in
theorem c_X_turnLaw (l : Launch) (D : va_G) (B : Nat) (b : Nat) (x1 : Int32) (x2 : Int32) (σ : St) (Q : Int32 → St → Prop) (h : P_X_turnLaw b x1 x2 σ Q) : zM l y_X_turnLaw b_X_turnLaw 3 (some (.int)) (rm_X_turnLaw) D B [.ref b, .int x1, .int x2] σ (zQi Q) := by
  refine zM.ofW (own := "LawWorlds") (by decide +kernel) rfl (Nat.le_of_ble_eq_true rfl) ?_
  intro p e s m args below meth c ls hx hb hml hr hlocks hname hC hwk hw hS hl
  obtain ⟨σ0, eσ⟩ : ∃ z, z = σ := ⟨_, rfl⟩
  have hg : gr σ0 σ := by rw [eσ]; exact gr.rf
  have hl : lv_has ls 3 [(0, va_rf (some b)), (1, .int x1), (2, .int x2)] := hl
  obtain ⟨hsb, hB⟩ := h
  have hsb0 : s_s σ0 b = some (.inl 0) := by rw [eσ]; exact hsb
  rw [← eσ]
  skip
  refine zr_aload_n (o := some b) hx hb d_X_turnLaw_0 rfl (lv_at hl 0 rfl) ?_
  refine zr_get (v := va_rf (s_r σ b 0)) hx hb hC hw rfl hsb fl_X_10 rfl d_X_turnLaw_1 ?_
  refine lv_iload_n hx hb d_X_turnLaw_4 rfl (lv_at hl 1 rfl) ?_
  obtain ⟨q1, ho1, hB⟩ := hB
  have hsr := And.left hB
  refine zr_callV (ci := 1) (As := [.int x1]) (rest := []) hx hb hml hC hwk hw hS hl.1 (c_S_hasLaw l D B q1 x1 σ _ hB) mk_S_hasLaw mi_S_hasLaw ms_S_hasLaw ml_X_117 ⟨Nat.le_of_ble_eq_true rfl, Nat.le_of_ble_eq_true rfl⟩ ho1 hsr rfl (cat_8 cat_n (Nat.le_of_ble_eq_true rfl)) d_X_turnLaw_5 ⟨Nat.le_refl _, Nat.le_refl _⟩ rfl (fun v σ2 H locs hp hgn hw hS => ?_)
  have hg := hg.tr hgn
  have hsb := hgn _ _ hsb
  obtain ⟨r3, rfl, hB⟩ := hp
  refine W.eq (g2 := F0 m 8 ls [.int r3]) rfl ?_
  refine lv_if_ne (tgt := 13) hx hb d_X_turnLaw_8 (by decide) (fun cd => ?_) (fun cd => ?_)
  · have hB := hB.2 cd
    refine zr_aload_n (o := some b) hx hb d_X_turnLaw_13 rfl (lv_at hl 0 rfl) ?_
    refine zr_get (v := va_rf (s_r σ2 b 0)) hx hb hC hw rfl hsb fl_X_10 rfl d_X_turnLaw_14 ?_
    obtain ⟨q4, ho4, hs4, hB⟩ := hB
    refine zr_get (v := va_rf (s_r σ2 q4 1)) hx hb hC hw ho4 hs4 fl_X_124 rfl d_X_turnLaw_17 ?_
    refine lv_iload_n hx hb d_X_turnLaw_20 rfl (lv_at hl 1 rfl) ?_
    obtain ⟨q5, n5, j6, ho, hs, hin, hj, hB⟩ := hB
    refine zr_zald hx hb hw ho hs hin hj d_X_turnLaw_21 ?_
    refine lv_iload_n hx hb d_X_turnLaw_22 rfl (lv_at hl 2 rfl) ?_
    refine lv_icmp_ne (tgt := 29) hx hb d_X_turnLaw_23 (by decide) (fun cd => ?_) (fun cd => ?_)
    · have hB := hB.2 cd
      refine zr_aload_n (o := some b) hx hb d_X_turnLaw_29 rfl (lv_at hl 0 rfl) ?_
      refine zr_get (v := va_rf (s_r σ2 b 1)) hx hb hC hw rfl hsb fl_X_19 rfl d_X_turnLaw_30 ?_
      refine zr_aload_n (o := some b) hx hb d_X_turnLaw_33 rfl (lv_at hl 0 rfl) ?_
      refine zr_get (v := va_rf (s_r σ2 b 0)) hx hb hC hw rfl hsb fl_X_10 rfl d_X_turnLaw_34 ?_
      obtain ⟨q7, ho7, hB⟩ := hB
      have hsr := And.left hB
      refine zr_callV (ci := 2) (As := [va_rf (s_r σ2 b 0)]) (rest := []) hx hb hml hC hwk hw hS hl.1 (c_H_record l D B q7 (s_r σ2 b 0) σ2 _ hB) mk_H_record mi_H_record ms_H_record ml_X_68 ⟨Nat.le_of_ble_eq_true rfl, Nat.le_of_ble_eq_true rfl⟩ ho7 hsr rfl (cat_8 cat_n (Nat.le_of_ble_eq_true rfl)) d_X_turnLaw_37 ⟨Nat.le_refl _, Nat.le_refl _⟩ rfl (fun v σ8 H locs hp hgn hw hS => ?_)
      have hg := hg.tr hgn
      have hsb := hgn _ _ hsb
      have hs4 := hgn _ _ hs4
      obtain ⟨rfl, hB⟩ := hp
      refine W.eq (g2 := F0 m 40 ls []) rfl ?_
      refine zr_aload_n (o := some b) hx hb d_X_turnLaw_40 rfl (lv_at hl 0 rfl) ?_
      refine zr_get (v := va_rf (s_r σ8 b 0)) hx hb hC hw rfl hsb fl_X_10 rfl d_X_turnLaw_41 ?_
      obtain ⟨q9, ho9, hs9, hB⟩ := hB
      refine zr_get (v := va_rf (s_r σ8 q9 1)) hx hb hC hw ho9 hs9 fl_X_124 rfl d_X_turnLaw_44 ?_
      refine lv_iload_n hx hb d_X_turnLaw_47 rfl (lv_at hl 1 rfl) ?_
      refine lv_iload_n hx hb d_X_turnLaw_48 rfl (lv_at hl 2 rfl) ?_
      obtain ⟨q10, n10, j11, ho, hs, hin, hj, hB⟩ := hB
      refine zr_zast hx hb hw hS ho hs hin hj d_X_turnLaw_49 (fun H locs hw hS => ?_)
      refine zr_aload_n (o := some b) hx hb d_X_turnLaw_50 rfl (lv_at hl 0 rfl) ?_
      refine zr_get (v := va_rf (s_r (w_i σ8 q10 j11 (vp_nar .boolean x2)) b 0)) hx hb hC hw rfl hsb fl_X_10 rfl d_X_turnLaw_51 ?_
      obtain ⟨q12, ho12, hB⟩ := hB
      have hsr := And.left hB
      refine zr_callV (ci := 1) (As := []) (rest := []) hx hb hml hC hwk hw hS hl.1 (c_S_onCount l D B q12 (w_i σ8 q10 j11 (vp_nar .boolean x2)) _ hB) mk_S_onCount mi_S_onCount ms_S_onCount ml_X_128 ⟨Nat.le_of_ble_eq_true rfl, Nat.le_of_ble_eq_true rfl⟩ ho12 hsr rfl (cat_8 cat_n (Nat.le_of_ble_eq_true rfl)) d_X_turnLaw_54 ⟨Nat.le_refl _, Nat.le_refl _⟩ rfl (fun v σ13 H locs hp hgn hw hS => ?_)
      have hg := hg.tr hgn
      have hsb := hgn _ _ hsb
      have hs4 := hgn _ _ hs4
      have hs9 := hgn _ _ hs9
      obtain ⟨r14, rfl, hB⟩ := hp
      refine W.eq (g2 := F0 m 57 ls [.int r14]) rfl ?_
      exact zr_iret hx hb hr hlocks hB hg hw hS d_X_turnLaw_57
    · have hB := hB.1 cd
      refine lv_bipush (v := (-5)) hx hb d_X_turnLaw_26 (by decide) ?_
      exact zr_iret hx hb hr hlocks hB hg hw hS d_X_turnLaw_28
  · have hB := hB.1 cd
    refine lv_iconst (v := (-1)) hx hb d_X_turnLaw_11 (by decide) ?_
    exact zr_iret hx hb hr hlocks hB hg hw hS d_X_turnLaw_12

set_option maxHeartbeats 4000000 in
set_option maxRecDepth 100000 in
theorem c_X_refute (l : Launch) (D : va_G) (B : Nat) (b : Nat) (x1 : Int32) (σ : St) (mc : Nat) (ms : Nat) (Q : Int32 → St → Prop) (h : P_X_refute b x1 σ mc ms Q) : zM l y_X_refute b_X_refute 2 (some (.int)) (rm_X_refute mc ms) D B [.ref b, .int x1] σ (zQi Q) := by
  refine zM.ofW (own := "LawWorlds") (by decide +kernel) rfl (Nat.le_of_ble_eq_true rfl) ?_
  intro p e s m args below meth c ls hx hb hml hr hlocks hname hC hwk hw hS hl
  obtain ⟨σ0, eσ⟩ : ∃ z, z = σ := ⟨_, rfl⟩
  have hg : gr σ0 σ := by rw [eσ]; exact gr.rf
  have hl : lv_has ls 2 [(0, va_rf (some b)), (1, .int x1)] := hl
  have ha1 : 0 ≤ mc := Nat.zero_le _
  have ha2 : 0 ≤ ms := Nat.zero_le _
  obtain ⟨hsb, hB⟩ := h
  have hsb0 : s_s σ0 b = some (.inl 0) := by rw [eσ]; exact hsb
  rw [← eσ]
  skip
  refine zr_aload_n (o := some b) hx hb d_X_refute_0 rfl (lv_at hl 0 rfl) ?_
  refine zr_get (v := va_rf (s_r σ b 0)) hx hb hC hw rfl hsb fl_X_10 rfl d_X_refute_1 ?_
  refine lv_iload_n hx hb d_X_refute_4 rfl (lv_at hl 1 rfl) ?_
  obtain ⟨q1, ho1, hB⟩ := hB
  have hsr := And.left hB
  refine zr_callV (ci := 1) (As := [.int x1]) (rest := []) hx hb hml hC hwk hw hS hl.1 (c_S_hasLaw l D B q1 x1 σ _ hB) mk_S_hasLaw mi_S_hasLaw ms_S_hasLaw ml_X_117 ⟨Nat.le_of_ble_eq_true rfl, Nat.le_of_ble_eq_true rfl⟩ ho1 hsr rfl (cat_8 cat_n (Nat.le_of_ble_eq_true rfl)) d_X_refute_5 ⟨ha1, ha2⟩ rfl (fun v σ2 H locs hp hgn hw hS => ?_)
  have hg := hg.tr hgn
  have hsb := hgn _ _ hsb
  obtain ⟨r3, rfl, hB⟩ := hp
  refine W.eq (g2 := F0 m 8 ls [.int r3]) rfl ?_
  refine lv_if_ne (tgt := 13) hx hb d_X_refute_8 (by decide) (fun cd => ?_) (fun cd => ?_)
  · have hB := hB.2 cd
    refine zr_aload_n (o := some b) hx hb d_X_refute_13 rfl (lv_at hl 0 rfl) ?_
    refine zr_get (v := va_rf (s_r σ2 b 4)) hx hb hC hw rfl hsb fl_X_40 rfl d_X_refute_14 ?_
    refine zr_aload_n (o := some b) hx hb d_X_refute_17 rfl (lv_at hl 0 rfl) ?_
    refine zr_get (v := va_rf (s_r σ2 b 0)) hx hb hC hw rfl hsb fl_X_10 rfl d_X_refute_18 ?_
    refine lv_iload_n hx hb d_X_refute_21 rfl (lv_at hl 1 rfl) ?_
    obtain ⟨q4, ho4, hB⟩ := hB
    obtain ⟨c5, d6, hc1, hc2, hB⟩ := hB
    have hsr := And.left hB
    refine zr_callV (ci := 6) (As := [va_rf (s_r σ2 b 0), .int x1]) (rest := []) hx hb hml hC hwk hw hS hl.1 (c_E_findWitnesses l D B q4 (s_r σ2 b 0) x1 σ2 c5 d6 _ hB) mk_E_findWitnesses mi_E_findWitnesses ms_E_findWitnesses ml_X_132 ⟨Nat.le_of_ble_eq_true rfl, Nat.le_of_ble_eq_true rfl⟩ ho4 hsr rfl (cat_8 cat_n (Nat.le_of_ble_eq_true rfl)) d_X_refute_22 ⟨hc1, hc2⟩ rfl (fun v σ7 H locs hp hgn hw hS => ?_)
    have hg := hg.tr hgn
    have hsb := hgn _ _ hsb
    have ha1 := hc1
    have ha2 := hc2
    obtain ⟨r8, rfl, hB⟩ := hp
    refine W.eq (g2 := F0 m 25 ls [.int r8]) rfl ?_
    refine lv_if_ne (tgt := 31) hx hb d_X_refute_25 (by decide) (fun cd => ?_) (fun cd => ?_)
    · have hB := hB.2 cd
      refine zr_aload_n (o := some b) hx hb d_X_refute_31 rfl (lv_at hl 0 rfl) ?_
      refine zr_get (v := va_rf (s_r σ7 b 1)) hx hb hC hw rfl hsb fl_X_19 rfl d_X_refute_32 ?_
      refine zr_aload_n (o := some b) hx hb d_X_refute_35 rfl (lv_at hl 0 rfl) ?_
      refine zr_get (v := va_rf (s_r σ7 b 0)) hx hb hC hw rfl hsb fl_X_10 rfl d_X_refute_36 ?_
      obtain ⟨q9, ho9, hB⟩ := hB
      have hsr := And.left hB
      refine zr_callV (ci := 2) (As := [va_rf (s_r σ7 b 0)]) (rest := []) hx hb hml hC hwk hw hS hl.1 (c_H_record l D B q9 (s_r σ7 b 0) σ7 _ hB) mk_H_record mi_H_record ms_H_record ml_X_68 ⟨Nat.le_of_ble_eq_true rfl, Nat.le_of_ble_eq_true rfl⟩ ho9 hsr rfl (cat_8 cat_n (Nat.le_of_ble_eq_true rfl)) d_X_refute_39 ⟨ha1, ha2⟩ rfl (fun v σ10 H locs hp hgn hw hS => ?_)
      have hg := hg.tr hgn
      have hsb := hgn _ _ hsb
      obtain ⟨rfl, hB⟩ := hp
      refine W.eq (g2 := F0 m 42 ls []) rfl ?_
      refine zr_aload_n (o := some b) hx hb d_X_refute_42 rfl (lv_at hl 0 rfl) ?_
      refine zr_get (v := va_rf (s_r σ10 b 0)) hx hb hC hw rfl hsb fl_X_10 rfl d_X_refute_43 ?_
      refine zr_aload_n (o := some b) hx hb d_X_refute_46 rfl (lv_at hl 0 rfl) ?_
      refine zr_get (v := va_rf (s_r σ10 b 4)) hx hb hC hw rfl hsb fl_X_40 rfl d_X_refute_47 ?_
      refine lv_iconst (v := nI 0) hx hb d_X_refute_50 (by decide) ?_
      refine lv_iconst (v := nI 0) hx hb d_X_refute_51 (by decide) ?_
      obtain ⟨q11, ho11, hB⟩ := hB
      have hsr := And.left hB
      refine zr_callV (ci := 6) (As := [.int (nI 0), .int (nI 0)]) (rest := [va_rf (s_r σ10 b 0)]) hx hb hml hC hwk hw hS hl.1 (c_E_witnessNumber l D B q11 (nI 0) (nI 0) σ10 _ hB) mk_E_witnessNumber mi_E_witnessNumber ms_E_witnessNumber ml_X_136 ⟨Nat.le_of_ble_eq_true rfl, Nat.le_of_ble_eq_true rfl⟩ ho11 hsr rfl (cat_8 (cat_c (va_rf_cat _) cat_n) (Nat.le_of_ble_eq_true rfl)) d_X_refute_52 ⟨ha1, ha2⟩ rfl (fun v σ12 H locs hp hgn hw hS => ?_)
      have hg := hg.tr hgn
      have hsb := hgn _ _ hsb
      obtain ⟨r13, rfl, hB⟩ := hp
      refine W.eq (g2 := F0 m 55 ls [.int r13, va_rf (s_r σ10 b 0)]) rfl ?_
      obtain ⟨q14, ho14, hs14, hB⟩ := hB
      refine zr_putI hx hb hC hw hS ho14 hs14 fl_X_61 rfl rfl d_X_refute_55 (fun H locs hw hS => ?_)
      refine zr_aload_n (o := some b) hx hb d_X_refute_58 rfl (lv_at hl 0 rfl) ?_
      refine zr_get (v := va_rf (s_r (w_i σ12 q14 3 r13) b 0)) hx hb hC hw rfl hsb fl_X_10 rfl d_X_refute_59 ?_
      refine zr_aload_n (o := some b) hx hb d_X_refute_62 rfl (lv_at hl 0 rfl) ?_
      refine zr_get (v := va_rf (s_r (w_i σ12 q14 3 r13) b 4)) hx hb hC hw rfl hsb fl_X_40 rfl d_X_refute_63 ?_
      refine lv_iconst (v := nI 0) hx hb d_X_refute_66 (by decide) ?_
      refine lv_iconst (v := nI 1) hx hb d_X_refute_67 (by decide) ?_
      obtain ⟨q15, ho15, hB⟩ := hB
      have hsr := And.left hB
      refine zr_callV (ci := 6) (As := [.int (nI 0), .int (nI 1)]) (rest := [va_rf (s_r (w_i σ12 q14 3 r13) b 0)]) hx hb hml hC hwk hw hS hl.1 (c_E_witnessNumber l D B q15 (nI 0) (nI 1) (w_i σ12 q14 3 r13) _ hB) mk_E_witnessNumber mi_E_witnessNumber ms_E_witnessNumber ml_X_136 ⟨Nat.le_of_ble_eq_true rfl, Nat.le_of_ble_eq_true rfl⟩ ho15 hsr rfl (cat_8 (cat_c (va_rf_cat _) cat_n) (Nat.le_of_ble_eq_true rfl)) d_X_refute_68 ⟨ha1, ha2⟩ rfl (fun v σ16 H locs hp hgn hw hS => ?_)
      have hg := hg.tr hgn
      have hsb := hgn _ _ hsb
      have hs14 := hgn _ _ hs14
      obtain ⟨r17, rfl, hB⟩ := hp
      refine W.eq (g2 := F0 m 71 ls [.int r17, va_rf (s_r (w_i σ12 q14 3 r13) b 0)]) rfl ?_
      obtain ⟨q18, ho18, hs18, hB⟩ := hB
      refine zr_putI hx hb hC hw hS ho18 hs18 fl_X_65 rfl rfl d_X_refute_71 (fun H locs hw hS => ?_)
      refine zr_aload_n (o := some b) hx hb d_X_refute_74 rfl (lv_at hl 0 rfl) ?_
      refine zr_get (v := va_rf (s_r (w_i σ16 q18 4 r17) b 0)) hx hb hC hw rfl hsb fl_X_10 rfl d_X_refute_75 ?_
      obtain ⟨q19, ho19, hs19, hB⟩ := hB
      refine zr_get (v := .int (s_i (w_i σ16 q18 4 r17) q19 4)) hx hb hC hw ho19 hs19 fl_X_65 rfl d_X_refute_78 ?_
      refine W.widen (k := mc) (n := ms) ha1 ha2 ?_
      exact zr_iret hx hb hr hlocks hB hg hw hS d_X_refute_81
    · have hB := hB.1 cd
      refine lv_bipush (v := (-5)) hx hb d_X_refute_28 (by decide) ?_
      refine W.widen (k := mc) (n := ms) ha1 ha2 ?_
      exact zr_iret hx hb hr hlocks hB hg hw hS d_X_refute_30
  · have hB := hB.1 cd
    refine lv_iconst (v := (-1)) hx hb d_X_refute_11 (by decide) ?_
    refine W.widen (k := mc) (n := ms) ha1 ha2 ?_
    exact zr_iret hx hb hr hlocks hB hg hw hS d_X_refute_12

set_option maxHeartbeats 4000000 in
set_option maxRecDepth 100000 in
theorem c_X_type (l : Launch) (D : va_G) (B : Nat) (b : Nat) (x1 : Int32) (σ : St) (Q : Int32 → St → Prop) (h : P_X_type b x1 σ Q) : zM l y_X_type b_X_type 2 (some (.int)) (rm_X_type) D B [.ref b, .int x1] σ (zQi Q) := by
  refine zM.ofW (own := "LawWorlds") (by decide +kernel) rfl (Nat.le_of_ble_eq_true rfl) ?_
  intro p e s m args below meth c ls hx hb hml hr hlocks hname hC hwk hw hS hl
  obtain ⟨σ0, eσ⟩ : ∃ z, z = σ := ⟨_, rfl⟩
  have hg : gr σ0 σ := by rw [eσ]; exact gr.rf
  have hl : lv_has ls 2 [(0, va_rf (some b)), (1, .int x1)] := hl
  obtain ⟨hsb, hB⟩ := h
  have hsb0 : s_s σ0 b = some (.inl 0) := by rw [eσ]; exact hsb
  rw [← eσ]
  skip
  refine zr_aload_n (o := some b) hx hb d_X_type_0 rfl (lv_at hl 0 rfl) ?_
  refine zr_get (v := .int (s_i σ b 7)) hx hb hC hw rfl hsb fl_X_98 rfl d_X_type_1 ?_
  refine lv_bipush (v := nI 60) hx hb d_X_type_4 (by decide) ?_
  refine lv_icmp_lt (tgt := 12) hx hb d_X_type_6 (by decide) (fun cd => ?_) (fun cd => ?_)
  · have hB := hB.1 cd
    refine zr_aload_n (o := some b) hx hb d_X_type_12 rfl (lv_at hl 0 rfl) ?_
    refine zr_get (v := va_rf (s_r σ b 6)) hx hb hC hw rfl hsb fl_X_51 rfl d_X_type_13 ?_
    refine zr_aload_n (o := some b) hx hb d_X_type_16 rfl (lv_at hl 0 rfl) ?_
    refine zr_get (v := .int (s_i σ b 7)) hx hb hC hw rfl hsb fl_X_98 rfl d_X_type_17 ?_
    refine lv_iload_n hx hb d_X_type_20 rfl (lv_at hl 1 rfl) ?_
    obtain ⟨q1, n1, j2, ho, hs, hin, hj, hB⟩ := hB
    refine zr_cast hx hb hw hS ho hs hin hj d_X_type_21 (fun H locs hw hS => ?_)
    refine zr_aload_n (o := some b) hx hb d_X_type_22 rfl (lv_at hl 0 rfl) ?_
    refine lv_dup hx hb d_X_type_23 (va_rf_cat _) ?_
    refine zr_get (v := .int (s_i (w_i σ q1 j2 (vp_nar .char x1)) b 7)) hx hb hC hw rfl hsb fl_X_98 rfl d_X_type_24 ?_
    refine lv_iconst (v := nI 1) hx hb d_X_type_27 (by decide) ?_
    refine lv_iadd hx hb d_X_type_28 ?_
    refine zr_putI hx hb hC hw hS rfl hsb fl_X_98 rfl rfl d_X_type_29 (fun H locs hw hS => ?_)
    refine zr_aload_n (o := some b) hx hb d_X_type_32 rfl (lv_at hl 0 rfl) ?_
    refine zr_get (v := .int (s_i (w_i (w_i σ q1 j2 (vp_nar .char x1)) b 7 ((s_i (w_i σ q1 j2 (vp_nar .char x1)) b 7) + (nI 1))) b 7)) hx hb hC hw rfl hsb fl_X_98 rfl d_X_type_33 ?_
    exact zr_iret hx hb hr hlocks hB hg hw hS d_X_type_36
  · have hB := hB.2 cd
    refine lv_bipush (v := (-3)) hx hb d_X_type_9 (by decide) ?_
    exact zr_iret hx hb hr hlocks hB hg hw hS d_X_type_11

set_option maxHeartbeats 4000000 in
set_option maxRecDepth 100000 in
theorem c_X_clearText (l : Launch) (D : va_G) (B : Nat) (b : Nat) (σ : St) (Q : Int32 → St → Prop) (h : P_X_clearText b σ Q) : zM l y_X_clearText b_X_clearText 2 (some (.int)) (rm_X_clearText) D B [.ref b] σ (zQi Q) := by
  refine zM.ofW (own := "LawWorlds") (by decide +kernel) rfl (Nat.le_of_ble_eq_true rfl) ?_
  intro p e s m args below meth c ls hx hb hml hr hlocks hname hC hwk hw hS hl
  obtain ⟨σ0, eσ⟩ : ∃ z, z = σ := ⟨_, rfl⟩
  have hg : gr σ0 σ := by rw [eσ]; exact gr.rf
  have hl : lv_has ls 2 [(0, va_rf (some b))] := hl
  obtain ⟨hsb, hB⟩ := h
  have hsb0 : s_s σ0 b = some (.inl 0) := by rw [eσ]; exact hsb
  rw [← eσ]
  skip
  refine zr_aload_n (o := some b) hx hb d_X_clearText_0 rfl (lv_at hl 0 rfl) ?_
  refine zr_get (v := .int (s_i σ b 7)) hx hb hC hw rfl hsb fl_X_98 rfl d_X_clearText_1 ?_
  refine lv_istore_n (lv' := [(1, .int (s_i σ b 7)), (0, va_rf (some b))]) hx hb d_X_clearText_4 rfl hl (by decide) rfl (fun ls hl => ?_)
  refine zr_aload_n (o := some b) hx hb d_X_clearText_5 rfl (lv_at hl 1 rfl) ?_
  refine lv_iconst (v := nI 0) hx hb d_X_clearText_6 (by decide) ?_
  refine zr_putI hx hb hC hw hS rfl hsb fl_X_98 rfl rfl d_X_clearText_7 (fun H locs hw hS => ?_)
  refine lv_iload_n hx hb d_X_clearText_10 rfl (lv_at hl 0 rfl) ?_
  exact zr_iret hx hb hr hlocks hB hg hw hS d_X_clearText_11

set_option maxHeartbeats 4000000 in
set_option maxRecDepth 100000 in
theorem c_X_undo (l : Launch) (D : va_G) (B : Nat) (b : Nat) (σ : St) (Q : Int32 → St → Prop) (h : P_X_undo b σ Q) : zM l y_X_undo b_X_undo 1 (some (.int)) (rm_X_undo) D B [.ref b] σ (zQi Q) := by
  refine zM.ofW (own := "LawWorlds") (by decide +kernel) rfl (Nat.le_of_ble_eq_true rfl) ?_
  intro p e s m args below meth c ls hx hb hml hr hlocks hname hC hwk hw hS hl
  obtain ⟨σ0, eσ⟩ : ∃ z, z = σ := ⟨_, rfl⟩
  have hg : gr σ0 σ := by rw [eσ]; exact gr.rf
  have hl : lv_has ls 1 [(0, va_rf (some b))] := hl
  obtain ⟨hsb, hB⟩ := h
  have hsb0 : s_s σ0 b = some (.inl 0) := by rw [eσ]; exact hsb
  rw [← eσ]
  skip
  refine zr_aload_n (o := some b) hx hb d_X_undo_0 rfl (lv_at hl 0 rfl) ?_
  refine zr_get (v := va_rf (s_r σ b 1)) hx hb hC hw rfl hsb fl_X_19 rfl d_X_undo_1 ?_
  refine zr_aload_n (o := some b) hx hb d_X_undo_4 rfl (lv_at hl 0 rfl) ?_
  refine zr_get (v := va_rf (s_r σ b 0)) hx hb hC hw rfl hsb fl_X_10 rfl d_X_undo_5 ?_
  obtain ⟨q1, ho1, hB⟩ := hB
  have hsr := And.left hB
  refine zr_callV (ci := 2) (As := [va_rf (s_r σ b 0)]) (rest := []) hx hb hml hC hwk hw hS hl.1 (c_H_goBack l D B q1 (s_r σ b 0) σ _ hB) mk_H_goBack mi_H_goBack ms_H_goBack ml_X_139 ⟨Nat.le_of_ble_eq_true rfl, Nat.le_of_ble_eq_true rfl⟩ ho1 hsr rfl (cat_8 cat_n (Nat.le_of_ble_eq_true rfl)) d_X_undo_8 ⟨Nat.le_refl _, Nat.le_refl _⟩ rfl (fun v σ2 H locs hp hgn hw hS => ?_)
  have hg := hg.tr hgn
  have hsb := hgn _ _ hsb
  obtain ⟨r3, rfl, hB⟩ := hp
  refine W.eq (g2 := F0 m 11 ls [.int r3]) rfl ?_
  refine lv_if_eq (tgt := 24) hx hb d_X_undo_11 (by decide) (fun cd => ?_) (fun cd => ?_)
  · have hB := hB.1 cd
    refine lv_bipush (v := (-5)) hx hb d_X_undo_24 (by decide) ?_
    exact zr_iret hx hb hr hlocks hB hg hw hS d_X_undo_26
  · have hB := hB.2 cd
    refine zr_aload_n (o := some b) hx hb d_X_undo_14 rfl (lv_at hl 0 rfl) ?_
    refine zr_get (v := va_rf (s_r σ2 b 1)) hx hb hC hw rfl hsb fl_X_19 rfl d_X_undo_15 ?_
    obtain ⟨q4, ho4, hs4, hB⟩ := hB
    refine zr_get (v := .int (s_i σ2 q4 2)) hx hb hC hw ho4 hs4 fl_X_143 rfl d_X_undo_18 ?_
    refine lv_goto (tgt := 26) hx hb d_X_undo_21 (by decide) ?_
    exact zr_iret hx hb hr hlocks hB hg hw hS d_X_undo_26

set_option maxHeartbeats 4000000 in
set_option maxRecDepth 100000 in
theorem c_X_keep (l : Launch) (D : va_G) (B : Nat) (b : Nat) (σ : St) (Q : Int32 → St → Prop) (h : P_X_keep b σ Q) : zM l y_X_keep b_X_keep 1 (some (.int)) (rm_X_keep) D B [.ref b] σ (zQi Q) := by
  refine zM.ofW (own := "LawWorlds") (by decide +kernel) rfl (Nat.le_of_ble_eq_true rfl) ?_
  intro p e s m args below meth c ls hx hb hml hr hlocks hname hC hwk hw hS hl
  obtain ⟨σ0, eσ⟩ : ∃ z, z = σ := ⟨_, rfl⟩
  have hg : gr σ0 σ := by rw [eσ]; exact gr.rf
  have hl : lv_has ls 1 [(0, va_rf (some b))] := hl
  obtain ⟨hsb, hB⟩ := h
  have hsb0 : s_s σ0 b = some (.inl 0) := by rw [eσ]; exact hsb
  rw [← eσ]
  skip
  refine zr_aload_n (o := some b) hx hb d_X_keep_0 rfl (lv_at hl 0 rfl) ?_
  refine zr_get (v := va_rf (s_r σ b 1)) hx hb hC hw rfl hsb fl_X_19 rfl d_X_keep_1 ?_
  refine zr_aload_n (o := some b) hx hb d_X_keep_4 rfl (lv_at hl 0 rfl) ?_
  refine zr_get (v := va_rf (s_r σ b 0)) hx hb hC hw rfl hsb fl_X_10 rfl d_X_keep_5 ?_
  obtain ⟨q1, ho1, hB⟩ := hB
  have hsr := And.left hB
  refine zr_callV (ci := 2) (As := [va_rf (s_r σ b 0)]) (rest := []) hx hb hml hC hwk hw hS hl.1 (c_H_takeSnapshot l D B q1 (s_r σ b 0) σ _ hB) mk_H_takeSnapshot mi_H_takeSnapshot ms_H_takeSnapshot ml_X_146 ⟨Nat.le_of_ble_eq_true rfl, Nat.le_of_ble_eq_true rfl⟩ ho1 hsr rfl (cat_8 cat_n (Nat.le_of_ble_eq_true rfl)) d_X_keep_8 ⟨Nat.le_refl _, Nat.le_refl _⟩ rfl (fun v σ2 H locs hp hgn hw hS => ?_)
  have hg := hg.tr hgn
  have hsb := hgn _ _ hsb
  obtain ⟨rfl, hB⟩ := hp
  refine W.eq (g2 := F0 m 11 ls []) rfl ?_
  refine zr_aload_n (o := some b) hx hb d_X_keep_11 rfl (lv_at hl 0 rfl) ?_
  refine zr_get (v := va_rf (s_r σ2 b 0)) hx hb hC hw rfl hsb fl_X_10 rfl d_X_keep_12 ?_
  obtain ⟨q3, ho3, hs3, hB⟩ := hB
  refine zr_get (v := .int (s_i σ2 q3 2)) hx hb hC hw ho3 hs3 fl_X_105 rfl d_X_keep_15 ?_
  exact zr_iret hx hb hr hlocks hB hg hw hS d_X_keep_18

set_option maxHeartbeats 4000000 in
set_option maxRecDepth 100000 in
theorem c_X_restore (l : Launch) (D : va_G) (B : Nat) (b : Nat) (σ : St) (Q : Int32 → St → Prop) (h : P_X_restore b σ Q) : zM l y_X_restore b_X_restore 1 (some (.int)) (rm_X_restore) D B [.ref b] σ (zQi Q) := by
  refine zM.ofW (own := "LawWorlds") (by decide +kernel) rfl (Nat.le_of_ble_eq_true rfl) ?_
  intro p e s m args below meth c ls hx hb hml hr hlocks hname hC hwk hw hS hl
  obtain ⟨σ0, eσ⟩ : ∃ z, z = σ := ⟨_, rfl⟩
  have hg : gr σ0 σ := by rw [eσ]; exact gr.rf
  have hl : lv_has ls 1 [(0, va_rf (some b))] := hl
  obtain ⟨hsb, hB⟩ := h
  have hsb0 : s_s σ0 b = some (.inl 0) := by rw [eσ]; exact hsb
  rw [← eσ]
  skip
  refine zr_aload_n (o := some b) hx hb d_X_restore_0 rfl (lv_at hl 0 rfl) ?_
  refine zr_get (v := va_rf (s_r σ b 1)) hx hb hC hw rfl hsb fl_X_19 rfl d_X_restore_1 ?_
  obtain ⟨q1, ho1, hs1, hB⟩ := hB
  refine zr_get (v := .int (s_i σ q1 3)) hx hb hC hw ho1 hs1 fl_X_149 rfl d_X_restore_4 ?_
  refine lv_if_ne (tgt := 13) hx hb d_X_restore_7 (by decide) (fun cd => ?_) (fun cd => ?_)
  · have hB := hB.2 cd
    refine zr_aload_n (o := some b) hx hb d_X_restore_13 rfl (lv_at hl 0 rfl) ?_
    refine zr_get (v := va_rf (s_r σ b 1)) hx hb hC hw rfl hsb fl_X_19 rfl d_X_restore_14 ?_
    refine zr_aload_n (o := some b) hx hb d_X_restore_17 rfl (lv_at hl 0 rfl) ?_
    refine zr_get (v := va_rf (s_r σ b 0)) hx hb hC hw rfl hsb fl_X_10 rfl d_X_restore_18 ?_
    obtain ⟨q2, ho2, hB⟩ := hB
    have hsr := And.left hB
    refine zr_callV (ci := 2) (As := [va_rf (s_r σ b 0)]) (rest := []) hx hb hml hC hwk hw hS hl.1 (c_H_record l D B q2 (s_r σ b 0) σ _ hB) mk_H_record mi_H_record ms_H_record ml_X_68 ⟨Nat.le_of_ble_eq_true rfl, Nat.le_of_ble_eq_true rfl⟩ ho2 hsr rfl (cat_8 cat_n (Nat.le_of_ble_eq_true rfl)) d_X_restore_21 ⟨Nat.le_refl _, Nat.le_refl _⟩ rfl (fun v σ3 H locs hp hgn hw hS => ?_)
    have hg := hg.tr hgn
    have hsb := hgn _ _ hsb
    have hs1 := hgn _ _ hs1
    obtain ⟨rfl, hB⟩ := hp
    refine W.eq (g2 := F0 m 24 ls []) rfl ?_
    refine zr_aload_n (o := some b) hx hb d_X_restore_24 rfl (lv_at hl 0 rfl) ?_
    refine zr_get (v := va_rf (s_r σ3 b 1)) hx hb hC hw rfl hsb fl_X_19 rfl d_X_restore_25 ?_
    refine zr_aload_n (o := some b) hx hb d_X_restore_28 rfl (lv_at hl 0 rfl) ?_
    refine zr_get (v := va_rf (s_r σ3 b 0)) hx hb hC hw rfl hsb fl_X_10 rfl d_X_restore_29 ?_
    obtain ⟨q4, ho4, hB⟩ := hB
    have hsr := And.left hB
    refine zr_callV (ci := 2) (As := [va_rf (s_r σ3 b 0)]) (rest := []) hx hb hml hC hwk hw hS hl.1 (c_H_bringSnapshot l D B q4 (s_r σ3 b 0) σ3 _ hB) mk_H_bringSnapshot mi_H_bringSnapshot ms_H_bringSnapshot ml_X_153 ⟨Nat.le_of_ble_eq_true rfl, Nat.le_of_ble_eq_true rfl⟩ ho4 hsr rfl (cat_8 cat_n (Nat.le_of_ble_eq_true rfl)) d_X_restore_32 ⟨Nat.le_refl _, Nat.le_refl _⟩ rfl (fun v σ5 H locs hp hgn hw hS => ?_)
    have hg := hg.tr hgn
    have hsb := hgn _ _ hsb
    have hs1 := hgn _ _ hs1
    obtain ⟨rfl, hB⟩ := hp
    refine W.eq (g2 := F0 m 35 ls []) rfl ?_
    refine zr_aload_n (o := some b) hx hb d_X_restore_35 rfl (lv_at hl 0 rfl) ?_
    refine zr_get (v := va_rf (s_r σ5 b 0)) hx hb hC hw rfl hsb fl_X_10 rfl d_X_restore_36 ?_
    obtain ⟨q6, ho6, hs6, hB⟩ := hB
    refine zr_get (v := .int (s_i σ5 q6 2)) hx hb hC hw ho6 hs6 fl_X_105 rfl d_X_restore_39 ?_
    exact zr_iret hx hb hr hlocks hB hg hw hS d_X_restore_42
  · have hB := hB.1 cd
    refine lv_bipush (v := (-5)) hx hb d_X_restore_10 (by decide) ?_
    exact zr_iret hx hb hr hlocks hB hg hw hS d_X_restore_12

set_option maxHeartbeats 4000000 in
set_option maxRecDepth 100000 in
theorem c_X_of (l : Launch) (D : va_G) (B : Nat) (b : Nat) (x1 : Int32) (x2 : Int32) (σ : St) (Q : Int32 → St → Prop) (h : P_X_of b x1 x2 σ Q) : zM l y_X_of b_X_of 3 (some (.int)) (rm_X_of) D B [.ref b, .int x1, .int x2] σ (zQi Q) := by
  refine zM.ofW (own := "LawWorlds") (by decide +kernel) rfl (Nat.le_of_ble_eq_true rfl) ?_
  intro p e s m args below meth c ls hx hb hml hr hlocks hname hC hwk hw hS hl
  obtain ⟨σ0, eσ⟩ : ∃ z, z = σ := ⟨_, rfl⟩
  have hg : gr σ0 σ := by rw [eσ]; exact gr.rf
  have hl : lv_has ls 3 [(0, va_rf (some b)), (1, .int x1), (2, .int x2)] := hl
  obtain ⟨hsb, hB⟩ := h
  have hsb0 : s_s σ0 b = some (.inl 0) := by rw [eσ]; exact hsb
  rw [← eσ]
  skip
  refine zr_aload_n (o := some b) hx hb d_X_of_0 rfl (lv_at hl 0 rfl) ?_
  refine lv_iload_n hx hb d_X_of_1 rfl (lv_at hl 1 rfl) ?_
  have hsr := And.left hB
  refine zr_callV (ci := 0) (As := [.int x1]) (rest := []) hx hb hml hC hwk hw hS hl.1 (c_X_isThing l D B b x1 σ _ hB) mk_X_isThing mi_X_isThing ms_X_isThing ml_X_72 ⟨Nat.le_of_ble_eq_true rfl, Nat.le_of_ble_eq_true rfl⟩ rfl hsr rfl (cat_8 cat_n (Nat.le_of_ble_eq_true rfl)) d_X_of_2 ⟨Nat.le_refl _, Nat.le_refl _⟩ rfl (fun v σ1 H locs hp hgn hw hS => ?_)
  have hg := hg.tr hgn
  have hsb := hgn _ _ hsb
  obtain ⟨r2, rfl, hB⟩ := hp
  refine W.eq (g2 := F0 m 5 ls [.int r2]) rfl ?_
  refine lv_if_eq (tgt := 16) hx hb d_X_of_5 (by decide) (fun cd => ?_) (fun cd => ?_)
  · have hB := hB.1 cd
    refine lv_iconst (v := (-1)) hx hb d_X_of_16 (by decide) ?_
    exact zr_iret hx hb hr hlocks hB hg hw hS d_X_of_17
  · have hB := hB.2 cd
    refine zr_aload_n (o := some b) hx hb d_X_of_8 rfl (lv_at hl 0 rfl) ?_
    refine lv_iload_n hx hb d_X_of_9 rfl (lv_at hl 2 rfl) ?_
    have hsr := And.left hB
    refine zr_callV (ci := 0) (As := [.int x2]) (rest := []) hx hb hml hC hwk hw hS hl.1 (c_X_isThing l D B b x2 σ1 _ hB) mk_X_isThing mi_X_isThing ms_X_isThing ml_X_72 ⟨Nat.le_of_ble_eq_true rfl, Nat.le_of_ble_eq_true rfl⟩ rfl hsr rfl (cat_8 cat_n (Nat.le_of_ble_eq_true rfl)) d_X_of_10 ⟨Nat.le_refl _, Nat.le_refl _⟩ rfl (fun v σ3 H locs hp hgn hw hS => ?_)
    have hg := hg.tr hgn
    have hsb := hgn _ _ hsb
    obtain ⟨r4, rfl, hB⟩ := hp
    refine W.eq (g2 := F0 m 13 ls [.int r4]) rfl ?_
    refine lv_if_ne (tgt := 18) hx hb d_X_of_13 (by decide) (fun cd => ?_) (fun cd => ?_)
    · have hB := hB.2 cd
      refine zr_aload_n (o := some b) hx hb d_X_of_18 rfl (lv_at hl 0 rfl) ?_
      refine zr_get (v := va_rf (s_r σ3 b 0)) hx hb hC hw rfl hsb fl_X_10 rfl d_X_of_19 ?_
      obtain ⟨q5, ho5, hs5, hB⟩ := hB
      refine zr_get (v := .int (s_i σ3 q5 3)) hx hb hC hw ho5 hs5 fl_X_61 rfl d_X_of_22 ?_
      refine zr_aload_n (o := some b) hx hb d_X_of_25 rfl (lv_at hl 0 rfl) ?_
      refine zr_get (v := va_rf (s_r σ3 b 0)) hx hb hC hw rfl hsb fl_X_10 rfl d_X_of_26 ?_
      obtain ⟨q6, ho6, hs6, hB⟩ := hB
      refine zr_get (v := .int (s_i σ3 q6 4)) hx hb hC hw ho6 hs6 fl_X_65 rfl d_X_of_29 ?_
      refine lv_iload_n hx hb d_X_of_32 rfl (lv_at hl 1 rfl) ?_
      refine lv_iload_n hx hb d_X_of_33 rfl (lv_at hl 2 rfl) ?_
      refine zr_callS (As := [.int (s_i σ3 q5 3), .int (s_i σ3 q6 4), .int x1, .int x2]) (rest := []) hx hb hml hC hwk hw hS hl.1 (c_C_product l D B (s_i σ3 q5 3) (s_i σ3 q6 4) x1 x2 σ3 _ hB) mk_C_product mt_C_product ml_X_76 ⟨Nat.le_of_ble_eq_true rfl, Nat.le_of_ble_eq_true rfl⟩ rfl (cat_8 cat_n (Nat.le_of_ble_eq_true rfl)) d_X_of_34 ⟨Nat.le_refl _, Nat.le_refl _⟩ rfl (fun v σ7 H locs hp hgn hw hS => ?_)
      have hg := hg.tr hgn
      have hsb := hgn _ _ hsb
      have hs5 := hgn _ _ hs5
      have hs6 := hgn _ _ hs6
      obtain ⟨r8, rfl, hB⟩ := hp
      refine W.eq (g2 := F0 m 37 ls [.int r8]) rfl ?_
      exact zr_iret hx hb hr hlocks hB hg hw hS d_X_of_37
    · have hB := hB.1 cd
      refine lv_iconst (v := (-1)) hx hb d_X_of_16 (by decide) ?_
      exact zr_iret hx hb hr hlocks hB hg hw hS d_X_of_17

set_option maxHeartbeats 4000000 in
set_option maxRecDepth 100000 in
theorem c_X_brokenNow (l : Launch) (D : va_G) (B : Nat) (b : Nat) (o1 : Option Nat) (σ : St) (Q : Int32 → St → Prop) (h : P_X_brokenNow b o1 σ Q) : zM l y_X_brokenNow b_X_brokenNow 2 (some (.int)) (rm_X_brokenNow) D B [.ref b, va_rf o1] σ (zQi Q) := by
  refine zM.ofW (own := "LawWorlds") (by decide +kernel) rfl (lg_c rfl (lg_c (va_rf_cat _) lg_0)) ?_
  intro p e s m args below meth c ls hx hb hml hr hlocks hname hC hwk hw hS hl
  obtain ⟨σ0, eσ⟩ : ∃ z, z = σ := ⟨_, rfl⟩
  have hg : gr σ0 σ := by rw [eσ]; exact gr.rf
  rw [lv_args_c rfl, lv_args_c (va_rf_cat _)] at hl
  have hl : lv_has ls 2 [(0, va_rf (some b)), (1, va_rf o1)] := hl
  obtain ⟨hsb, hB⟩ := h
  have hsb0 : s_s σ0 b = some (.inl 0) := by rw [eσ]; exact hsb
  rw [← eσ]
  skip
  refine zr_aload_n (o := some b) hx hb d_X_brokenNow_0 rfl (lv_at hl 0 rfl) ?_
  refine zr_get (v := va_rf (s_r σ b 3)) hx hb hC hw rfl hsb fl_X_33 rfl d_X_brokenNow_1 ?_
  refine zr_aload_n (o := some b) hx hb d_X_brokenNow_4 rfl (lv_at hl 0 rfl) ?_
  refine zr_get (v := va_rf (s_r σ b 0)) hx hb hC hw rfl hsb fl_X_10 rfl d_X_brokenNow_5 ?_
  obtain ⟨q1, ho1, hs1, hB⟩ := hB
  refine zr_get (v := .int (s_i σ q1 3)) hx hb hC hw ho1 hs1 fl_X_61 rfl d_X_brokenNow_8 ?_
  refine zr_aload_n (o := some b) hx hb d_X_brokenNow_11 rfl (lv_at hl 0 rfl) ?_
  refine zr_get (v := va_rf (s_r σ b 0)) hx hb hC hw rfl hsb fl_X_10 rfl d_X_brokenNow_12 ?_
  obtain ⟨q2, ho2, hs2, hB⟩ := hB
  refine zr_get (v := .int (s_i σ q2 4)) hx hb hC hw ho2 hs2 fl_X_65 rfl d_X_brokenNow_15 ?_
  obtain ⟨q3, ho3, hB⟩ := hB
  have hsr := And.left hB
  refine zr_callV (ci := 5) (As := [.int (s_i σ q1 3), .int (s_i σ q2 4)]) (rest := []) hx hb hml hC hwk hw hS hl.1 (c_B_open l D B q3 (s_i σ q1 3) (s_i σ q2 4) σ _ hB) mk_B_open mi_B_open ms_B_open ml_X_199 ⟨Nat.le_of_ble_eq_true rfl, Nat.le_of_ble_eq_true rfl⟩ ho3 hsr rfl (cat_8 cat_n (Nat.le_of_ble_eq_true rfl)) d_X_brokenNow_18 ⟨Nat.le_refl _, Nat.le_refl _⟩ rfl (fun v σ4 H locs hp hgn hw hS => ?_)
  have hg := hg.tr hgn
  have hsb := hgn _ _ hsb
  have hs1 := hgn _ _ hs1
  have hs2 := hgn _ _ hs2
  obtain ⟨rfl, hB⟩ := hp
  refine W.eq (g2 := F0 m 21 ls []) rfl ?_
  refine zr_aload_n (o := some b) hx hb d_X_brokenNow_21 rfl (lv_at hl 0 rfl) ?_
  refine zr_get (v := va_rf (s_r σ4 b 3)) hx hb hC hw rfl hsb fl_X_33 rfl d_X_brokenNow_22 ?_
  refine zr_aload_n (o := o1) hx hb d_X_brokenNow_25 rfl (lv_at hl 1 rfl) ?_
  obtain ⟨q5, ho5, hB⟩ := hB
  have hsr := And.left hB
  refine zr_callV (ci := 5) (As := [va_rf o1]) (rest := []) hx hb hml hC hwk hw hS hl.1 (c_B_run l D B q5 o1 σ4 _ hB) mk_B_run mi_B_run ms_B_run ml_X_203 ⟨Nat.le_of_ble_eq_true rfl, Nat.le_of_ble_eq_true rfl⟩ ho5 hsr rfl (cat_8 cat_n (Nat.le_of_ble_eq_true rfl)) d_X_brokenNow_26 ⟨Nat.le_refl _, Nat.le_refl _⟩ rfl (fun v σ6 H locs hp hgn hw hS => ?_)
  have hg := hg.tr hgn
  have hsb := hgn _ _ hsb
  have hs1 := hgn _ _ hs1
  have hs2 := hgn _ _ hs2
  obtain ⟨rfl, hB⟩ := hp
  refine W.eq (g2 := F0 m 29 ls []) rfl ?_
  refine zr_aload_n (o := some b) hx hb d_X_brokenNow_29 rfl (lv_at hl 0 rfl) ?_
  refine zr_get (v := va_rf (s_r σ6 b 3)) hx hb hC hw rfl hsb fl_X_33 rfl d_X_brokenNow_30 ?_
  obtain ⟨q7, ho7, hB⟩ := hB
  have hsr := And.left hB
  refine zr_callV (ci := 5) (As := []) (rest := []) hx hb hml hC hwk hw hS hl.1 (c_B_brokenCases l D B q7 σ6 _ hB) mk_B_brokenCases mi_B_brokenCases ms_B_brokenCases ml_X_228 ⟨Nat.le_of_ble_eq_true rfl, Nat.le_of_ble_eq_true rfl⟩ ho7 hsr rfl (cat_8 cat_n (Nat.le_of_ble_eq_true rfl)) d_X_brokenNow_33 ⟨Nat.le_refl _, Nat.le_refl _⟩ rfl (fun v σ8 H locs hp hgn hw hS => ?_)
  have hg := hg.tr hgn
  have hsb := hgn _ _ hsb
  have hs1 := hgn _ _ hs1
  have hs2 := hgn _ _ hs2
  obtain ⟨r9, rfl, hB⟩ := hp
  refine W.eq (g2 := F0 m 36 ls [.int r9]) rfl ?_
  exact zr_iret hx hb hr hlocks hB hg hw hS d_X_brokenNow_36

set_option maxHeartbeats 4000000 in
set_option maxRecDepth 100000 in
theorem c_X_countHolding (l : Launch) (D : va_G) (B : Nat) (b : Nat) (x1 : Int32) (σ : St) (Q : Int32 → St → Prop) (h : P_X_countHolding b x1 σ Q) : zM l y_X_countHolding b_X_countHolding 5 (some (.int)) (rm_X_countHolding) D B [.ref b, .int x1] σ (zQi Q) := by
  refine zM.ofW (own := "LawWorlds") (by decide +kernel) rfl (Nat.le_of_ble_eq_true rfl) ?_
  intro p e s m args below meth c ls hx hb hml hr hlocks hname hC hwk hw hS hl
  obtain ⟨σ0, eσ⟩ : ∃ z, z = σ := ⟨_, rfl⟩
  have hg : gr σ0 σ := by rw [eσ]; exact gr.rf
  have hl : lv_has ls 5 [(0, va_rf (some b)), (1, .int x1)] := hl
  obtain ⟨hsb, hB⟩ := h
  have hsb0 : s_s σ0 b = some (.inl 0) := by rw [eσ]; exact hsb
  rw [← eσ]
  skip
  obtain ⟨K4, hK4⟩ : ∃ K : Int32 → Int32 → Int32 → St → Prop, K = (fun (x1 : Int32) (x2 : Int32) (x3 : Int32) (σ : St) => ∀ (H : Heap) (locs : List Loc) (ls : Array Slot), gr σ0 σ → wh D B σ s H → va_S (zA B) s.heap H locs → lv_has ls 5 [(0, va_rf (some b)), (1, .int x1), (2, .int x2), (3, .int x3)] → W p l e (rm_X_countHolding) s m args below meth c H locs 0 0 (MQ below (zQ D B σ0 (zQi Q)) args s (rm_X_countHolding).cells (rm_X_countHolding).slots (zA B)) (F0 m 4 ls [])) := ⟨_, rfl⟩
  refine (fun hB => ?_) (hB K4 ?_)
  · skip
    refine lv_iconst (v := nI 0) hx hb d_X_countHolding_0 (by decide) ?_
    refine lv_istore_n (lv' := [(2, .int (nI 0)), (0, va_rf (some b)), (1, .int x1)]) hx hb d_X_countHolding_1 rfl hl (by decide) rfl (fun ls hl => ?_)
    refine lv_iconst (v := nI 0) hx hb d_X_countHolding_2 (by decide) ?_
    refine lv_istore_n (lv' := [(3, .int (nI 0)), (2, .int (nI 0)), (0, va_rf (some b)), (1, .int x1)]) hx hb d_X_countHolding_3 rfl hl (by decide) rfl (fun ls hl => ?_)
    rw [hK4] at hB
    exact hB _ _ _ hg hw hS (lv_sub hl [2, 3, 1, 0] rfl)
  · intro x1 x2 x3 σ hB
    rw [hK4]
    intro H locs ls hg hw hS hl
    have hsb := hg _ _ hsb0
    refine lv_iload_n hx hb d_X_countHolding_4 rfl (lv_at hl 3 rfl) ?_
    refine zr_aload_n (o := some b) hx hb d_X_countHolding_5 rfl (lv_at hl 0 rfl) ?_
    refine zr_get (v := va_rf (s_r σ b 0)) hx hb hC hw rfl hsb fl_X_10 rfl d_X_countHolding_6 ?_
    obtain ⟨q1, ho1, hs1, hB⟩ := hB
    refine zr_get (v := .int (s_i σ q1 2)) hx hb hC hw ho1 hs1 fl_X_105 rfl d_X_countHolding_9 ?_
    refine lv_icmp_ge (tgt := 64) hx hb d_X_countHolding_12 (by decide) (fun cd => ?_) (fun cd => ?_)
    · have hB := hB.1 cd
      refine lv_iload_n hx hb d_X_countHolding_64 rfl (lv_at hl 2 rfl) ?_
      exact zr_iret hx hb hr hlocks hB hg hw hS d_X_countHolding_65
    · have hB := hB.2 cd
      refine zr_aload_n (o := some b) hx hb d_X_countHolding_15 rfl (lv_at hl 0 rfl) ?_
      refine zr_get (v := va_rf (s_r σ b 0)) hx hb hC hw rfl hsb fl_X_10 rfl d_X_countHolding_16 ?_
      refine lv_iload_n hx hb d_X_countHolding_19 rfl (lv_at hl 3 rfl) ?_
      obtain ⟨q2, ho2, hB⟩ := hB
      have hsr := And.left hB
      refine zr_callV (ci := 1) (As := [.int x3]) (rest := []) hx hb hml hC hwk hw hS hl.1 (c_S_lawAt l D B q2 x3 σ _ hB) mk_S_lawAt mi_S_lawAt ms_S_lawAt ml_X_175 ⟨Nat.le_of_ble_eq_true rfl, Nat.le_of_ble_eq_true rfl⟩ ho2 hsr rfl (cat_8 cat_n (Nat.le_of_ble_eq_true rfl)) d_X_countHolding_20 ⟨Nat.le_refl _, Nat.le_refl _⟩ rfl (fun v σ3 H locs hp hgn hw hS => ?_)
      have hg := hg.tr hgn
      have hsb := hgn _ _ hsb
      have hs1 := hgn _ _ hs1
      obtain ⟨r4, rfl, hB⟩ := hp
      refine W.eq (g2 := F0 m 23 ls [va_rf r4]) rfl ?_
      refine zr_astore (lv' := [(4, va_rf r4), (0, va_rf (some b)), (1, .int x1), (2, .int x2), (3, .int x3)]) hx hb d_X_countHolding_23 hl (by decide) rfl (fun ls hl => ?_)
      refine zr_aload (o := r4) hx hb d_X_countHolding_25 (lv_at hl 0 rfl) ?_
      refine zr_ifnull (tgt := 58) hx hb d_X_countHolding_27 (by decide) (fun cd => ?_) (fun cd => ?_)
      · have hB := hB.1 cd
        refine lv_iinc (v := x3 + nI 1) (lv' := [(3, .int (x3 + nI 1)), (4, va_rf r4), (0, va_rf (some b)), (1, .int x1), (2, .int x2)]) hx hb d_X_countHolding_58 hl (k := 4) rfl rfl (by decide) rfl (fun ls hl => ?_)
        refine lv_goto (tgt := 4) hx hb d_X_countHolding_61 (by decide) ?_
        rw [hK4] at hB
        exact hB _ _ _ hg hw hS (lv_sub hl [2, 3, 4, 0] rfl)
      · have hB := hB.2 cd
        refine zr_aload_n (o := some b) hx hb d_X_countHolding_30 rfl (lv_at hl 1 rfl) ?_
        refine zr_get (v := va_rf (s_r σ3 b 0)) hx hb hC hw rfl hsb fl_X_10 rfl d_X_countHolding_31 ?_
        obtain ⟨q5, ho5, hs5, hB⟩ := hB
        refine zr_get (v := va_rf (s_r σ3 q5 1)) hx hb hC hw ho5 hs5 fl_X_124 rfl d_X_countHolding_34 ?_
        refine lv_iload_n hx hb d_X_countHolding_37 rfl (lv_at hl 4 rfl) ?_
        obtain ⟨q6, n6, j7, ho, hs, hin, hj, hB⟩ := hB
        refine zr_zald hx hb hw ho hs hin hj d_X_countHolding_38 ?_
        refine lv_if_ne (tgt := 46) hx hb d_X_countHolding_39 (by decide) (fun cd => ?_) (fun cd => ?_)
        · have hB := hB.2 cd
          refine zr_aload_n (o := some b) hx hb d_X_countHolding_46 rfl (lv_at hl 1 rfl) ?_
          refine zr_aload (o := r4) hx hb d_X_countHolding_47 (lv_at hl 0 rfl) ?_
          have hsr := And.left hB
          refine zr_callV (ci := 0) (As := [va_rf r4]) (rest := []) hx hb hml hC hwk hw hS hl.1 (c_X_brokenNow l D B b r4 σ3 _ hB) mk_X_brokenNow mi_X_brokenNow ms_X_brokenNow ml_X_179 ⟨Nat.le_of_ble_eq_true rfl, Nat.le_of_ble_eq_true rfl⟩ rfl hsr rfl (cat_8 cat_n (Nat.le_of_ble_eq_true rfl)) d_X_countHolding_49 ⟨Nat.le_refl _, Nat.le_refl _⟩ rfl (fun v σ8 H locs hp hgn hw hS => ?_)
          have hg := hg.tr hgn
          have hsb := hgn _ _ hsb
          have hs1 := hgn _ _ hs1
          have hs5 := hgn _ _ hs5
          obtain ⟨r9, rfl, hB⟩ := hp
          refine W.eq (g2 := F0 m 52 ls [.int r9]) rfl ?_
          refine lv_if_ne (tgt := 58) hx hb d_X_countHolding_52 (by decide) (fun cd => ?_) (fun cd => ?_)
          · have hB := hB.2 cd
            refine lv_iinc (v := x3 + nI 1) (lv' := [(3, .int (x3 + nI 1)), (4, va_rf r4), (0, va_rf (some b)), (1, .int x1), (2, .int x2)]) hx hb d_X_countHolding_58 hl (k := 4) rfl rfl (by decide) rfl (fun ls hl => ?_)
            refine lv_goto (tgt := 4) hx hb d_X_countHolding_61 (by decide) ?_
            rw [hK4] at hB
            exact hB _ _ _ hg hw hS (lv_sub hl [2, 3, 4, 0] rfl)
          · have hB := hB.1 cd
            refine lv_iinc (v := x2 + nI 1) (lv' := [(2, .int (x2 + nI 1)), (4, va_rf r4), (0, va_rf (some b)), (1, .int x1), (3, .int x3)]) hx hb d_X_countHolding_55 hl (k := 3) rfl rfl (by decide) rfl (fun ls hl => ?_)
            refine lv_iinc (v := x3 + nI 1) (lv' := [(3, .int (x3 + nI 1)), (2, .int (x2 + nI 1)), (4, va_rf r4), (0, va_rf (some b)), (1, .int x1)]) hx hb d_X_countHolding_58 hl (k := 4) rfl rfl (by decide) rfl (fun ls hl => ?_)
            refine lv_goto (tgt := 4) hx hb d_X_countHolding_61 (by decide) ?_
            rw [hK4] at hB
            exact hB _ _ _ hg hw hS (lv_sub hl [3, 4, 1, 0] rfl)
        · have hB := hB.1 cd
          refine lv_iload_n hx hb d_X_countHolding_42 rfl (lv_at hl 2 rfl) ?_
          refine lv_if_ne (tgt := 58) hx hb d_X_countHolding_43 (by decide) (fun cd => ?_) (fun cd => ?_)
          · have hB := hB.2 cd
            refine lv_iinc (v := x3 + nI 1) (lv' := [(3, .int (x3 + nI 1)), (4, va_rf r4), (0, va_rf (some b)), (1, .int x1), (2, .int x2)]) hx hb d_X_countHolding_58 hl (k := 4) rfl rfl (by decide) rfl (fun ls hl => ?_)
            refine lv_goto (tgt := 4) hx hb d_X_countHolding_61 (by decide) ?_
            rw [hK4] at hB
            exact hB _ _ _ hg hw hS (lv_sub hl [2, 3, 4, 0] rfl)
          · have hB := hB.1 cd
            refine zr_aload_n (o := some b) hx hb d_X_countHolding_46 rfl (lv_at hl 1 rfl) ?_
            refine zr_aload (o := r4) hx hb d_X_countHolding_47 (lv_at hl 0 rfl) ?_
            have hsr := And.left hB
            refine zr_callV (ci := 0) (As := [va_rf r4]) (rest := []) hx hb hml hC hwk hw hS hl.1 (c_X_brokenNow l D B b r4 σ3 _ hB) mk_X_brokenNow mi_X_brokenNow ms_X_brokenNow ml_X_179 ⟨Nat.le_of_ble_eq_true rfl, Nat.le_of_ble_eq_true rfl⟩ rfl hsr rfl (cat_8 cat_n (Nat.le_of_ble_eq_true rfl)) d_X_countHolding_49 ⟨Nat.le_refl _, Nat.le_refl _⟩ rfl (fun v σ10 H locs hp hgn hw hS => ?_)
            have hg := hg.tr hgn
            have hsb := hgn _ _ hsb
            have hs1 := hgn _ _ hs1
            have hs5 := hgn _ _ hs5
            obtain ⟨r11, rfl, hB⟩ := hp
            refine W.eq (g2 := F0 m 52 ls [.int r11]) rfl ?_
            refine lv_if_ne (tgt := 58) hx hb d_X_countHolding_52 (by decide) (fun cd => ?_) (fun cd => ?_)
            · have hB := hB.2 cd
              refine lv_iinc (v := x3 + nI 1) (lv' := [(3, .int (x3 + nI 1)), (4, va_rf r4), (0, va_rf (some b)), (1, .int x1), (2, .int x2)]) hx hb d_X_countHolding_58 hl (k := 4) rfl rfl (by decide) rfl (fun ls hl => ?_)
              refine lv_goto (tgt := 4) hx hb d_X_countHolding_61 (by decide) ?_
              rw [hK4] at hB
              exact hB _ _ _ hg hw hS (lv_sub hl [2, 3, 4, 0] rfl)
            · have hB := hB.1 cd
              refine lv_iinc (v := x2 + nI 1) (lv' := [(2, .int (x2 + nI 1)), (4, va_rf r4), (0, va_rf (some b)), (1, .int x1), (3, .int x3)]) hx hb d_X_countHolding_55 hl (k := 3) rfl rfl (by decide) rfl (fun ls hl => ?_)
              refine lv_iinc (v := x3 + nI 1) (lv' := [(3, .int (x3 + nI 1)), (2, .int (x2 + nI 1)), (4, va_rf r4), (0, va_rf (some b)), (1, .int x1)]) hx hb d_X_countHolding_58 hl (k := 4) rfl rfl (by decide) rfl (fun ls hl => ?_)
              refine lv_goto (tgt := 4) hx hb d_X_countHolding_61 (by decide) ?_
              rw [hK4] at hB
              exact hB _ _ _ hg hw hS (lv_sub hl [3, 4, 1, 0] rfl)

set_option maxHeartbeats 4000000 in
set_option maxRecDepth 100000 in
theorem c_X_world (l : Launch) (D : va_G) (B : Nat) (b : Nat) (x1 : Int32) (σ : St) (Q : Int32 → St → Prop) (h : P_X_world b x1 σ Q) : zM l y_X_world b_X_world 2 (some (.int)) (rm_X_world) D B [.ref b, .int x1] σ (zQi Q) := by
  refine zM.ofW (own := "LawWorlds") (by decide +kernel) rfl (Nat.le_of_ble_eq_true rfl) ?_
  intro p e s m args below meth c ls hx hb hml hr hlocks hname hC hwk hw hS hl
  obtain ⟨σ0, eσ⟩ : ∃ z, z = σ := ⟨_, rfl⟩
  have hg : gr σ0 σ := by rw [eσ]; exact gr.rf
  have hl : lv_has ls 2 [(0, va_rf (some b)), (1, .int x1)] := hl
  obtain ⟨hsb, hB⟩ := h
  have hsb0 : s_s σ0 b = some (.inl 0) := by rw [eσ]; exact hsb
  rw [← eσ]
  skip
  refine lv_iload_n hx hb d_X_world_0 rfl (lv_at hl 1 rfl) ?_
  by_cases c0 : x1 = nI 0
  · have hB := hB.1 c0
    refine lv_tableIn (tgt := 48) (off := 47) hx hb d_X_world_1 (by rw [c0]; decide) (by rw [c0]; decide) (by rw [c0]; decide) (by decide) ?_
    refine zr_aload_n (o := some b) hx hb d_X_world_48 rfl (lv_at hl 0 rfl) ?_
    refine zr_get (v := va_rf (s_r σ b 0)) hx hb hC hw rfl hsb fl_X_10 rfl d_X_world_49 ?_
    obtain ⟨q1, ho1, hs1, hB⟩ := hB
    refine zr_get (v := .int (s_i σ q1 3)) hx hb hC hw ho1 hs1 fl_X_61 rfl d_X_world_52 ?_
    exact zr_iret hx hb hr hlocks hB hg hw hS d_X_world_55
  · have hB := hB.2 c0
    by_cases c1 : x1 = nI 1
    · have hB := hB.1 c1
      refine lv_tableIn (tgt := 56) (off := 55) hx hb d_X_world_1 (by rw [c1]; decide) (by rw [c1]; decide) (by rw [c1]; decide) (by decide) ?_
      refine zr_aload_n (o := some b) hx hb d_X_world_56 rfl (lv_at hl 0 rfl) ?_
      refine zr_get (v := va_rf (s_r σ b 0)) hx hb hC hw rfl hsb fl_X_10 rfl d_X_world_57 ?_
      obtain ⟨q2, ho2, hs2, hB⟩ := hB
      refine zr_get (v := .int (s_i σ q2 4)) hx hb hC hw ho2 hs2 fl_X_65 rfl d_X_world_60 ?_
      exact zr_iret hx hb hr hlocks hB hg hw hS d_X_world_63
    · have hB := hB.2 c1
      by_cases c2 : x1 = nI 2
      · have hB := hB.1 c2
        refine lv_tableIn (tgt := 64) (off := 63) hx hb d_X_world_1 (by rw [c2]; decide) (by rw [c2]; decide) (by rw [c2]; decide) (by decide) ?_
        refine zr_aload_n (o := some b) hx hb d_X_world_64 rfl (lv_at hl 0 rfl) ?_
        refine zr_get (v := va_rf (s_r σ b 0)) hx hb hC hw rfl hsb fl_X_10 rfl d_X_world_65 ?_
        obtain ⟨q3, ho3, hs3, hB⟩ := hB
        refine zr_get (v := .int (s_i σ q3 3)) hx hb hC hw ho3 hs3 fl_X_61 rfl d_X_world_68 ?_
        refine zr_aload_n (o := some b) hx hb d_X_world_71 rfl (lv_at hl 0 rfl) ?_
        refine zr_get (v := va_rf (s_r σ b 0)) hx hb hC hw rfl hsb fl_X_10 rfl d_X_world_72 ?_
        obtain ⟨q4, ho4, hs4, hB⟩ := hB
        refine zr_get (v := .int (s_i σ q4 4)) hx hb hC hw ho4 hs4 fl_X_65 rfl d_X_world_75 ?_
        refine zr_callS (As := [.int (s_i σ q3 3), .int (s_i σ q4 4)]) (rest := []) hx hb hml hC hwk hw hS hl.1 (c_C_plainCode l D B (s_i σ q3 3) (s_i σ q4 4) σ _ hB) mk_C_plainCode mt_C_plainCode ml_X_156 ⟨Nat.le_of_ble_eq_true rfl, Nat.le_of_ble_eq_true rfl⟩ rfl (cat_8 cat_n (Nat.le_of_ble_eq_true rfl)) d_X_world_78 ⟨Nat.le_refl _, Nat.le_refl _⟩ rfl (fun v σ5 H locs hp hgn hw hS => ?_)
        have hg := hg.tr hgn
        have hsb := hgn _ _ hsb
        have hs3 := hgn _ _ hs3
        have hs4 := hgn _ _ hs4
        obtain ⟨r6, rfl, hB⟩ := hp
        refine W.eq (g2 := F0 m 81 ls [.int r6]) rfl ?_
        exact zr_iret hx hb hr hlocks hB hg hw hS d_X_world_81
      · have hB := hB.2 c2
        by_cases c3 : x1 = nI 3
        · have hB := hB.1 c3
          refine lv_tableIn (tgt := 82) (off := 81) hx hb d_X_world_1 (by rw [c3]; decide) (by rw [c3]; decide) (by rw [c3]; decide) (by decide) ?_
          refine zr_aload_n (o := some b) hx hb d_X_world_82 rfl (lv_at hl 0 rfl) ?_
          refine zr_get (v := va_rf (s_r σ b 0)) hx hb hC hw rfl hsb fl_X_10 rfl d_X_world_83 ?_
          obtain ⟨q7, ho7, hs7, hB⟩ := hB
          refine zr_get (v := .int (s_i σ q7 3)) hx hb hC hw ho7 hs7 fl_X_61 rfl d_X_world_86 ?_
          refine zr_aload_n (o := some b) hx hb d_X_world_89 rfl (lv_at hl 0 rfl) ?_
          refine zr_get (v := va_rf (s_r σ b 0)) hx hb hC hw rfl hsb fl_X_10 rfl d_X_world_90 ?_
          obtain ⟨q8, ho8, hs8, hB⟩ := hB
          refine zr_get (v := .int (s_i σ q8 4)) hx hb hC hw ho8 hs8 fl_X_65 rfl d_X_world_93 ?_
          refine zr_callS (As := [.int (s_i σ q7 3), .int (s_i σ q8 4)]) (rest := []) hx hb hml hC hwk hw hS hl.1 (c_C_alikeCount l D B (s_i σ q7 3) (s_i σ q8 4) σ _ hB) mk_C_alikeCount mt_C_alikeCount ml_X_159 ⟨Nat.le_of_ble_eq_true rfl, Nat.le_of_ble_eq_true rfl⟩ rfl (cat_8 cat_n (Nat.le_of_ble_eq_true rfl)) d_X_world_96 ⟨Nat.le_refl _, Nat.le_refl _⟩ rfl (fun v σ9 H locs hp hgn hw hS => ?_)
          have hg := hg.tr hgn
          have hsb := hgn _ _ hsb
          have hs7 := hgn _ _ hs7
          have hs8 := hgn _ _ hs8
          obtain ⟨r10, rfl, hB⟩ := hp
          refine W.eq (g2 := F0 m 99 ls [.int r10]) rfl ?_
          exact zr_iret hx hb hr hlocks hB hg hw hS d_X_world_99
        · have hB := hB.2 c3
          by_cases c4 : x1 = nI 4
          · have hB := hB.1 c4
            refine lv_tableIn (tgt := 100) (off := 99) hx hb d_X_world_1 (by rw [c4]; decide) (by rw [c4]; decide) (by rw [c4]; decide) (by decide) ?_
            refine zr_aload_n (o := some b) hx hb d_X_world_100 rfl (lv_at hl 0 rfl) ?_
            refine zr_get (v := va_rf (s_r σ b 0)) hx hb hC hw rfl hsb fl_X_10 rfl d_X_world_101 ?_
            obtain ⟨q11, ho11, hs11, hB⟩ := hB
            refine zr_get (v := .int (s_i σ q11 3)) hx hb hC hw ho11 hs11 fl_X_61 rfl d_X_world_104 ?_
            refine zr_aload_n (o := some b) hx hb d_X_world_107 rfl (lv_at hl 0 rfl) ?_
            refine zr_get (v := va_rf (s_r σ b 0)) hx hb hC hw rfl hsb fl_X_10 rfl d_X_world_108 ?_
            obtain ⟨q12, ho12, hs12, hB⟩ := hB
            refine zr_get (v := .int (s_i σ q12 4)) hx hb hC hw ho12 hs12 fl_X_65 rfl d_X_world_111 ?_
            refine zr_callS (As := [.int (s_i σ q11 3), .int (s_i σ q12 4)]) (rest := []) hx hb hml hC hwk hw hS hl.1 (c_C_stayingThings l D B (s_i σ q11 3) (s_i σ q12 4) σ _ hB) mk_C_stayingThings mt_C_stayingThings ml_X_162 ⟨Nat.le_of_ble_eq_true rfl, Nat.le_of_ble_eq_true rfl⟩ rfl (cat_8 cat_n (Nat.le_of_ble_eq_true rfl)) d_X_world_114 ⟨Nat.le_refl _, Nat.le_refl _⟩ rfl (fun v σ13 H locs hp hgn hw hS => ?_)
            have hg := hg.tr hgn
            have hsb := hgn _ _ hsb
            have hs11 := hgn _ _ hs11
            have hs12 := hgn _ _ hs12
            obtain ⟨r14, rfl, hB⟩ := hp
            refine W.eq (g2 := F0 m 117 ls [.int r14]) rfl ?_
            exact zr_iret hx hb hr hlocks hB hg hw hS d_X_world_117
          · have hB := hB.2 c4
            by_cases c5 : x1 = nI 5
            · have hB := hB.1 c5
              refine lv_tableIn (tgt := 118) (off := 117) hx hb d_X_world_1 (by rw [c5]; decide) (by rw [c5]; decide) (by rw [c5]; decide) (by decide) ?_
              refine zr_aload_n (o := some b) hx hb d_X_world_118 rfl (lv_at hl 0 rfl) ?_
              refine zr_get (v := va_rf (s_r σ b 0)) hx hb hC hw rfl hsb fl_X_10 rfl d_X_world_119 ?_
              obtain ⟨q15, ho15, hs15, hB⟩ := hB
              refine zr_get (v := .int (s_i σ q15 3)) hx hb hC hw ho15 hs15 fl_X_61 rfl d_X_world_122 ?_
              refine zr_aload_n (o := some b) hx hb d_X_world_125 rfl (lv_at hl 0 rfl) ?_
              refine zr_get (v := va_rf (s_r σ b 0)) hx hb hC hw rfl hsb fl_X_10 rfl d_X_world_126 ?_
              obtain ⟨q16, ho16, hs16, hB⟩ := hB
              refine zr_get (v := .int (s_i σ q16 4)) hx hb hC hw ho16 hs16 fl_X_65 rfl d_X_world_129 ?_
              refine zr_callS (As := [.int (s_i σ q15 3), .int (s_i σ q16 4)]) (rest := []) hx hb hml hC hwk hw hS hl.1 (c_C_leftLeavers l D B (s_i σ q15 3) (s_i σ q16 4) σ _ hB) mk_C_leftLeavers mt_C_leftLeavers ml_X_165 ⟨Nat.le_of_ble_eq_true rfl, Nat.le_of_ble_eq_true rfl⟩ rfl (cat_8 cat_n (Nat.le_of_ble_eq_true rfl)) d_X_world_132 ⟨Nat.le_refl _, Nat.le_refl _⟩ rfl (fun v σ17 H locs hp hgn hw hS => ?_)
              have hg := hg.tr hgn
              have hsb := hgn _ _ hsb
              have hs15 := hgn _ _ hs15
              have hs16 := hgn _ _ hs16
              obtain ⟨r18, rfl, hB⟩ := hp
              refine W.eq (g2 := F0 m 135 ls [.int r18]) rfl ?_
              exact zr_iret hx hb hr hlocks hB hg hw hS d_X_world_135
            · have hB := hB.2 c5
              by_cases c6 : x1 = nI 6
              · have hB := hB.1 c6
                refine lv_tableIn (tgt := 136) (off := 135) hx hb d_X_world_1 (by rw [c6]; decide) (by rw [c6]; decide) (by rw [c6]; decide) (by decide) ?_
                refine zr_aload_n (o := some b) hx hb d_X_world_136 rfl (lv_at hl 0 rfl) ?_
                refine zr_get (v := va_rf (s_r σ b 0)) hx hb hC hw rfl hsb fl_X_10 rfl d_X_world_137 ?_
                obtain ⟨q19, ho19, hs19, hB⟩ := hB
                refine zr_get (v := .int (s_i σ q19 3)) hx hb hC hw ho19 hs19 fl_X_61 rfl d_X_world_140 ?_
                refine zr_aload_n (o := some b) hx hb d_X_world_143 rfl (lv_at hl 0 rfl) ?_
                refine zr_get (v := va_rf (s_r σ b 0)) hx hb hC hw rfl hsb fl_X_10 rfl d_X_world_144 ?_
                obtain ⟨q20, ho20, hs20, hB⟩ := hB
                refine zr_get (v := .int (s_i σ q20 3)) hx hb hC hw ho20 hs20 fl_X_61 rfl d_X_world_147 ?_
                refine zr_aload_n (o := some b) hx hb d_X_world_150 rfl (lv_at hl 0 rfl) ?_
                refine zr_get (v := va_rf (s_r σ b 0)) hx hb hC hw rfl hsb fl_X_10 rfl d_X_world_151 ?_
                obtain ⟨q21, ho21, hs21, hB⟩ := hB
                refine zr_get (v := .int (s_i σ q21 4)) hx hb hC hw ho21 hs21 fl_X_65 rfl d_X_world_154 ?_
                refine zr_callS (As := [.int (s_i σ q20 3), .int (s_i σ q21 4)]) (rest := [.int (s_i σ q19 3)]) hx hb hml hC hwk hw hS hl.1 (c_C_mirrored l D B (s_i σ q20 3) (s_i σ q21 4) σ _ hB) mk_C_mirrored mt_C_mirrored ml_X_95 ⟨Nat.le_of_ble_eq_true rfl, Nat.le_of_ble_eq_true rfl⟩ rfl (cat_8 (cat_c rfl cat_n) (Nat.le_of_ble_eq_true rfl)) d_X_world_157 ⟨Nat.le_refl _, Nat.le_refl _⟩ rfl (fun v σ22 H locs hp hgn hw hS => ?_)
                have hg := hg.tr hgn
                have hsb := hgn _ _ hsb
                have hs19 := hgn _ _ hs19
                have hs20 := hgn _ _ hs20
                have hs21 := hgn _ _ hs21
                obtain ⟨r23, rfl, hB⟩ := hp
                refine W.eq (g2 := F0 m 160 ls [.int r23, .int (s_i σ q19 3)]) rfl ?_
                refine zr_callS (As := [.int (s_i σ q19 3), .int r23]) (rest := []) hx hb hml hC hwk hw hS hl.1 (c_C_leftLeavers l D B (s_i σ q19 3) r23 σ22 _ hB) mk_C_leftLeavers mt_C_leftLeavers ml_X_165 ⟨Nat.le_of_ble_eq_true rfl, Nat.le_of_ble_eq_true rfl⟩ rfl (cat_8 cat_n (Nat.le_of_ble_eq_true rfl)) d_X_world_160 ⟨Nat.le_refl _, Nat.le_refl _⟩ rfl (fun v σ24 H locs hp hgn hw hS => ?_)
                have hg := hg.tr hgn
                have hsb := hgn _ _ hsb
                have hs19 := hgn _ _ hs19
                have hs20 := hgn _ _ hs20
                have hs21 := hgn _ _ hs21
                obtain ⟨r25, rfl, hB⟩ := hp
                refine W.eq (g2 := F0 m 163 ls [.int r25]) rfl ?_
                exact zr_iret hx hb hr hlocks hB hg hw hS d_X_world_163
              · have hB := hB.2 c6
                by_cases c7 : x1 = nI 7
                · have hB := hB.1 c7
                  refine lv_tableIn (tgt := 164) (off := 163) hx hb d_X_world_1 (by rw [c7]; decide) (by rw [c7]; decide) (by rw [c7]; decide) (by decide) ?_
                  refine zr_aload_n (o := some b) hx hb d_X_world_164 rfl (lv_at hl 0 rfl) ?_
                  refine lv_iconst (v := nI 1) hx hb d_X_world_165 (by decide) ?_
                  have hsr := And.left hB
                  refine zr_callV (ci := 0) (As := [.int (nI 1)]) (rest := []) hx hb hml hC hwk hw hS hl.1 (c_X_countHolding l D B b (nI 1) σ _ hB) mk_X_countHolding mi_X_countHolding ms_X_countHolding ml_X_168 ⟨Nat.le_of_ble_eq_true rfl, Nat.le_of_ble_eq_true rfl⟩ rfl hsr rfl (cat_8 cat_n (Nat.le_of_ble_eq_true rfl)) d_X_world_166 ⟨Nat.le_refl _, Nat.le_refl _⟩ rfl (fun v σ26 H locs hp hgn hw hS => ?_)
                  have hg := hg.tr hgn
                  have hsb := hgn _ _ hsb
                  obtain ⟨r27, rfl, hB⟩ := hp
                  refine W.eq (g2 := F0 m 169 ls [.int r27]) rfl ?_
                  refine zr_aload_n (o := some b) hx hb d_X_world_169 rfl (lv_at hl 0 rfl) ?_
                  refine zr_get (v := va_rf (s_r σ26 b 0)) hx hb hC hw rfl hsb fl_X_10 rfl d_X_world_170 ?_
                  obtain ⟨q28, ho28, hB⟩ := hB
                  have hsr := And.left hB
                  refine zr_callV (ci := 1) (As := []) (rest := [.int r27]) hx hb hml hC hwk hw hS hl.1 (c_S_onCount l D B q28 σ26 _ hB) mk_S_onCount mi_S_onCount ms_S_onCount ml_X_128 ⟨Nat.le_of_ble_eq_true rfl, Nat.le_of_ble_eq_true rfl⟩ ho28 hsr rfl (cat_8 (cat_c rfl cat_n) (Nat.le_of_ble_eq_true rfl)) d_X_world_173 ⟨Nat.le_refl _, Nat.le_refl _⟩ rfl (fun v σ29 H locs hp hgn hw hS => ?_)
                  have hg := hg.tr hgn
                  have hsb := hgn _ _ hsb
                  obtain ⟨r30, rfl, hB⟩ := hp
                  refine W.eq (g2 := F0 m 176 ls [.int r30, .int r27]) rfl ?_
                  refine lv_icmp_ne (tgt := 183) hx hb d_X_world_176 (by decide) (fun cd => ?_) (fun cd => ?_)
                  · have hB := hB.2 cd
                    refine lv_iconst (v := nI 0) hx hb d_X_world_183 (by decide) ?_
                    exact zr_iret hx hb hr hlocks hB hg hw hS d_X_world_184
                  · have hB := hB.1 cd
                    refine lv_iconst (v := nI 1) hx hb d_X_world_179 (by decide) ?_
                    refine lv_goto (tgt := 184) hx hb d_X_world_180 (by decide) ?_
                    exact zr_iret hx hb hr hlocks hB hg hw hS d_X_world_184
                · have hB := hB.2 c7
                  refine lv_tableOut (tgt := 185) hx hb d_X_world_1 (sw_out (n := 8) (by decide) (fun k hk => ?_)) (by decide) ?_
                  · match k, hk with
                    | 0, _ => exact c0
                    | 1, _ => exact c1
                    | 2, _ => exact c2
                    | 3, _ => exact c3
                    | 4, _ => exact c4
                    | 5, _ => exact c5
                    | 6, _ => exact c6
                    | 7, _ => exact c7
                    | k + 8, h => exact absurd h (by omega)
                  · skip
                    refine lv_bipush (v := (-2)) hx hb d_X_world_185 (by decide) ?_
                    exact zr_iret hx hb hr hlocks hB hg hw hS d_X_world_187

set_option maxHeartbeats 4000000 in
set_option maxRecDepth 100000 in
theorem c_X_closed (l : Launch) (D : va_G) (B : Nat) (b : Nat) (x1 : Int32) (σ : St) (Q : Int32 → St → Prop) (h : P_X_closed b x1 σ Q) : zM l y_X_closed b_X_closed 4 (some (.int)) (rm_X_closed) D B [.ref b, .int x1] σ (zQi Q) := by
  refine zM.ofW (own := "LawWorlds") (by decide +kernel) rfl (Nat.le_of_ble_eq_true rfl) ?_
  intro p e s m args below meth c ls hx hb hml hr hlocks hname hC hwk hw hS hl
  obtain ⟨σ0, eσ⟩ : ∃ z, z = σ := ⟨_, rfl⟩
  have hg : gr σ0 σ := by rw [eσ]; exact gr.rf
  have hl : lv_has ls 4 [(0, va_rf (some b)), (1, .int x1)] := hl
  obtain ⟨hsb, hB⟩ := h
  have hsb0 : s_s σ0 b = some (.inl 0) := by rw [eσ]; exact hsb
  rw [← eσ]
  skip
  obtain ⟨K24, hK24⟩ : ∃ K : Int32 → Int32 → St → Prop, K = (fun (x2 : Int32) (x3 : Int32) (σ : St) => ∀ (H : Heap) (locs : List Loc) (ls : Array Slot), gr σ0 σ → wh D B σ s H → va_S (zA B) s.heap H locs → lv_has ls 4 [(0, va_rf (some b)), (2, .int x2), (3, .int x3)] → W p l e (rm_X_closed) s m args below meth c H locs 0 0 (MQ below (zQ D B σ0 (zQi Q)) args s (rm_X_closed).cells (rm_X_closed).slots (zA B)) (F0 m 24 ls [])) := ⟨_, rfl⟩
  refine (fun hB => ?_) (hB K24 ?_)
  · skip
    refine lv_iload_n hx hb d_X_closed_0 rfl (lv_at hl 1 rfl) ?_
    refine lv_if_lt (tgt := 17) hx hb d_X_closed_1 (by decide) (fun cd => ?_) (fun cd => ?_)
    · have hB := hB.1 cd
      refine lv_bipush (v := (-2)) hx hb d_X_closed_17 (by decide) ?_
      exact zr_iret hx hb hr hlocks hB hg hw hS d_X_closed_19
    · have hB := hB.2 cd
      refine lv_iload_n hx hb d_X_closed_4 rfl (lv_at hl 1 rfl) ?_
      refine lv_iconst (v := nI 1) hx hb d_X_closed_5 (by decide) ?_
      refine zr_aload_n (o := some b) hx hb d_X_closed_6 rfl (lv_at hl 0 rfl) ?_
      refine zr_get (v := va_rf (s_r σ b 0)) hx hb hC hw rfl hsb fl_X_10 rfl d_X_closed_7 ?_
      obtain ⟨q6, ho6, hs6, hB⟩ := hB
      refine zr_get (v := .int (s_i σ q6 3)) hx hb hC hw ho6 hs6 fl_X_61 rfl d_X_closed_10 ?_
      refine zr_ishl hx hb d_X_closed_13 ?_
      refine lv_icmp_lt (tgt := 20) hx hb d_X_closed_14 (by decide) (fun cd => ?_) (fun cd => ?_)
      · have hB := hB.1 cd
        refine lv_iload_n hx hb d_X_closed_20 rfl (lv_at hl 1 rfl) ?_
        refine lv_istore_n (lv' := [(2, .int x1), (0, va_rf (some b)), (1, .int x1)]) hx hb d_X_closed_21 rfl hl (by decide) rfl (fun ls hl => ?_)
        refine lv_iconst (v := nI 0) hx hb d_X_closed_22 (by decide) ?_
        refine lv_istore_n (lv' := [(3, .int (nI 0)), (2, .int x1), (0, va_rf (some b)), (1, .int x1)]) hx hb d_X_closed_23 rfl hl (by decide) rfl (fun ls hl => ?_)
        rw [hK24] at hB
        exact hB _ _ _ hg hw hS (lv_sub hl [2, 1, 0] rfl)
      · have hB := hB.2 cd
        refine lv_bipush (v := (-2)) hx hb d_X_closed_17 (by decide) ?_
        exact zr_iret hx hb hr hlocks hB hg hw hS d_X_closed_19
  · intro x2 x3 σ hB
    rw [hK24]
    intro H locs ls hg hw hS hl
    have hsb := hg _ _ hsb0
    refine lv_iload_n hx hb d_X_closed_24 rfl (lv_at hl 2 rfl) ?_
    refine zr_aload_n (o := some b) hx hb d_X_closed_25 rfl (lv_at hl 0 rfl) ?_
    refine zr_get (v := va_rf (s_r σ b 0)) hx hb hC hw rfl hsb fl_X_10 rfl d_X_closed_26 ?_
    obtain ⟨q1, ho1, hs1, hB⟩ := hB
    refine zr_get (v := .int (s_i σ q1 3)) hx hb hC hw ho1 hs1 fl_X_61 rfl d_X_closed_29 ?_
    refine lv_icmp_ge (tgt := 60) hx hb d_X_closed_32 (by decide) (fun cd => ?_) (fun cd => ?_)
    · have hB := hB.1 cd
      refine lv_iload_n hx hb d_X_closed_60 rfl (lv_at hl 1 rfl) ?_
      exact zr_iret hx hb hr hlocks hB hg hw hS d_X_closed_61
    · have hB := hB.2 cd
      refine zr_aload_n (o := some b) hx hb d_X_closed_35 rfl (lv_at hl 0 rfl) ?_
      refine zr_get (v := va_rf (s_r σ b 0)) hx hb hC hw rfl hsb fl_X_10 rfl d_X_closed_36 ?_
      obtain ⟨q2, ho2, hs2, hB⟩ := hB
      refine zr_get (v := .int (s_i σ q2 3)) hx hb hC hw ho2 hs2 fl_X_61 rfl d_X_closed_39 ?_
      refine zr_aload_n (o := some b) hx hb d_X_closed_42 rfl (lv_at hl 0 rfl) ?_
      refine zr_get (v := va_rf (s_r σ b 0)) hx hb hC hw rfl hsb fl_X_10 rfl d_X_closed_43 ?_
      obtain ⟨q3, ho3, hs3, hB⟩ := hB
      refine zr_get (v := .int (s_i σ q3 4)) hx hb hC hw ho3 hs3 fl_X_65 rfl d_X_closed_46 ?_
      refine lv_iload_n hx hb d_X_closed_49 rfl (lv_at hl 1 rfl) ?_
      refine zr_callS (As := [.int (s_i σ q2 3), .int (s_i σ q3 4), .int x2]) (rest := []) hx hb hml hC hwk hw hS hl.1 (c_C_withProducts l D B (s_i σ q2 3) (s_i σ q3 4) x2 σ _ hB) mk_C_withProducts mt_C_withProducts ml_X_172 ⟨Nat.le_of_ble_eq_true rfl, Nat.le_of_ble_eq_true rfl⟩ rfl (cat_8 cat_n (Nat.le_of_ble_eq_true rfl)) d_X_closed_50 ⟨Nat.le_refl _, Nat.le_refl _⟩ rfl (fun v σ4 H locs hp hgn hw hS => ?_)
      have hg := hg.tr hgn
      have hsb := hgn _ _ hsb
      have hs1 := hgn _ _ hs1
      have hs2 := hgn _ _ hs2
      have hs3 := hgn _ _ hs3
      obtain ⟨r5, rfl, hB⟩ := hp
      refine W.eq (g2 := F0 m 53 ls [.int r5]) rfl ?_
      refine lv_istore_n (lv' := [(2, .int r5), (0, va_rf (some b)), (3, .int x3)]) hx hb d_X_closed_53 rfl hl (by decide) rfl (fun ls hl => ?_)
      refine lv_iinc (v := x3 + nI 1) (lv' := [(3, .int (x3 + nI 1)), (2, .int r5), (0, va_rf (some b))]) hx hb d_X_closed_54 hl (k := 2) rfl rfl (by decide) rfl (fun ls hl => ?_)
      refine lv_goto (tgt := 24) hx hb d_X_closed_57 (by decide) ?_
      rw [hK24] at hB
      exact hB _ _ _ hg hw hS (lv_sub hl [2, 1, 0] rfl)

set_option maxHeartbeats 4000000 in
set_option maxRecDepth 100000 in
theorem c_X_firstCase (l : Launch) (D : va_G) (B : Nat) (x0 : Int32) (σ : St) (Q : Int32 → St → Prop) (h : P_X_firstCase x0 σ Q) : zM l y_X_firstCase b_X_firstCase 1 (some (.int)) (rm_X_firstCase) D B [.int x0] σ (zQi Q) := by
  refine zM.ofW (own := "LawWorlds") (by decide +kernel) rfl (Nat.le_of_ble_eq_true rfl) ?_
  intro p e s m args below meth c ls hx hb hml hr hlocks hname hC hwk hw hS hl
  obtain ⟨σ0, eσ⟩ : ∃ z, z = σ := ⟨_, rfl⟩
  have hg : gr σ0 σ := by rw [eσ]; exact gr.rf
  have hl : lv_has ls 1 [(0, .int x0)] := hl
  have hB := h
  rw [← eσ]
  skip
  refine lv_iload_n hx hb d_X_firstCase_0 rfl (lv_at hl 0 rfl) ?_
  refine lv_if_ne (tgt := 9) hx hb d_X_firstCase_1 (by decide) (fun cd => ?_) (fun cd => ?_)
  · have hB := hB.2 cd
    refine lv_iload_n hx hb d_X_firstCase_9 rfl (lv_at hl 0 rfl) ?_
    refine lv_iload_n hx hb d_X_firstCase_10 rfl (lv_at hl 0 rfl) ?_
    refine lv_ineg hx hb d_X_firstCase_11 ?_
    refine lv_iand hx hb d_X_firstCase_12 ?_
    refine lv_iconst (v := nI 1) hx hb d_X_firstCase_13 (by decide) ?_
    refine lv_isub hx hb d_X_firstCase_14 ?_
    refine zr_callS (As := [.int ((x0 &&& (-x0)) - (nI 1))]) (rest := []) hx hb hml hC hwk hw hS hl.1 (c_I_bitCount l D B ((x0 &&& (-x0)) - (nI 1)) σ _ hB) mk_I_bitCount mt_I_bitCount ml_X_183 ⟨Nat.le_of_ble_eq_true rfl, Nat.le_of_ble_eq_true rfl⟩ rfl (cat_8 cat_n (Nat.le_of_ble_eq_true rfl)) d_X_firstCase_15 ⟨Nat.le_refl _, Nat.le_refl _⟩ rfl (fun v σ1 H locs hp hgn hw hS => ?_)
    have hg := hg.tr hgn
    obtain ⟨r2, rfl, hB⟩ := hp
    refine W.eq (g2 := F0 m 18 ls [.int r2]) rfl ?_
    exact zr_iret hx hb hr hlocks hB hg hw hS d_X_firstCase_18
  · have hB := hB.1 cd
    refine lv_bipush (v := (-5)) hx hb d_X_firstCase_4 (by decide) ?_
    refine lv_goto (tgt := 18) hx hb d_X_firstCase_6 (by decide) ?_
    exact zr_iret hx hb hr hlocks hB hg hw hS d_X_firstCase_18

set_option maxHeartbeats 4000000 in
set_option maxRecDepth 100000 in
theorem c_X_law (l : Launch) (D : va_G) (B : Nat) (b : Nat) (x1 : Int32) (x2 : Int32) (σ : St) (mc : Nat) (ms : Nat) (Q : Int32 → St → Prop) (h : P_X_law b x1 x2 σ mc ms Q) : zM l y_X_law b_X_law 4 (some (.int)) (rm_X_law mc ms) D B [.ref b, .int x1, .int x2] σ (zQi Q) := by
  refine zM.ofW (own := "LawWorlds") (by decide +kernel) rfl (Nat.le_of_ble_eq_true rfl) ?_
  intro p e s m args below meth c ls hx hb hml hr hlocks hname hC hwk hw hS hl
  obtain ⟨σ0, eσ⟩ : ∃ z, z = σ := ⟨_, rfl⟩
  have hg : gr σ0 σ := by rw [eσ]; exact gr.rf
  have hl : lv_has ls 4 [(0, va_rf (some b)), (1, .int x1), (2, .int x2)] := hl
  have ha1 : 0 ≤ mc := Nat.zero_le _
  have ha2 : 0 ≤ ms := Nat.zero_le _
  obtain ⟨hsb, hB⟩ := h
  have hsb0 : s_s σ0 b = some (.inl 0) := by rw [eσ]; exact hsb
  rw [← eσ]
  skip
  refine zr_aload_n (o := some b) hx hb d_X_law_0 rfl (lv_at hl 0 rfl) ?_
  refine zr_get (v := va_rf (s_r σ b 0)) hx hb hC hw rfl hsb fl_X_10 rfl d_X_law_1 ?_
  refine lv_iload_n hx hb d_X_law_4 rfl (lv_at hl 1 rfl) ?_
  obtain ⟨q1, ho1, hB⟩ := hB
  have hsr := And.left hB
  refine zr_callV (ci := 1) (As := [.int x1]) (rest := []) hx hb hml hC hwk hw hS hl.1 (c_S_lawAt l D B q1 x1 σ _ hB) mk_S_lawAt mi_S_lawAt ms_S_lawAt ml_X_175 ⟨Nat.le_of_ble_eq_true rfl, Nat.le_of_ble_eq_true rfl⟩ ho1 hsr rfl (cat_8 cat_n (Nat.le_of_ble_eq_true rfl)) d_X_law_5 ⟨ha1, ha2⟩ rfl (fun v σ2 H locs hp hgn hw hS => ?_)
  have hg := hg.tr hgn
  have hsb := hgn _ _ hsb
  obtain ⟨r3, rfl, hB⟩ := hp
  refine W.eq (g2 := F0 m 8 ls [va_rf r3]) rfl ?_
  refine zr_astore_n (lv' := [(3, va_rf r3), (0, va_rf (some b)), (1, .int x1), (2, .int x2)]) hx hb d_X_law_8 rfl hl (by decide) rfl (fun ls hl => ?_)
  refine zr_aload_n (o := r3) hx hb d_X_law_9 rfl (lv_at hl 0 rfl) ?_
  refine zr_ifnonnull (tgt := 15) hx hb d_X_law_10 (by decide) (fun cd => ?_) (fun cd => ?_)
  · have hB := hB.2 cd
    refine lv_iload_n hx hb d_X_law_15 rfl (lv_at hl 3 rfl) ?_
    by_cases c0 : x2 = nI 0
    · have hB := hB.1 c0
      refine lv_tableIn (tgt := 60) (off := 44) hx hb d_X_law_16 (by rw [c0]; decide) (by rw [c0]; decide) (by rw [c0]; decide) (by decide) ?_
      refine zr_aload_n (o := some b) hx hb d_X_law_60 rfl (lv_at hl 1 rfl) ?_
      refine zr_get (v := va_rf (s_r σ2 b 0)) hx hb hC hw rfl hsb fl_X_10 rfl d_X_law_61 ?_
      obtain ⟨q4, ho4, hs4, hB⟩ := hB
      refine zr_get (v := va_rf (s_r σ2 q4 1)) hx hb hC hw ho4 hs4 fl_X_124 rfl d_X_law_64 ?_
      refine lv_iload_n hx hb d_X_law_67 rfl (lv_at hl 2 rfl) ?_
      obtain ⟨q5, n5, j6, ho, hs, hin, hj, hB⟩ := hB
      refine zr_zald hx hb hw ho hs hin hj d_X_law_68 ?_
      refine lv_if_eq (tgt := 76) hx hb d_X_law_69 (by decide) (fun cd => ?_) (fun cd => ?_)
      · have hB := hB.1 cd
        refine lv_iconst (v := nI 0) hx hb d_X_law_76 (by decide) ?_
        refine W.widen (k := mc) (n := ms) ha1 ha2 ?_
        exact zr_iret hx hb hr hlocks hB hg hw hS d_X_law_77
      · have hB := hB.2 cd
        refine lv_iconst (v := nI 1) hx hb d_X_law_72 (by decide) ?_
        refine lv_goto (tgt := 77) hx hb d_X_law_73 (by decide) ?_
        refine W.widen (k := mc) (n := ms) ha1 ha2 ?_
        exact zr_iret hx hb hr hlocks hB hg hw hS d_X_law_77
    · have hB := hB.2 c0
      by_cases c1 : x2 = nI 1
      · have hB := hB.1 c1
        refine lv_tableIn (tgt := 78) (off := 62) hx hb d_X_law_16 (by rw [c1]; decide) (by rw [c1]; decide) (by rw [c1]; decide) (by decide) ?_
        refine zr_aload_n (o := some b) hx hb d_X_law_78 rfl (lv_at hl 1 rfl) ?_
        refine zr_aload_n (o := r3) hx hb d_X_law_79 rfl (lv_at hl 0 rfl) ?_
        have hsr := And.left hB
        refine zr_callV (ci := 0) (As := [va_rf r3]) (rest := []) hx hb hml hC hwk hw hS hl.1 (c_X_brokenNow l D B b r3 σ2 _ hB) mk_X_brokenNow mi_X_brokenNow ms_X_brokenNow ml_X_179 ⟨Nat.le_of_ble_eq_true rfl, Nat.le_of_ble_eq_true rfl⟩ rfl hsr rfl (cat_8 cat_n (Nat.le_of_ble_eq_true rfl)) d_X_law_80 ⟨ha1, ha2⟩ rfl (fun v σ7 H locs hp hgn hw hS => ?_)
        have hg := hg.tr hgn
        have hsb := hgn _ _ hsb
        obtain ⟨r8, rfl, hB⟩ := hp
        refine W.eq (g2 := F0 m 83 ls [.int r8]) rfl ?_
        refine zr_callS (As := [.int r8]) (rest := []) hx hb hml hC hwk hw hS hl.1 (c_I_bitCount l D B r8 σ7 _ hB) mk_I_bitCount mt_I_bitCount ml_X_183 ⟨Nat.le_of_ble_eq_true rfl, Nat.le_of_ble_eq_true rfl⟩ rfl (cat_8 cat_n (Nat.le_of_ble_eq_true rfl)) d_X_law_83 ⟨ha1, ha2⟩ rfl (fun v σ9 H locs hp hgn hw hS => ?_)
        have hg := hg.tr hgn
        have hsb := hgn _ _ hsb
        obtain ⟨r10, rfl, hB⟩ := hp
        refine W.eq (g2 := F0 m 86 ls [.int r10]) rfl ?_
        refine W.widen (k := mc) (n := ms) ha1 ha2 ?_
        exact zr_iret hx hb hr hlocks hB hg hw hS d_X_law_86
      · have hB := hB.2 c1
        by_cases c2 : x2 = nI 2
        · have hB := hB.1 c2
          refine lv_tableIn (tgt := 87) (off := 71) hx hb d_X_law_16 (by rw [c2]; decide) (by rw [c2]; decide) (by rw [c2]; decide) (by decide) ?_
          refine zr_aload_n (o := r3) hx hb d_X_law_87 rfl (lv_at hl 0 rfl) ?_
          obtain ⟨q11, ho11, hs11, hB⟩ := hB
          refine zr_get (v := .int (s_i σ2 q11 2)) hx hb hC hw ho11 hs11 fl_X_188 rfl d_X_law_88 ?_
          refine W.widen (k := mc) (n := ms) ha1 ha2 ?_
          exact zr_iret hx hb hr hlocks hB hg hw hS d_X_law_91
        · have hB := hB.2 c2
          by_cases c3 : x2 = nI 3
          · have hB := hB.1 c3
            refine lv_tableIn (tgt := 92) (off := 76) hx hb d_X_law_16 (by rw [c3]; decide) (by rw [c3]; decide) (by rw [c3]; decide) (by decide) ?_
            refine zr_aload_n (o := r3) hx hb d_X_law_92 rfl (lv_at hl 0 rfl) ?_
            obtain ⟨q12, ho12, hs12, hB⟩ := hB
            refine zr_get (v := .int (s_i σ2 q12 3)) hx hb hC hw ho12 hs12 fl_X_193 rfl d_X_law_93 ?_
            refine W.widen (k := mc) (n := ms) ha1 ha2 ?_
            exact zr_iret hx hb hr hlocks hB hg hw hS d_X_law_96
          · have hB := hB.2 c3
            by_cases c4 : x2 = nI 4
            · have hB := hB.1 c4
              refine lv_tableIn (tgt := 97) (off := 81) hx hb d_X_law_16 (by rw [c4]; decide) (by rw [c4]; decide) (by rw [c4]; decide) (by decide) ?_
              refine zr_aload_n (o := some b) hx hb d_X_law_97 rfl (lv_at hl 1 rfl) ?_
              refine zr_get (v := va_rf (s_r σ2 b 4)) hx hb hC hw rfl hsb fl_X_40 rfl d_X_law_98 ?_
              refine zr_aload_n (o := some b) hx hb d_X_law_101 rfl (lv_at hl 1 rfl) ?_
              refine zr_get (v := va_rf (s_r σ2 b 0)) hx hb hC hw rfl hsb fl_X_10 rfl d_X_law_102 ?_
              refine lv_iload_n hx hb d_X_law_105 rfl (lv_at hl 2 rfl) ?_
              obtain ⟨q13, ho13, hB⟩ := hB
              obtain ⟨c14, d15, hc1, hc2, hB⟩ := hB
              have hsr := And.left hB
              refine zr_callV (ci := 6) (As := [va_rf (s_r σ2 b 0), .int x1]) (rest := []) hx hb hml hC hwk hw hS hl.1 (c_E_findWitnesses l D B q13 (s_r σ2 b 0) x1 σ2 c14 d15 _ hB) mk_E_findWitnesses mi_E_findWitnesses ms_E_findWitnesses ml_X_132 ⟨Nat.le_of_ble_eq_true rfl, Nat.le_of_ble_eq_true rfl⟩ ho13 hsr rfl (cat_8 cat_n (Nat.le_of_ble_eq_true rfl)) d_X_law_106 ⟨hc1, hc2⟩ rfl (fun v σ16 H locs hp hgn hw hS => ?_)
              have hg := hg.tr hgn
              have hsb := hgn _ _ hsb
              have ha1 := hc1
              have ha2 := hc2
              obtain ⟨r17, rfl, hB⟩ := hp
              refine W.eq (g2 := F0 m 109 ls [.int r17]) rfl ?_
              refine lv_if_ne (tgt := 116) hx hb d_X_law_109 (by decide) (fun cd => ?_) (fun cd => ?_)
              · have hB := hB.2 cd
                refine lv_iconst (v := nI 0) hx hb d_X_law_116 (by decide) ?_
                refine W.widen (k := mc) (n := ms) ha1 ha2 ?_
                exact zr_iret hx hb hr hlocks hB hg hw hS d_X_law_117
              · have hB := hB.1 cd
                refine lv_iconst (v := nI 1) hx hb d_X_law_112 (by decide) ?_
                refine lv_goto (tgt := 117) hx hb d_X_law_113 (by decide) ?_
                refine W.widen (k := mc) (n := ms) ha1 ha2 ?_
                exact zr_iret hx hb hr hlocks hB hg hw hS d_X_law_117
            · have hB := hB.2 c4
              by_cases c5 : x2 = nI 5
              · have hB := hB.1 c5
                refine lv_tableIn (tgt := 118) (off := 102) hx hb d_X_law_16 (by rw [c5]; decide) (by rw [c5]; decide) (by rw [c5]; decide) (by decide) ?_
                refine zr_aload_n (o := some b) hx hb d_X_law_118 rfl (lv_at hl 1 rfl) ?_
                refine zr_get (v := va_rf (s_r σ2 b 4)) hx hb hC hw rfl hsb fl_X_40 rfl d_X_law_119 ?_
                refine zr_aload_n (o := some b) hx hb d_X_law_122 rfl (lv_at hl 1 rfl) ?_
                refine zr_get (v := va_rf (s_r σ2 b 0)) hx hb hC hw rfl hsb fl_X_10 rfl d_X_law_123 ?_
                refine lv_iload_n hx hb d_X_law_126 rfl (lv_at hl 2 rfl) ?_
                obtain ⟨q18, ho18, hB⟩ := hB
                obtain ⟨c19, d20, hc1, hc2, hB⟩ := hB
                have hsr := And.left hB
                refine zr_callV (ci := 6) (As := [va_rf (s_r σ2 b 0), .int x1]) (rest := []) hx hb hml hC hwk hw hS hl.1 (c_E_findWitnesses l D B q18 (s_r σ2 b 0) x1 σ2 c19 d20 _ hB) mk_E_findWitnesses mi_E_findWitnesses ms_E_findWitnesses ml_X_132 ⟨Nat.le_of_ble_eq_true rfl, Nat.le_of_ble_eq_true rfl⟩ ho18 hsr rfl (cat_8 cat_n (Nat.le_of_ble_eq_true rfl)) d_X_law_127 ⟨hc1, hc2⟩ rfl (fun v σ21 H locs hp hgn hw hS => ?_)
                have hg := hg.tr hgn
                have hsb := hgn _ _ hsb
                have ha1 := hc1
                have ha2 := hc2
                obtain ⟨r22, rfl, hB⟩ := hp
                refine W.eq (g2 := F0 m 130 ls [.int r22]) rfl ?_
                refine W.widen (k := mc) (n := ms) ha1 ha2 ?_
                exact zr_iret hx hb hr hlocks hB hg hw hS d_X_law_130
              · have hB := hB.2 c5
                by_cases c6 : x2 = nI 6
                · have hB := hB.1 c6
                  refine lv_tableIn (tgt := 131) (off := 115) hx hb d_X_law_16 (by rw [c6]; decide) (by rw [c6]; decide) (by rw [c6]; decide) (by decide) ?_
                  refine zr_aload_n (o := some b) hx hb d_X_law_131 rfl (lv_at hl 1 rfl) ?_
                  refine zr_aload_n (o := r3) hx hb d_X_law_132 rfl (lv_at hl 0 rfl) ?_
                  have hsr := And.left hB
                  refine zr_callV (ci := 0) (As := [va_rf r3]) (rest := []) hx hb hml hC hwk hw hS hl.1 (c_X_brokenNow l D B b r3 σ2 _ hB) mk_X_brokenNow mi_X_brokenNow ms_X_brokenNow ml_X_179 ⟨Nat.le_of_ble_eq_true rfl, Nat.le_of_ble_eq_true rfl⟩ rfl hsr rfl (cat_8 cat_n (Nat.le_of_ble_eq_true rfl)) d_X_law_133 ⟨ha1, ha2⟩ rfl (fun v σ23 H locs hp hgn hw hS => ?_)
                  have hg := hg.tr hgn
                  have hsb := hgn _ _ hsb
                  obtain ⟨r24, rfl, hB⟩ := hp
                  refine W.eq (g2 := F0 m 136 ls [.int r24]) rfl ?_
                  refine zr_callS (As := [.int r24]) (rest := []) hx hb hml hC hwk hw hS hl.1 (c_X_firstCase l D B r24 σ23 _ hB) mk_X_firstCase mt_X_firstCase ml_X_196 ⟨Nat.le_of_ble_eq_true rfl, Nat.le_of_ble_eq_true rfl⟩ rfl (cat_8 cat_n (Nat.le_of_ble_eq_true rfl)) d_X_law_136 ⟨ha1, ha2⟩ rfl (fun v σ25 H locs hp hgn hw hS => ?_)
                  have hg := hg.tr hgn
                  have hsb := hgn _ _ hsb
                  obtain ⟨r26, rfl, hB⟩ := hp
                  refine W.eq (g2 := F0 m 139 ls [.int r26]) rfl ?_
                  refine W.widen (k := mc) (n := ms) ha1 ha2 ?_
                  exact zr_iret hx hb hr hlocks hB hg hw hS d_X_law_139
                · have hB := hB.2 c6
                  refine lv_tableOut (tgt := 140) hx hb d_X_law_16 (sw_out (n := 7) (by decide) (fun k hk => ?_)) (by decide) ?_
                  · match k, hk with
                    | 0, _ => exact c0
                    | 1, _ => exact c1
                    | 2, _ => exact c2
                    | 3, _ => exact c3
                    | 4, _ => exact c4
                    | 5, _ => exact c5
                    | 6, _ => exact c6
                    | k + 7, h => exact absurd h (by omega)
                  · skip
                    refine lv_bipush (v := (-2)) hx hb d_X_law_140 (by decide) ?_
                    refine W.widen (k := mc) (n := ms) ha1 ha2 ?_
                    exact zr_iret hx hb hr hlocks hB hg hw hS d_X_law_142
  · have hB := hB.1 cd
    refine lv_iconst (v := (-1)) hx hb d_X_law_13 (by decide) ?_
    refine W.widen (k := mc) (n := ms) ha1 ha2 ?_
    exact zr_iret hx hb hr hlocks hB hg hw hS d_X_law_14

set_option maxHeartbeats 4000000 in
set_option maxRecDepth 100000 in
theorem c_X_side (l : Launch) (D : va_G) (B : Nat) (b : Nat) (x1 : Int32) (x2 : Int32) (x3 : Int32) (σ : St) (Q : Int32 → St → Prop) (h : P_X_side b x1 x2 x3 σ Q) : zM l y_X_side b_X_side 5 (some (.int)) (rm_X_side) D B [.ref b, .int x1, .int x2, .int x3] σ (zQi Q) := by
  refine zM.ofW (own := "LawWorlds") (by decide +kernel) rfl (Nat.le_of_ble_eq_true rfl) ?_
  intro p e s m args below meth c ls hx hb hml hr hlocks hname hC hwk hw hS hl
  obtain ⟨σ0, eσ⟩ : ∃ z, z = σ := ⟨_, rfl⟩
  have hg : gr σ0 σ := by rw [eσ]; exact gr.rf
  have hl : lv_has ls 5 [(0, va_rf (some b)), (1, .int x1), (2, .int x2), (3, .int x3)] := hl
  obtain ⟨hsb, hB⟩ := h
  have hsb0 : s_s σ0 b = some (.inl 0) := by rw [eσ]; exact hsb
  rw [← eσ]
  skip
  refine zr_aload_n (o := some b) hx hb d_X_side_0 rfl (lv_at hl 0 rfl) ?_
  refine zr_get (v := va_rf (s_r σ b 0)) hx hb hC hw rfl hsb fl_X_10 rfl d_X_side_1 ?_
  refine lv_iload_n hx hb d_X_side_4 rfl (lv_at hl 1 rfl) ?_
  obtain ⟨q1, ho1, hB⟩ := hB
  have hsr := And.left hB
  refine zr_callV (ci := 1) (As := [.int x1]) (rest := []) hx hb hml hC hwk hw hS hl.1 (c_S_lawAt l D B q1 x1 σ _ hB) mk_S_lawAt mi_S_lawAt ms_S_lawAt ml_X_175 ⟨Nat.le_of_ble_eq_true rfl, Nat.le_of_ble_eq_true rfl⟩ ho1 hsr rfl (cat_8 cat_n (Nat.le_of_ble_eq_true rfl)) d_X_side_5 ⟨Nat.le_refl _, Nat.le_refl _⟩ rfl (fun v σ2 H locs hp hgn hw hS => ?_)
  have hg := hg.tr hgn
  have hsb := hgn _ _ hsb
  obtain ⟨r3, rfl, hB⟩ := hp
  refine W.eq (g2 := F0 m 8 ls [va_rf r3]) rfl ?_
  refine zr_astore (lv' := [(4, va_rf r3), (0, va_rf (some b)), (1, .int x1), (2, .int x2), (3, .int x3)]) hx hb d_X_side_8 hl (by decide) rfl (fun ls hl => ?_)
  refine zr_aload (o := r3) hx hb d_X_side_10 (lv_at hl 0 rfl) ?_
  refine zr_ifnonnull (tgt := 17) hx hb d_X_side_12 (by decide) (fun cd => ?_) (fun cd => ?_)
  · have hB := hB.2 cd
    refine lv_iload_n hx hb d_X_side_17 rfl (lv_at hl 4 rfl) ?_
    refine lv_if_lt (tgt := 48) hx hb d_X_side_18 (by decide) (fun cd => ?_) (fun cd => ?_)
    · have hB := hB.1 cd
      refine lv_bipush (v := (-2)) hx hb d_X_side_48 (by decide) ?_
      exact zr_iret hx hb hr hlocks hB hg hw hS d_X_side_50
    · have hB := hB.2 cd
      refine lv_iload_n hx hb d_X_side_21 rfl (lv_at hl 4 rfl) ?_
      refine zr_aload_n (o := some b) hx hb d_X_side_22 rfl (lv_at hl 1 rfl) ?_
      refine zr_get (v := va_rf (s_r σ2 b 0)) hx hb hC hw rfl hsb fl_X_10 rfl d_X_side_23 ?_
      obtain ⟨q4, ho4, hs4, hB⟩ := hB
      refine zr_get (v := .int (s_i σ2 q4 3)) hx hb hC hw ho4 hs4 fl_X_61 rfl d_X_side_26 ?_
      refine zr_aload_n (o := some b) hx hb d_X_side_29 rfl (lv_at hl 1 rfl) ?_
      refine zr_get (v := va_rf (s_r σ2 b 0)) hx hb hC hw rfl hsb fl_X_10 rfl d_X_side_30 ?_
      obtain ⟨q5, ho5, hs5, hB⟩ := hB
      refine zr_get (v := .int (s_i σ2 q5 3)) hx hb hC hw ho5 hs5 fl_X_61 rfl d_X_side_33 ?_
      refine lv_imul hx hb d_X_side_36 ?_
      refine zr_aload_n (o := some b) hx hb d_X_side_37 rfl (lv_at hl 1 rfl) ?_
      refine zr_get (v := va_rf (s_r σ2 b 0)) hx hb hC hw rfl hsb fl_X_10 rfl d_X_side_38 ?_
      obtain ⟨q6, ho6, hs6, hB⟩ := hB
      refine zr_get (v := .int (s_i σ2 q6 3)) hx hb hC hw ho6 hs6 fl_X_61 rfl d_X_side_41 ?_
      refine lv_imul hx hb d_X_side_44 ?_
      refine lv_icmp_lt (tgt := 51) hx hb d_X_side_45 (by decide) (fun cd => ?_) (fun cd => ?_)
      · have hB := hB.1 cd
        refine zr_aload_n (o := some b) hx hb d_X_side_51 rfl (lv_at hl 1 rfl) ?_
        refine zr_get (v := va_rf (s_r σ2 b 3)) hx hb hC hw rfl hsb fl_X_33 rfl d_X_side_52 ?_
        refine zr_aload_n (o := some b) hx hb d_X_side_55 rfl (lv_at hl 1 rfl) ?_
        refine zr_get (v := va_rf (s_r σ2 b 0)) hx hb hC hw rfl hsb fl_X_10 rfl d_X_side_56 ?_
        obtain ⟨q7, ho7, hs7, hB⟩ := hB
        refine zr_get (v := .int (s_i σ2 q7 3)) hx hb hC hw ho7 hs7 fl_X_61 rfl d_X_side_59 ?_
        refine zr_aload_n (o := some b) hx hb d_X_side_62 rfl (lv_at hl 1 rfl) ?_
        refine zr_get (v := va_rf (s_r σ2 b 0)) hx hb hC hw rfl hsb fl_X_10 rfl d_X_side_63 ?_
        obtain ⟨q8, ho8, hs8, hB⟩ := hB
        refine zr_get (v := .int (s_i σ2 q8 4)) hx hb hC hw ho8 hs8 fl_X_65 rfl d_X_side_66 ?_
        obtain ⟨q9, ho9, hB⟩ := hB
        have hsr := And.left hB
        refine zr_callV (ci := 5) (As := [.int (s_i σ2 q7 3), .int (s_i σ2 q8 4)]) (rest := []) hx hb hml hC hwk hw hS hl.1 (c_B_open l D B q9 (s_i σ2 q7 3) (s_i σ2 q8 4) σ2 _ hB) mk_B_open mi_B_open ms_B_open ml_X_199 ⟨Nat.le_of_ble_eq_true rfl, Nat.le_of_ble_eq_true rfl⟩ ho9 hsr rfl (cat_8 cat_n (Nat.le_of_ble_eq_true rfl)) d_X_side_69 ⟨Nat.le_refl _, Nat.le_refl _⟩ rfl (fun v σ10 H locs hp hgn hw hS => ?_)
        have hg := hg.tr hgn
        have hsb := hgn _ _ hsb
        have hs4 := hgn _ _ hs4
        have hs5 := hgn _ _ hs5
        have hs6 := hgn _ _ hs6
        have hs7 := hgn _ _ hs7
        have hs8 := hgn _ _ hs8
        obtain ⟨rfl, hB⟩ := hp
        refine W.eq (g2 := F0 m 72 ls []) rfl ?_
        refine zr_aload_n (o := some b) hx hb d_X_side_72 rfl (lv_at hl 1 rfl) ?_
        refine zr_get (v := va_rf (s_r σ10 b 3)) hx hb hC hw rfl hsb fl_X_33 rfl d_X_side_73 ?_
        refine zr_aload (o := r3) hx hb d_X_side_76 (lv_at hl 0 rfl) ?_
        obtain ⟨q11, ho11, hB⟩ := hB
        have hsr := And.left hB
        refine zr_callV (ci := 5) (As := [va_rf r3]) (rest := []) hx hb hml hC hwk hw hS hl.1 (c_B_run l D B q11 r3 σ10 _ hB) mk_B_run mi_B_run ms_B_run ml_X_203 ⟨Nat.le_of_ble_eq_true rfl, Nat.le_of_ble_eq_true rfl⟩ ho11 hsr rfl (cat_8 cat_n (Nat.le_of_ble_eq_true rfl)) d_X_side_78 ⟨Nat.le_refl _, Nat.le_refl _⟩ rfl (fun v σ12 H locs hp hgn hw hS => ?_)
        have hg := hg.tr hgn
        have hsb := hgn _ _ hsb
        have hs4 := hgn _ _ hs4
        have hs5 := hgn _ _ hs5
        have hs6 := hgn _ _ hs6
        have hs7 := hgn _ _ hs7
        have hs8 := hgn _ _ hs8
        obtain ⟨rfl, hB⟩ := hp
        refine W.eq (g2 := F0 m 81 ls []) rfl ?_
        refine zr_aload_n (o := some b) hx hb d_X_side_81 rfl (lv_at hl 1 rfl) ?_
        refine zr_get (v := va_rf (s_r σ12 b 3)) hx hb hC hw rfl hsb fl_X_33 rfl d_X_side_82 ?_
        refine lv_iload_n hx hb d_X_side_85 rfl (lv_at hl 3 rfl) ?_
        refine lv_iload_n hx hb d_X_side_86 rfl (lv_at hl 4 rfl) ?_
        obtain ⟨q13, ho13, hB⟩ := hB
        have hsr := And.left hB
        refine zr_callV (ci := 5) (As := [.int x2, .int x3]) (rest := []) hx hb hml hC hwk hw hS hl.1 (c_B_thingOf l D B q13 x2 x3 σ12 _ hB) mk_B_thingOf mi_B_thingOf ms_B_thingOf ml_X_206 ⟨Nat.le_of_ble_eq_true rfl, Nat.le_of_ble_eq_true rfl⟩ ho13 hsr rfl (cat_8 cat_n (Nat.le_of_ble_eq_true rfl)) d_X_side_87 ⟨Nat.le_refl _, Nat.le_refl _⟩ rfl (fun v σ14 H locs hp hgn hw hS => ?_)
        have hg := hg.tr hgn
        have hsb := hgn _ _ hsb
        have hs4 := hgn _ _ hs4
        have hs5 := hgn _ _ hs5
        have hs6 := hgn _ _ hs6
        have hs7 := hgn _ _ hs7
        have hs8 := hgn _ _ hs8
        obtain ⟨r15, rfl, hB⟩ := hp
        refine W.eq (g2 := F0 m 90 ls [.int r15]) rfl ?_
        exact zr_iret hx hb hr hlocks hB hg hw hS d_X_side_90
      · have hB := hB.2 cd
        refine lv_bipush (v := (-2)) hx hb d_X_side_48 (by decide) ?_
        exact zr_iret hx hb hr hlocks hB hg hw hS d_X_side_50
  · have hB := hB.1 cd
    refine lv_iconst (v := (-1)) hx hb d_X_side_15 (by decide) ?_
    exact zr_iret hx hb hr hlocks hB hg hw hS d_X_side_16

set_option maxHeartbeats 4000000 in
set_option maxRecDepth 100000 in
theorem c_X_witness (l : Launch) (D : va_G) (B : Nat) (b : Nat) (x1 : Int32) (x2 : Int32) (x3 : Int32) (σ : St) (mc : Nat) (ms : Nat) (Q : Int32 → St → Prop) (h : P_X_witness b x1 x2 x3 σ mc ms Q) : zM l y_X_witness b_X_witness 4 (some (.int)) (rm_X_witness mc ms) D B [.ref b, .int x1, .int x2, .int x3] σ (zQi Q) := by
  refine zM.ofW (own := "LawWorlds") (by decide +kernel) rfl (Nat.le_of_ble_eq_true rfl) ?_
  intro p e s m args below meth c ls hx hb hml hr hlocks hname hC hwk hw hS hl
  obtain ⟨σ0, eσ⟩ : ∃ z, z = σ := ⟨_, rfl⟩
  have hg : gr σ0 σ := by rw [eσ]; exact gr.rf
  have hl : lv_has ls 4 [(0, va_rf (some b)), (1, .int x1), (2, .int x2), (3, .int x3)] := hl
  have ha1 : 0 ≤ mc := Nat.zero_le _
  have ha2 : 0 ≤ ms := Nat.zero_le _
  obtain ⟨hsb, hB⟩ := h
  have hsb0 : s_s σ0 b = some (.inl 0) := by rw [eσ]; exact hsb
  rw [← eσ]
  skip
  refine zr_aload_n (o := some b) hx hb d_X_witness_0 rfl (lv_at hl 0 rfl) ?_
  refine zr_get (v := va_rf (s_r σ b 0)) hx hb hC hw rfl hsb fl_X_10 rfl d_X_witness_1 ?_
  refine lv_iload_n hx hb d_X_witness_4 rfl (lv_at hl 1 rfl) ?_
  obtain ⟨q1, ho1, hB⟩ := hB
  have hsr := And.left hB
  refine zr_callV (ci := 1) (As := [.int x1]) (rest := []) hx hb hml hC hwk hw hS hl.1 (c_S_hasLaw l D B q1 x1 σ _ hB) mk_S_hasLaw mi_S_hasLaw ms_S_hasLaw ml_X_117 ⟨Nat.le_of_ble_eq_true rfl, Nat.le_of_ble_eq_true rfl⟩ ho1 hsr rfl (cat_8 cat_n (Nat.le_of_ble_eq_true rfl)) d_X_witness_5 ⟨ha1, ha2⟩ rfl (fun v σ2 H locs hp hgn hw hS => ?_)
  have hg := hg.tr hgn
  have hsb := hgn _ _ hsb
  obtain ⟨r3, rfl, hB⟩ := hp
  refine W.eq (g2 := F0 m 8 ls [.int r3]) rfl ?_
  refine lv_if_ne (tgt := 13) hx hb d_X_witness_8 (by decide) (fun cd => ?_) (fun cd => ?_)
  · have hB := hB.2 cd
    refine lv_iload_n hx hb d_X_witness_13 rfl (lv_at hl 2 rfl) ?_
    refine lv_if_lt (tgt := 26) hx hb d_X_witness_14 (by decide) (fun cd => ?_) (fun cd => ?_)
    · have hB := hB.1 cd
      refine lv_bipush (v := (-2)) hx hb d_X_witness_26 (by decide) ?_
      refine W.widen (k := mc) (n := ms) ha1 ha2 ?_
      exact zr_iret hx hb hr hlocks hB hg hw hS d_X_witness_28
    · have hB := hB.2 cd
      refine lv_iload_n hx hb d_X_witness_17 rfl (lv_at hl 3 rfl) ?_
      refine lv_if_lt (tgt := 26) hx hb d_X_witness_18 (by decide) (fun cd => ?_) (fun cd => ?_)
      · have hB := hB.1 cd
        refine lv_bipush (v := (-2)) hx hb d_X_witness_26 (by decide) ?_
        refine W.widen (k := mc) (n := ms) ha1 ha2 ?_
        exact zr_iret hx hb hr hlocks hB hg hw hS d_X_witness_28
      · have hB := hB.2 cd
        refine lv_iload_n hx hb d_X_witness_21 rfl (lv_at hl 3 rfl) ?_
        refine lv_iconst (v := nI 2) hx hb d_X_witness_22 (by decide) ?_
        refine lv_icmp_le (tgt := 29) hx hb d_X_witness_23 (by decide) (fun cd => ?_) (fun cd => ?_)
        · have hB := hB.1 cd
          refine zr_aload_n (o := some b) hx hb d_X_witness_29 rfl (lv_at hl 0 rfl) ?_
          refine zr_get (v := va_rf (s_r σ2 b 4)) hx hb hC hw rfl hsb fl_X_40 rfl d_X_witness_30 ?_
          refine zr_aload_n (o := some b) hx hb d_X_witness_33 rfl (lv_at hl 0 rfl) ?_
          refine zr_get (v := va_rf (s_r σ2 b 0)) hx hb hC hw rfl hsb fl_X_10 rfl d_X_witness_34 ?_
          refine lv_iload_n hx hb d_X_witness_37 rfl (lv_at hl 1 rfl) ?_
          obtain ⟨q4, ho4, hB⟩ := hB
          obtain ⟨c5, d6, hc1, hc2, hB⟩ := hB
          have hsr := And.left hB
          refine zr_callV (ci := 6) (As := [va_rf (s_r σ2 b 0), .int x1]) (rest := []) hx hb hml hC hwk hw hS hl.1 (c_E_findWitnesses l D B q4 (s_r σ2 b 0) x1 σ2 c5 d6 _ hB) mk_E_findWitnesses mi_E_findWitnesses ms_E_findWitnesses ml_X_132 ⟨Nat.le_of_ble_eq_true rfl, Nat.le_of_ble_eq_true rfl⟩ ho4 hsr rfl (cat_8 cat_n (Nat.le_of_ble_eq_true rfl)) d_X_witness_38 ⟨hc1, hc2⟩ rfl (fun v σ7 H locs hp hgn hw hS => ?_)
          have hg := hg.tr hgn
          have hsb := hgn _ _ hsb
          have ha1 := hc1
          have ha2 := hc2
          obtain ⟨r8, rfl, hB⟩ := hp
          refine W.eq (g2 := F0 m 41 ls [.int r8]) rfl ?_
          refine lv_pop hx hb d_X_witness_41 rfl ?_
          refine zr_aload_n (o := some b) hx hb d_X_witness_42 rfl (lv_at hl 0 rfl) ?_
          refine zr_get (v := va_rf (s_r σ7 b 4)) hx hb hC hw rfl hsb fl_X_40 rfl d_X_witness_43 ?_
          refine lv_iload_n hx hb d_X_witness_46 rfl (lv_at hl 2 rfl) ?_
          refine lv_iload_n hx hb d_X_witness_47 rfl (lv_at hl 3 rfl) ?_
          obtain ⟨q9, ho9, hB⟩ := hB
          have hsr := And.left hB
          refine zr_callV (ci := 6) (As := [.int x2, .int x3]) (rest := []) hx hb hml hC hwk hw hS hl.1 (c_E_witnessNumber l D B q9 x2 x3 σ7 _ hB) mk_E_witnessNumber mi_E_witnessNumber ms_E_witnessNumber ml_X_136 ⟨Nat.le_of_ble_eq_true rfl, Nat.le_of_ble_eq_true rfl⟩ ho9 hsr rfl (cat_8 cat_n (Nat.le_of_ble_eq_true rfl)) d_X_witness_48 ⟨ha1, ha2⟩ rfl (fun v σ10 H locs hp hgn hw hS => ?_)
          have hg := hg.tr hgn
          have hsb := hgn _ _ hsb
          obtain ⟨r11, rfl, hB⟩ := hp
          refine W.eq (g2 := F0 m 51 ls [.int r11]) rfl ?_
          refine W.widen (k := mc) (n := ms) ha1 ha2 ?_
          exact zr_iret hx hb hr hlocks hB hg hw hS d_X_witness_51
        · have hB := hB.2 cd
          refine lv_bipush (v := (-2)) hx hb d_X_witness_26 (by decide) ?_
          refine W.widen (k := mc) (n := ms) ha1 ha2 ?_
          exact zr_iret hx hb hr hlocks hB hg hw hS d_X_witness_28
  · have hB := hB.1 cd
    refine lv_iconst (v := (-1)) hx hb d_X_witness_11 (by decide) ?_
    refine W.widen (k := mc) (n := ms) ha1 ha2 ?_
    exact zr_iret hx hb hr hlocks hB hg hw hS d_X_witness_12

set_option maxHeartbeats 4000000 in
set_option maxRecDepth 100000 in
theorem c_X_model (l : Launch) (D : va_G) (B : Nat) (b : Nat) (x1 : Int32) (x2 : Int32) (σ : St) (mc : Nat) (ms : Nat) (Q : Int32 → St → Prop) (h : P_X_model b x1 x2 σ mc ms Q) : zM l y_X_model b_X_model 3 (some (.int)) (rm_X_model mc ms) D B [.ref b, .int x1, .int x2] σ (zQi Q) := by
  refine zM.ofW (own := "LawWorlds") (by decide +kernel) rfl (Nat.le_of_ble_eq_true rfl) ?_
  intro p e s m args below meth c ls hx hb hml hr hlocks hname hC hwk hw hS hl
  obtain ⟨σ0, eσ⟩ : ∃ z, z = σ := ⟨_, rfl⟩
  have hg : gr σ0 σ := by rw [eσ]; exact gr.rf
  have hl : lv_has ls 3 [(0, va_rf (some b)), (1, .int x1), (2, .int x2)] := hl
  have ha1 : 0 ≤ mc := Nat.zero_le _
  have ha2 : 0 ≤ ms := Nat.zero_le _
  obtain ⟨hsb, hB⟩ := h
  have hsb0 : s_s σ0 b = some (.inl 0) := by rw [eσ]; exact hsb
  rw [← eσ]
  skip
  refine lv_iload_n hx hb d_X_model_0 rfl (lv_at hl 1 rfl) ?_
  refine zr_callS (As := [.int x1]) (rest := []) hx hb hml hC hwk hw hS hl.1 (c_C_isSize l D B x1 σ _ hB) mk_C_isSize mt_C_isSize ml_X_210 ⟨Nat.le_of_ble_eq_true rfl, Nat.le_of_ble_eq_true rfl⟩ rfl (cat_8 cat_n (Nat.le_of_ble_eq_true rfl)) d_X_model_1 ⟨ha1, ha2⟩ rfl (fun v σ1 H locs hp hgn hw hS => ?_)
  have hg := hg.tr hgn
  have hsb := hgn _ _ hsb
  obtain ⟨r2, rfl, hB⟩ := hp
  refine W.eq (g2 := F0 m 4 ls [.int r2]) rfl ?_
  refine lv_if_eq (tgt := 11) hx hb d_X_model_4 (by decide) (fun cd => ?_) (fun cd => ?_)
  · have hB := hB.1 cd
    refine lv_bipush (v := (-2)) hx hb d_X_model_11 (by decide) ?_
    refine W.widen (k := mc) (n := ms) ha1 ha2 ?_
    exact zr_iret hx hb hr hlocks hB hg hw hS d_X_model_13
  · have hB := hB.2 cd
    refine lv_iload_n hx hb d_X_model_7 rfl (lv_at hl 2 rfl) ?_
    refine lv_if_ge (tgt := 14) hx hb d_X_model_8 (by decide) (fun cd => ?_) (fun cd => ?_)
    · have hB := hB.1 cd
      refine zr_aload_n (o := some b) hx hb d_X_model_14 rfl (lv_at hl 0 rfl) ?_
      refine zr_get (v := va_rf (s_r σ1 b 4)) hx hb hC hw rfl hsb fl_X_40 rfl d_X_model_15 ?_
      refine zr_aload_n (o := some b) hx hb d_X_model_18 rfl (lv_at hl 0 rfl) ?_
      refine zr_get (v := va_rf (s_r σ1 b 0)) hx hb hC hw rfl hsb fl_X_10 rfl d_X_model_19 ?_
      refine lv_iload_n hx hb d_X_model_22 rfl (lv_at hl 1 rfl) ?_
      refine lv_iload_n hx hb d_X_model_23 rfl (lv_at hl 2 rfl) ?_
      obtain ⟨q3, ho3, hB⟩ := hB
      obtain ⟨c4, d5, hc1, hc2, hB⟩ := hB
      have hsr := And.left hB
      refine zr_callV (ci := 6) (As := [va_rf (s_r σ1 b 0), .int x1, .int x2]) (rest := []) hx hb hml hC hwk hw hS hl.1 (c_E_modelCode l D B q3 (s_r σ1 b 0) x1 x2 σ1 c4 d5 _ hB) mk_E_modelCode mi_E_modelCode ms_E_modelCode ml_X_213 ⟨Nat.le_of_ble_eq_true rfl, Nat.le_of_ble_eq_true rfl⟩ ho3 hsr rfl (cat_8 cat_n (Nat.le_of_ble_eq_true rfl)) d_X_model_24 ⟨hc1, hc2⟩ rfl (fun v σ6 H locs hp hgn hw hS => ?_)
      have hg := hg.tr hgn
      have hsb := hgn _ _ hsb
      have ha1 := hc1
      have ha2 := hc2
      obtain ⟨r7, rfl, hB⟩ := hp
      refine W.eq (g2 := F0 m 27 ls [.int r7]) rfl ?_
      refine W.widen (k := mc) (n := ms) ha1 ha2 ?_
      exact zr_iret hx hb hr hlocks hB hg hw hS d_X_model_27
    · have hB := hB.2 cd
      refine lv_bipush (v := (-2)) hx hb d_X_model_11 (by decide) ?_
      refine W.widen (k := mc) (n := ms) ha1 ha2 ?_
      exact zr_iret hx hb hr hlocks hB hg hw hS d_X_model_13

set_option maxHeartbeats 4000000 in
set_option maxRecDepth 100000 in
theorem c_X_models (l : Launch) (D : va_G) (B : Nat) (b : Nat) (x1 : Int32) (x2 : Int32) (σ : St) (mc : Nat) (ms : Nat) (Q : Int32 → St → Prop) (h : P_X_models b x1 x2 σ mc ms Q) : zM l y_X_models b_X_models 3 (some (.int)) (rm_X_models mc ms) D B [.ref b, .int x1, .int x2] σ (zQi Q) := by
  refine zM.ofW (own := "LawWorlds") (by decide +kernel) rfl (Nat.le_of_ble_eq_true rfl) ?_
  intro p e s m args below meth c ls hx hb hml hr hlocks hname hC hwk hw hS hl
  obtain ⟨σ0, eσ⟩ : ∃ z, z = σ := ⟨_, rfl⟩
  have hg : gr σ0 σ := by rw [eσ]; exact gr.rf
  have hl : lv_has ls 3 [(0, va_rf (some b)), (1, .int x1), (2, .int x2)] := hl
  have ha1 : 0 ≤ mc := Nat.zero_le _
  have ha2 : 0 ≤ ms := Nat.zero_le _
  obtain ⟨hsb, hB⟩ := h
  have hsb0 : s_s σ0 b = some (.inl 0) := by rw [eσ]; exact hsb
  rw [← eσ]
  skip
  refine lv_iload_n hx hb d_X_models_0 rfl (lv_at hl 1 rfl) ?_
  refine zr_callS (As := [.int x1]) (rest := []) hx hb hml hC hwk hw hS hl.1 (c_C_isSize l D B x1 σ _ hB) mk_C_isSize mt_C_isSize ml_X_210 ⟨Nat.le_of_ble_eq_true rfl, Nat.le_of_ble_eq_true rfl⟩ rfl (cat_8 cat_n (Nat.le_of_ble_eq_true rfl)) d_X_models_1 ⟨ha1, ha2⟩ rfl (fun v σ1 H locs hp hgn hw hS => ?_)
  have hg := hg.tr hgn
  have hsb := hgn _ _ hsb
  obtain ⟨r2, rfl, hB⟩ := hp
  refine W.eq (g2 := F0 m 4 ls [.int r2]) rfl ?_
  refine lv_if_ne (tgt := 10) hx hb d_X_models_4 (by decide) (fun cd => ?_) (fun cd => ?_)
  · have hB := hB.2 cd
    refine zr_aload_n (o := some b) hx hb d_X_models_10 rfl (lv_at hl 0 rfl) ?_
    refine zr_get (v := va_rf (s_r σ1 b 4)) hx hb hC hw rfl hsb fl_X_40 rfl d_X_models_11 ?_
    refine zr_aload_n (o := some b) hx hb d_X_models_14 rfl (lv_at hl 0 rfl) ?_
    refine zr_get (v := va_rf (s_r σ1 b 0)) hx hb hC hw rfl hsb fl_X_10 rfl d_X_models_15 ?_
    refine lv_iload_n hx hb d_X_models_18 rfl (lv_at hl 1 rfl) ?_
    refine lv_iload_n hx hb d_X_models_19 rfl (lv_at hl 2 rfl) ?_
    obtain ⟨q3, ho3, hB⟩ := hB
    obtain ⟨c4, d5, hc1, hc2, hB⟩ := hB
    have hsr := And.left hB
    refine zr_callV (ci := 6) (As := [va_rf (s_r σ1 b 0), .int x1, .int x2]) (rest := []) hx hb hml hC hwk hw hS hl.1 (c_E_countModels l D B q3 (s_r σ1 b 0) x1 x2 σ1 c4 d5 _ hB) mk_E_countModels mi_E_countModels ms_E_countModels ml_X_217 ⟨Nat.le_of_ble_eq_true rfl, Nat.le_of_ble_eq_true rfl⟩ ho3 hsr rfl (cat_8 cat_n (Nat.le_of_ble_eq_true rfl)) d_X_models_20 ⟨hc1, hc2⟩ rfl (fun v σ6 H locs hp hgn hw hS => ?_)
    have hg := hg.tr hgn
    have hsb := hgn _ _ hsb
    have ha1 := hc1
    have ha2 := hc2
    obtain ⟨r7, rfl, hB⟩ := hp
    refine W.eq (g2 := F0 m 23 ls [.int r7]) rfl ?_
    refine W.widen (k := mc) (n := ms) ha1 ha2 ?_
    exact zr_iret hx hb hr hlocks hB hg hw hS d_X_models_23
  · have hB := hB.1 cd
    refine lv_bipush (v := (-2)) hx hb d_X_models_7 (by decide) ?_
    refine W.widen (k := mc) (n := ms) ha1 ha2 ?_
    exact zr_iret hx hb hr hlocks hB hg hw hS d_X_models_9

set_option maxHeartbeats 4000000 in
set_option maxRecDepth 100000 in
theorem c_X_sameCases (l : Launch) (D : va_G) (B : Nat) (b : Nat) (x1 : Int32) (x2 : Int32) (o3 : Option Nat) (σ : St) (Q : Int32 → St → Prop) (h : P_X_sameCases b x1 x2 o3 σ Q) : zM l y_X_sameCases b_X_sameCases 4 (some (.int)) (rm_X_sameCases) D B [.ref b, .int x1, .int x2, va_rf o3] σ (zQi Q) := by
  refine zM.ofW (own := "LawWorlds") (by decide +kernel) rfl (lg_c rfl (lg_c rfl (lg_c rfl (lg_c (va_rf_cat _) lg_0)))) ?_
  intro p e s m args below meth c ls hx hb hml hr hlocks hname hC hwk hw hS hl
  obtain ⟨σ0, eσ⟩ : ∃ z, z = σ := ⟨_, rfl⟩
  have hg : gr σ0 σ := by rw [eσ]; exact gr.rf
  rw [lv_args_c rfl, lv_args_c rfl, lv_args_c rfl, lv_args_c (va_rf_cat _)] at hl
  have hl : lv_has ls 4 [(0, va_rf (some b)), (1, .int x1), (2, .int x2), (3, va_rf o3)] := hl
  obtain ⟨hsb, hB⟩ := h
  have hsb0 : s_s σ0 b = some (.inl 0) := by rw [eσ]; exact hsb
  rw [← eσ]
  skip
  refine zr_aload_n (o := some b) hx hb d_X_sameCases_0 rfl (lv_at hl 0 rfl) ?_
  refine zr_get (v := va_rf (s_r σ b 3)) hx hb hC hw rfl hsb fl_X_33 rfl d_X_sameCases_1 ?_
  refine lv_iload_n hx hb d_X_sameCases_4 rfl (lv_at hl 1 rfl) ?_
  refine lv_iload_n hx hb d_X_sameCases_5 rfl (lv_at hl 2 rfl) ?_
  obtain ⟨q1, ho1, hB⟩ := hB
  have hsr := And.left hB
  refine zr_callV (ci := 5) (As := [.int x1, .int x2]) (rest := []) hx hb hml hC hwk hw hS hl.1 (c_B_open l D B q1 x1 x2 σ _ hB) mk_B_open mi_B_open ms_B_open ml_X_199 ⟨Nat.le_of_ble_eq_true rfl, Nat.le_of_ble_eq_true rfl⟩ ho1 hsr rfl (cat_8 cat_n (Nat.le_of_ble_eq_true rfl)) d_X_sameCases_6 ⟨Nat.le_refl _, Nat.le_refl _⟩ rfl (fun v σ2 H locs hp hgn hw hS => ?_)
  have hg := hg.tr hgn
  have hsb := hgn _ _ hsb
  obtain ⟨rfl, hB⟩ := hp
  refine W.eq (g2 := F0 m 9 ls []) rfl ?_
  refine zr_aload_n (o := some b) hx hb d_X_sameCases_9 rfl (lv_at hl 0 rfl) ?_
  refine zr_get (v := va_rf (s_r σ2 b 3)) hx hb hC hw rfl hsb fl_X_33 rfl d_X_sameCases_10 ?_
  refine zr_aload_n (o := o3) hx hb d_X_sameCases_13 rfl (lv_at hl 3 rfl) ?_
  obtain ⟨q3, ho3, hB⟩ := hB
  have hsr := And.left hB
  refine zr_callV (ci := 5) (As := [va_rf o3]) (rest := []) hx hb hml hC hwk hw hS hl.1 (c_B_run l D B q3 o3 σ2 _ hB) mk_B_run mi_B_run ms_B_run ml_X_203 ⟨Nat.le_of_ble_eq_true rfl, Nat.le_of_ble_eq_true rfl⟩ ho3 hsr rfl (cat_8 cat_n (Nat.le_of_ble_eq_true rfl)) d_X_sameCases_14 ⟨Nat.le_refl _, Nat.le_refl _⟩ rfl (fun v σ4 H locs hp hgn hw hS => ?_)
  have hg := hg.tr hgn
  have hsb := hgn _ _ hsb
  obtain ⟨rfl, hB⟩ := hp
  refine W.eq (g2 := F0 m 17 ls []) rfl ?_
  refine lv_iload_n hx hb d_X_sameCases_17 rfl (lv_at hl 1 rfl) ?_
  refine lv_iload_n hx hb d_X_sameCases_18 rfl (lv_at hl 1 rfl) ?_
  refine lv_imul hx hb d_X_sameCases_19 ?_
  refine lv_iload_n hx hb d_X_sameCases_20 rfl (lv_at hl 1 rfl) ?_
  refine lv_imul hx hb d_X_sameCases_21 ?_
  refine zr_aload_n (o := some b) hx hb d_X_sameCases_22 rfl (lv_at hl 0 rfl) ?_
  refine zr_get (v := va_rf (s_r σ4 b 3)) hx hb hC hw rfl hsb fl_X_33 rfl d_X_sameCases_23 ?_
  obtain ⟨q5, ho5, hB⟩ := hB
  have hsr := And.left hB
  refine zr_callV (ci := 5) (As := []) (rest := [.int ((x1 * x1) * x1)]) hx hb hml hC hwk hw hS hl.1 (c_B_brokenCases l D B q5 σ4 _ hB) mk_B_brokenCases mi_B_brokenCases ms_B_brokenCases ml_X_228 ⟨Nat.le_of_ble_eq_true rfl, Nat.le_of_ble_eq_true rfl⟩ ho5 hsr rfl (cat_8 (cat_c rfl cat_n) (Nat.le_of_ble_eq_true rfl)) d_X_sameCases_26 ⟨Nat.le_refl _, Nat.le_refl _⟩ rfl (fun v σ6 H locs hp hgn hw hS => ?_)
  have hg := hg.tr hgn
  have hsb := hgn _ _ hsb
  obtain ⟨r7, rfl, hB⟩ := hp
  refine W.eq (g2 := F0 m 29 ls [.int r7, .int ((x1 * x1) * x1)]) rfl ?_
  refine zr_callS (As := [.int r7]) (rest := [.int ((x1 * x1) * x1)]) hx hb hml hC hwk hw hS hl.1 (c_I_bitCount l D B r7 σ6 _ hB) mk_I_bitCount mt_I_bitCount ml_X_183 ⟨Nat.le_of_ble_eq_true rfl, Nat.le_of_ble_eq_true rfl⟩ rfl (cat_8 (cat_c rfl cat_n) (Nat.le_of_ble_eq_true rfl)) d_X_sameCases_29 ⟨Nat.le_refl _, Nat.le_refl _⟩ rfl (fun v σ8 H locs hp hgn hw hS => ?_)
  have hg := hg.tr hgn
  have hsb := hgn _ _ hsb
  obtain ⟨r9, rfl, hB⟩ := hp
  refine W.eq (g2 := F0 m 32 ls [.int r9, .int ((x1 * x1) * x1)]) rfl ?_
  refine lv_isub hx hb d_X_sameCases_32 ?_
  exact zr_iret hx hb hr hlocks hB hg hw hS d_X_sameCases_33

set_option maxHeartbeats 4000000 in
set_option maxRecDepth 100000 in
theorem c_X_paired (l : Launch) (D : va_G) (B : Nat) (b : Nat) (x1 : Int32) (x2 : Int32) (x3 : Int32) (σ : St) (Q : Int32 → St → Prop) (h : P_X_paired b x1 x2 x3 σ Q) : zM l y_X_paired b_X_paired 7 (some (.int)) (rm_X_paired) D B [.ref b, .int x1, .int x2, .int x3] σ (zQi Q) := by
  refine zM.ofW (own := "LawWorlds") (by decide +kernel) rfl (Nat.le_of_ble_eq_true rfl) ?_
  intro p e s m args below meth c ls hx hb hml hr hlocks hname hC hwk hw hS hl
  obtain ⟨σ0, eσ⟩ : ∃ z, z = σ := ⟨_, rfl⟩
  have hg : gr σ0 σ := by rw [eσ]; exact gr.rf
  have hl : lv_has ls 7 [(0, va_rf (some b)), (1, .int x1), (2, .int x2), (3, .int x3)] := hl
  obtain ⟨hsb, hB⟩ := h
  have hsb0 : s_s σ0 b = some (.inl 0) := by rw [eσ]; exact hsb
  rw [← eσ]
  skip
  refine lv_iload_n hx hb d_X_paired_0 rfl (lv_at hl 1 rfl) ?_
  refine lv_iload_n hx hb d_X_paired_1 rfl (lv_at hl 2 rfl) ?_
  refine zr_callS (As := [.int x1, .int x2]) (rest := []) hx hb hml hC hwk hw hS hl.1 (c_C_isCode l D B x1 x2 σ _ hB) mk_C_isCode mt_C_isCode ml_X_55 ⟨Nat.le_of_ble_eq_true rfl, Nat.le_of_ble_eq_true rfl⟩ rfl (cat_8 cat_n (Nat.le_of_ble_eq_true rfl)) d_X_paired_2 ⟨Nat.le_refl _, Nat.le_refl _⟩ rfl (fun v σ1 H locs hp hgn hw hS => ?_)
  have hg := hg.tr hgn
  have hsb := hgn _ _ hsb
  obtain ⟨r2, rfl, hB⟩ := hp
  refine W.eq (g2 := F0 m 5 ls [.int r2]) rfl ?_
  refine lv_if_ne (tgt := 11) hx hb d_X_paired_5 (by decide) (fun cd => ?_) (fun cd => ?_)
  · have hB := hB.2 cd
    refine zr_aload_n (o := some b) hx hb d_X_paired_11 rfl (lv_at hl 0 rfl) ?_
    refine zr_get (v := va_rf (s_r σ1 b 0)) hx hb hC hw rfl hsb fl_X_10 rfl d_X_paired_12 ?_
    refine lv_iload_n hx hb d_X_paired_15 rfl (lv_at hl 3 rfl) ?_
    obtain ⟨q3, ho3, hB⟩ := hB
    have hsr := And.left hB
    refine zr_callV (ci := 1) (As := [.int x3]) (rest := []) hx hb hml hC hwk hw hS hl.1 (c_S_lawAt l D B q3 x3 σ1 _ hB) mk_S_lawAt mi_S_lawAt ms_S_lawAt ml_X_175 ⟨Nat.le_of_ble_eq_true rfl, Nat.le_of_ble_eq_true rfl⟩ ho3 hsr rfl (cat_8 cat_n (Nat.le_of_ble_eq_true rfl)) d_X_paired_16 ⟨Nat.le_refl _, Nat.le_refl _⟩ rfl (fun v σ4 H locs hp hgn hw hS => ?_)
    have hg := hg.tr hgn
    have hsb := hgn _ _ hsb
    obtain ⟨r5, rfl, hB⟩ := hp
    refine W.eq (g2 := F0 m 19 ls [va_rf r5]) rfl ?_
    refine zr_astore (lv' := [(4, va_rf r5), (0, va_rf (some b)), (1, .int x1), (2, .int x2), (3, .int x3)]) hx hb d_X_paired_19 hl (by decide) rfl (fun ls hl => ?_)
    refine zr_aload (o := r5) hx hb d_X_paired_21 (lv_at hl 0 rfl) ?_
    refine zr_ifnonnull (tgt := 28) hx hb d_X_paired_23 (by decide) (fun cd => ?_) (fun cd => ?_)
    · have hB := hB.2 cd
      refine zr_aload_n (o := some b) hx hb d_X_paired_28 rfl (lv_at hl 1 rfl) ?_
      refine zr_get (v := va_rf (s_r σ4 b 0)) hx hb hC hw rfl hsb fl_X_10 rfl d_X_paired_29 ?_
      obtain ⟨q6, ho6, hs6, hB⟩ := hB
      refine zr_get (v := .int (s_i σ4 q6 3)) hx hb hC hw ho6 hs6 fl_X_61 rfl d_X_paired_32 ?_
      refine lv_iload_n hx hb d_X_paired_35 rfl (lv_at hl 2 rfl) ?_
      refine lv_imul hx hb d_X_paired_36 ?_
      refine lv_istore (lv' := [(5, .int ((s_i σ4 q6 3) * x1)), (4, va_rf r5), (0, va_rf (some b)), (1, .int x1), (2, .int x2), (3, .int x3)]) hx hb d_X_paired_37 hl (by decide) (congrArg (List.cons _) (fl_k rfl (va_rf_cat _) (fl_k rfl (va_rf_cat _) (fl_k rfl rfl (fl_k rfl rfl (fl_k rfl rfl fl_n)))))) (fun ls hl => ?_)
      refine zr_aload_n (o := some b) hx hb d_X_paired_39 rfl (lv_at hl 2 rfl) ?_
      refine zr_aload_n (o := some b) hx hb d_X_paired_40 rfl (lv_at hl 2 rfl) ?_
      refine zr_get (v := va_rf (s_r σ4 b 0)) hx hb hC hw rfl hsb fl_X_10 rfl d_X_paired_41 ?_
      obtain ⟨q7, ho7, hs7, hB⟩ := hB
      refine zr_get (v := .int (s_i σ4 q7 3)) hx hb hC hw ho7 hs7 fl_X_61 rfl d_X_paired_44 ?_
      refine zr_aload_n (o := some b) hx hb d_X_paired_47 rfl (lv_at hl 2 rfl) ?_
      refine zr_get (v := va_rf (s_r σ4 b 0)) hx hb hC hw rfl hsb fl_X_10 rfl d_X_paired_48 ?_
      obtain ⟨q8, ho8, hs8, hB⟩ := hB
      refine zr_get (v := .int (s_i σ4 q8 4)) hx hb hC hw ho8 hs8 fl_X_65 rfl d_X_paired_51 ?_
      refine zr_aload (o := r5) hx hb d_X_paired_54 (lv_at hl 1 rfl) ?_
      have hsr := And.left hB
      refine zr_callV (ci := 0) (As := [.int (s_i σ4 q7 3), .int (s_i σ4 q8 4), va_rf r5]) (rest := []) hx hb hml hC hwk hw hS hl.1 (c_X_sameCases l D B b (s_i σ4 q7 3) (s_i σ4 q8 4) r5 σ4 _ hB) mk_X_sameCases mi_X_sameCases ms_X_sameCases ml_X_221 ⟨Nat.le_of_ble_eq_true rfl, Nat.le_of_ble_eq_true rfl⟩ rfl hsr rfl (cat_8 cat_n (Nat.le_of_ble_eq_true rfl)) d_X_paired_56 ⟨Nat.le_refl _, Nat.le_refl _⟩ rfl (fun v σ9 H locs hp hgn hw hS => ?_)
      have hg := hg.tr hgn
      have hsb := hgn _ _ hsb
      have hs6 := hgn _ _ hs6
      have hs7 := hgn _ _ hs7
      have hs8 := hgn _ _ hs8
      obtain ⟨r10, rfl, hB⟩ := hp
      refine W.eq (g2 := F0 m 59 ls [.int r10]) rfl ?_
      refine zr_aload_n (o := some b) hx hb d_X_paired_59 rfl (lv_at hl 2 rfl) ?_
      refine lv_iload_n hx hb d_X_paired_60 rfl (lv_at hl 3 rfl) ?_
      refine lv_iload_n hx hb d_X_paired_61 rfl (lv_at hl 4 rfl) ?_
      refine zr_aload (o := r5) hx hb d_X_paired_62 (lv_at hl 1 rfl) ?_
      have hsr := And.left hB
      refine zr_callV (ci := 0) (As := [.int x1, .int x2, va_rf r5]) (rest := [.int r10]) hx hb hml hC hwk hw hS hl.1 (c_X_sameCases l D B b x1 x2 r5 σ9 _ hB) mk_X_sameCases mi_X_sameCases ms_X_sameCases ml_X_221 ⟨Nat.le_of_ble_eq_true rfl, Nat.le_of_ble_eq_true rfl⟩ rfl hsr rfl (cat_8 (cat_c rfl cat_n) (Nat.le_of_ble_eq_true rfl)) d_X_paired_64 ⟨Nat.le_refl _, Nat.le_refl _⟩ rfl (fun v σ11 H locs hp hgn hw hS => ?_)
      have hg := hg.tr hgn
      have hsb := hgn _ _ hsb
      have hs6 := hgn _ _ hs6
      have hs7 := hgn _ _ hs7
      have hs8 := hgn _ _ hs8
      obtain ⟨r12, rfl, hB⟩ := hp
      refine W.eq (g2 := F0 m 67 ls [.int r12, .int r10]) rfl ?_
      refine lv_imul hx hb d_X_paired_67 ?_
      refine lv_istore (lv' := [(6, .int (r10 * r12)), (5, .int ((s_i σ4 q6 3) * x1)), (4, va_rf r5), (0, va_rf (some b)), (1, .int x1), (2, .int x2), (3, .int x3)]) hx hb d_X_paired_68 hl (by decide) rfl (fun ls hl => ?_)
      refine lv_iload hx hb d_X_paired_70 (lv_at hl 1 rfl) ?_
      refine lv_iload hx hb d_X_paired_72 (lv_at hl 1 rfl) ?_
      refine lv_imul hx hb d_X_paired_74 ?_
      refine lv_iload hx hb d_X_paired_75 (lv_at hl 1 rfl) ?_
      refine lv_imul hx hb d_X_paired_77 ?_
      refine lv_iload hx hb d_X_paired_78 (lv_at hl 0 rfl) ?_
      refine lv_isub hx hb d_X_paired_80 ?_
      exact zr_iret hx hb hr hlocks hB hg hw hS d_X_paired_81
    · have hB := hB.1 cd
      refine lv_iconst (v := (-1)) hx hb d_X_paired_26 (by decide) ?_
      exact zr_iret hx hb hr hlocks hB hg hw hS d_X_paired_27
  · have hB := hB.1 cd
    refine lv_bipush (v := (-2)) hx hb d_X_paired_8 (by decide) ?_
    exact zr_iret hx hb hr hlocks hB hg hw hS d_X_paired_10

set_option maxHeartbeats 4000000 in
set_option maxRecDepth 100000 in
theorem c_X_alike (l : Launch) (D : va_G) (B : Nat) (b : Nat) (x1 : Int32) (x2 : Int32) (x3 : Int32) (σ : St) (Q : Int32 → St → Prop) (h : P_X_alike b x1 x2 x3 σ Q) : zM l y_X_alike b_X_alike 4 (some (.int)) (rm_X_alike) D B [.ref b, .int x1, .int x2, .int x3] σ (zQi Q) := by
  refine zM.ofW (own := "LawWorlds") (by decide +kernel) rfl (Nat.le_of_ble_eq_true rfl) ?_
  intro p e s m args below meth c ls hx hb hml hr hlocks hname hC hwk hw hS hl
  obtain ⟨σ0, eσ⟩ : ∃ z, z = σ := ⟨_, rfl⟩
  have hg : gr σ0 σ := by rw [eσ]; exact gr.rf
  have hl : lv_has ls 4 [(0, va_rf (some b)), (1, .int x1), (2, .int x2), (3, .int x3)] := hl
  obtain ⟨hsb, hB⟩ := h
  have hsb0 : s_s σ0 b = some (.inl 0) := by rw [eσ]; exact hsb
  rw [← eσ]
  skip
  refine lv_iload_n hx hb d_X_alike_0 rfl (lv_at hl 1 rfl) ?_
  refine lv_iload_n hx hb d_X_alike_1 rfl (lv_at hl 2 rfl) ?_
  refine zr_callS (As := [.int x1, .int x2]) (rest := []) hx hb hml hC hwk hw hS hl.1 (c_C_isCode l D B x1 x2 σ _ hB) mk_C_isCode mt_C_isCode ml_X_55 ⟨Nat.le_of_ble_eq_true rfl, Nat.le_of_ble_eq_true rfl⟩ rfl (cat_8 cat_n (Nat.le_of_ble_eq_true rfl)) d_X_alike_2 ⟨Nat.le_refl _, Nat.le_refl _⟩ rfl (fun v σ1 H locs hp hgn hw hS => ?_)
  have hg := hg.tr hgn
  have hsb := hgn _ _ hsb
  obtain ⟨r2, rfl, hB⟩ := hp
  refine W.eq (g2 := F0 m 5 ls [.int r2]) rfl ?_
  refine lv_if_eq (tgt := 16) hx hb d_X_alike_5 (by decide) (fun cd => ?_) (fun cd => ?_)
  · have hB := hB.1 cd
    refine lv_bipush (v := (-2)) hx hb d_X_alike_16 (by decide) ?_
    exact zr_iret hx hb hr hlocks hB hg hw hS d_X_alike_18
  · have hB := hB.2 cd
    refine lv_iload_n hx hb d_X_alike_8 rfl (lv_at hl 1 rfl) ?_
    refine lv_iload_n hx hb d_X_alike_9 rfl (lv_at hl 3 rfl) ?_
    refine zr_callS (As := [.int x1, .int x3]) (rest := []) hx hb hml hC hwk hw hS hl.1 (c_C_isCode l D B x1 x3 σ1 _ hB) mk_C_isCode mt_C_isCode ml_X_55 ⟨Nat.le_of_ble_eq_true rfl, Nat.le_of_ble_eq_true rfl⟩ rfl (cat_8 cat_n (Nat.le_of_ble_eq_true rfl)) d_X_alike_10 ⟨Nat.le_refl _, Nat.le_refl _⟩ rfl (fun v σ3 H locs hp hgn hw hS => ?_)
    have hg := hg.tr hgn
    have hsb := hgn _ _ hsb
    obtain ⟨r4, rfl, hB⟩ := hp
    refine W.eq (g2 := F0 m 13 ls [.int r4]) rfl ?_
    refine lv_if_ne (tgt := 19) hx hb d_X_alike_13 (by decide) (fun cd => ?_) (fun cd => ?_)
    · have hB := hB.2 cd
      refine lv_iload_n hx hb d_X_alike_19 rfl (lv_at hl 1 rfl) ?_
      refine lv_iload_n hx hb d_X_alike_20 rfl (lv_at hl 2 rfl) ?_
      refine zr_callS (As := [.int x1, .int x2]) (rest := []) hx hb hml hC hwk hw hS hl.1 (c_C_plainCode l D B x1 x2 σ3 _ hB) mk_C_plainCode mt_C_plainCode ml_X_156 ⟨Nat.le_of_ble_eq_true rfl, Nat.le_of_ble_eq_true rfl⟩ rfl (cat_8 cat_n (Nat.le_of_ble_eq_true rfl)) d_X_alike_21 ⟨Nat.le_refl _, Nat.le_refl _⟩ rfl (fun v σ5 H locs hp hgn hw hS => ?_)
      have hg := hg.tr hgn
      have hsb := hgn _ _ hsb
      obtain ⟨r6, rfl, hB⟩ := hp
      refine W.eq (g2 := F0 m 24 ls [.int r6]) rfl ?_
      refine lv_iload_n hx hb d_X_alike_24 rfl (lv_at hl 1 rfl) ?_
      refine lv_iload_n hx hb d_X_alike_25 rfl (lv_at hl 3 rfl) ?_
      refine zr_callS (As := [.int x1, .int x3]) (rest := [.int r6]) hx hb hml hC hwk hw hS hl.1 (c_C_plainCode l D B x1 x3 σ5 _ hB) mk_C_plainCode mt_C_plainCode ml_X_156 ⟨Nat.le_of_ble_eq_true rfl, Nat.le_of_ble_eq_true rfl⟩ rfl (cat_8 (cat_c rfl cat_n) (Nat.le_of_ble_eq_true rfl)) d_X_alike_26 ⟨Nat.le_refl _, Nat.le_refl _⟩ rfl (fun v σ7 H locs hp hgn hw hS => ?_)
      have hg := hg.tr hgn
      have hsb := hgn _ _ hsb
      obtain ⟨r8, rfl, hB⟩ := hp
      refine W.eq (g2 := F0 m 29 ls [.int r8, .int r6]) rfl ?_
      refine lv_icmp_ne (tgt := 36) hx hb d_X_alike_29 (by decide) (fun cd => ?_) (fun cd => ?_)
      · have hB := hB.2 cd
        refine lv_iconst (v := nI 0) hx hb d_X_alike_36 (by decide) ?_
        exact zr_iret hx hb hr hlocks hB hg hw hS d_X_alike_37
      · have hB := hB.1 cd
        refine lv_iconst (v := nI 1) hx hb d_X_alike_32 (by decide) ?_
        refine lv_goto (tgt := 37) hx hb d_X_alike_33 (by decide) ?_
        exact zr_iret hx hb hr hlocks hB hg hw hS d_X_alike_37
    · have hB := hB.1 cd
      refine lv_bipush (v := (-2)) hx hb d_X_alike_16 (by decide) ?_
      exact zr_iret hx hb hr hlocks hB hg hw hS d_X_alike_18

set_option maxHeartbeats 4000000 in
set_option maxRecDepth 100000 in
theorem c_X_countFollowing (l : Launch) (D : va_G) (B : Nat) (b : Nat) (σ : St) (mc : Nat) (ms : Nat) (Q : Int32 → St → Prop) (h : P_X_countFollowing b σ mc ms Q) : zM l y_X_countFollowing b_X_countFollowing 3 (some (.int)) (rm_X_countFollowing mc ms) D B [.ref b] σ (zQi Q) := by
  refine zM.ofW (own := "LawWorlds") (by decide +kernel) rfl (Nat.le_of_ble_eq_true rfl) ?_
  intro p e s m args below meth c ls hx hb hml hr hlocks hname hC hwk hw hS hl
  obtain ⟨σ0, eσ⟩ : ∃ z, z = σ := ⟨_, rfl⟩
  have hg : gr σ0 σ := by rw [eσ]; exact gr.rf
  have hl : lv_has ls 3 [(0, va_rf (some b))] := hl
  have ha1 : 0 ≤ mc := Nat.zero_le _
  have ha2 : 0 ≤ ms := Nat.zero_le _
  obtain ⟨hsb, hB⟩ := h
  have hsb0 : s_s σ0 b = some (.inl 0) := by rw [eσ]; exact hsb
  rw [← eσ]
  skip
  obtain ⟨K4, hK4⟩ : ∃ K : Int32 → Int32 → St → Nat → Nat → Prop, K = (fun (x1 : Int32) (x2 : Int32) (σ : St) (ca : Nat) (cb : Nat) => ∀ (H : Heap) (locs : List Loc) (ls : Array Slot), gr σ0 σ → wh D B σ s H → va_S (zA B) s.heap H locs → lv_has ls 3 [(0, va_rf (some b)), (1, .int x1), (2, .int x2)] → ca ≤ mc → cb ≤ ms → W p l e (rm_X_countFollowing mc ms) s m args below meth c H locs ca cb (MQ below (zQ D B σ0 (zQi Q)) args s (rm_X_countFollowing mc ms).cells (rm_X_countFollowing mc ms).slots (zA B)) (F0 m 4 ls [])) := ⟨_, rfl⟩
  refine (fun hB => ?_) (hB K4 ?_)
  · skip
    refine lv_iconst (v := nI 0) hx hb d_X_countFollowing_0 (by decide) ?_
    refine lv_istore_n (lv' := [(1, .int (nI 0)), (0, va_rf (some b))]) hx hb d_X_countFollowing_1 rfl hl (by decide) rfl (fun ls hl => ?_)
    refine lv_iconst (v := nI 0) hx hb d_X_countFollowing_2 (by decide) ?_
    refine lv_istore_n (lv' := [(2, .int (nI 0)), (1, .int (nI 0)), (0, va_rf (some b))]) hx hb d_X_countFollowing_3 rfl hl (by decide) rfl (fun ls hl => ?_)
    rw [hK4] at hB
    exact hB _ _ _ hg hw hS (lv_sub hl [2, 1, 0] rfl) ha1 ha2
  · intro x1 x2 σ ca cb hB
    rw [hK4]
    intro H locs ls hg hw hS hl ha1 ha2
    have hsb := hg _ _ hsb0
    refine lv_iload_n hx hb d_X_countFollowing_4 rfl (lv_at hl 2 rfl) ?_
    refine zr_aload_n (o := some b) hx hb d_X_countFollowing_5 rfl (lv_at hl 0 rfl) ?_
    refine zr_get (v := va_rf (s_r σ b 0)) hx hb hC hw rfl hsb fl_X_10 rfl d_X_countFollowing_6 ?_
    obtain ⟨q1, ho1, hs1, hB⟩ := hB
    refine zr_get (v := .int (s_i σ q1 2)) hx hb hC hw ho1 hs1 fl_X_105 rfl d_X_countFollowing_9 ?_
    refine lv_icmp_ge (tgt := 39) hx hb d_X_countFollowing_12 (by decide) (fun cd => ?_) (fun cd => ?_)
    · have hB := hB.1 cd
      refine lv_iload_n hx hb d_X_countFollowing_39 rfl (lv_at hl 1 rfl) ?_
      refine W.widen (k := mc) (n := ms) ha1 ha2 ?_
      exact zr_iret hx hb hr hlocks hB hg hw hS d_X_countFollowing_40
    · have hB := hB.2 cd
      refine zr_aload_n (o := some b) hx hb d_X_countFollowing_15 rfl (lv_at hl 0 rfl) ?_
      refine zr_get (v := va_rf (s_r σ b 4)) hx hb hC hw rfl hsb fl_X_40 rfl d_X_countFollowing_16 ?_
      refine zr_aload_n (o := some b) hx hb d_X_countFollowing_19 rfl (lv_at hl 0 rfl) ?_
      refine zr_get (v := va_rf (s_r σ b 0)) hx hb hC hw rfl hsb fl_X_10 rfl d_X_countFollowing_20 ?_
      refine lv_iload_n hx hb d_X_countFollowing_23 rfl (lv_at hl 2 rfl) ?_
      obtain ⟨q2, ho2, hB⟩ := hB
      obtain ⟨c3, d4, hc1, hc2, hB⟩ := hB
      have hsr := And.left hB
      refine zr_callV (ci := 6) (As := [va_rf (s_r σ b 0), .int x2]) (rest := []) hx hb hml hC hwk hw hS hl.1 (c_E_findWitnesses l D B q2 (s_r σ b 0) x2 σ c3 d4 _ hB) mk_E_findWitnesses mi_E_findWitnesses ms_E_findWitnesses ml_X_132 ⟨Nat.le_of_ble_eq_true rfl, Nat.le_of_ble_eq_true rfl⟩ ho2 hsr rfl (cat_8 cat_n (Nat.le_of_ble_eq_true rfl)) d_X_countFollowing_24 ⟨hc1, hc2⟩ rfl (fun v σ5 H locs hp hgn hw hS => ?_)
      have hg := hg.tr hgn
      have hsb := hgn _ _ hsb
      have hs1 := hgn _ _ hs1
      have ha1 := hc1
      have ha2 := hc2
      obtain ⟨r6, rfl, hB⟩ := hp
      refine W.eq (g2 := F0 m 27 ls [.int r6]) rfl ?_
      refine lv_if_ne (tgt := 33) hx hb d_X_countFollowing_27 (by decide) (fun cd => ?_) (fun cd => ?_)
      · have hB := hB.2 cd
        refine lv_iinc (v := x2 + nI 1) (lv' := [(2, .int (x2 + nI 1)), (0, va_rf (some b)), (1, .int x1)]) hx hb d_X_countFollowing_33 hl (k := 2) rfl rfl (by decide) rfl (fun ls hl => ?_)
        refine lv_goto (tgt := 4) hx hb d_X_countFollowing_36 (by decide) ?_
        rw [hK4] at hB
        exact hB _ _ _ hg hw hS (lv_sub hl [1, 2, 0] rfl) ha1 ha2
      · have hB := hB.1 cd
        refine lv_iinc (v := x1 + nI 1) (lv' := [(1, .int (x1 + nI 1)), (0, va_rf (some b)), (2, .int x2)]) hx hb d_X_countFollowing_30 hl (k := 1) rfl rfl (by decide) rfl (fun ls hl => ?_)
        refine lv_iinc (v := x2 + nI 1) (lv' := [(2, .int (x2 + nI 1)), (1, .int (x1 + nI 1)), (0, va_rf (some b))]) hx hb d_X_countFollowing_33 hl (k := 2) rfl rfl (by decide) rfl (fun ls hl => ?_)
        refine lv_goto (tgt := 4) hx hb d_X_countFollowing_36 (by decide) ?_
        rw [hK4] at hB
        exact hB _ _ _ hg hw hS (lv_sub hl [2, 1, 0] rfl) ha1 ha2

set_option maxHeartbeats 4000000 in
set_option maxRecDepth 100000 in
theorem c_X_count (l : Launch) (D : va_G) (B : Nat) (b : Nat) (x1 : Int32) (σ : St) (mc : Nat) (ms : Nat) (Q : Int32 → St → Prop) (h : P_X_count b x1 σ mc ms Q) : zM l y_X_count b_X_count 2 (some (.int)) (rm_X_count mc ms) D B [.ref b, .int x1] σ (zQi Q) := by
  refine zM.ofW (own := "LawWorlds") (by decide +kernel) rfl (Nat.le_of_ble_eq_true rfl) ?_
  intro p e s m args below meth c ls hx hb hml hr hlocks hname hC hwk hw hS hl
  obtain ⟨σ0, eσ⟩ : ∃ z, z = σ := ⟨_, rfl⟩
  have hg : gr σ0 σ := by rw [eσ]; exact gr.rf
  have hl : lv_has ls 2 [(0, va_rf (some b)), (1, .int x1)] := hl
  have ha1 : 0 ≤ mc := Nat.zero_le _
  have ha2 : 0 ≤ ms := Nat.zero_le _
  obtain ⟨hsb, hB⟩ := h
  have hsb0 : s_s σ0 b = some (.inl 0) := by rw [eσ]; exact hsb
  rw [← eσ]
  skip
  refine lv_iload_n hx hb d_X_count_0 rfl (lv_at hl 1 rfl) ?_
  by_cases c0 : x1 = nI 0
  · have hB := hB.1 c0
    refine lv_tableIn (tgt := 40) (off := 39) hx hb d_X_count_1 (by rw [c0]; decide) (by rw [c0]; decide) (by rw [c0]; decide) (by decide) ?_
    refine zr_aload_n (o := some b) hx hb d_X_count_40 rfl (lv_at hl 0 rfl) ?_
    refine zr_get (v := va_rf (s_r σ b 0)) hx hb hC hw rfl hsb fl_X_10 rfl d_X_count_41 ?_
    obtain ⟨q1, ho1, hs1, hB⟩ := hB
    refine zr_get (v := .int (s_i σ q1 2)) hx hb hC hw ho1 hs1 fl_X_105 rfl d_X_count_44 ?_
    refine W.widen (k := mc) (n := ms) ha1 ha2 ?_
    exact zr_iret hx hb hr hlocks hB hg hw hS d_X_count_47
  · have hB := hB.2 c0
    by_cases c1 : x1 = nI 1
    · have hB := hB.1 c1
      refine lv_tableIn (tgt := 48) (off := 47) hx hb d_X_count_1 (by rw [c1]; decide) (by rw [c1]; decide) (by rw [c1]; decide) (by decide) ?_
      refine zr_aload_n (o := some b) hx hb d_X_count_48 rfl (lv_at hl 0 rfl) ?_
      refine zr_get (v := va_rf (s_r σ b 0)) hx hb hC hw rfl hsb fl_X_10 rfl d_X_count_49 ?_
      obtain ⟨q2, ho2, hB⟩ := hB
      have hsr := And.left hB
      refine zr_callV (ci := 1) (As := []) (rest := []) hx hb hml hC hwk hw hS hl.1 (c_S_onCount l D B q2 σ _ hB) mk_S_onCount mi_S_onCount ms_S_onCount ml_X_128 ⟨Nat.le_of_ble_eq_true rfl, Nat.le_of_ble_eq_true rfl⟩ ho2 hsr rfl (cat_8 cat_n (Nat.le_of_ble_eq_true rfl)) d_X_count_52 ⟨ha1, ha2⟩ rfl (fun v σ3 H locs hp hgn hw hS => ?_)
      have hg := hg.tr hgn
      have hsb := hgn _ _ hsb
      obtain ⟨r4, rfl, hB⟩ := hp
      refine W.eq (g2 := F0 m 55 ls [.int r4]) rfl ?_
      refine W.widen (k := mc) (n := ms) ha1 ha2 ?_
      exact zr_iret hx hb hr hlocks hB hg hw hS d_X_count_55
    · have hB := hB.2 c1
      by_cases c2 : x1 = nI 2
      · have hB := hB.1 c2
        refine lv_tableIn (tgt := 56) (off := 55) hx hb d_X_count_1 (by rw [c2]; decide) (by rw [c2]; decide) (by rw [c2]; decide) (by decide) ?_
        refine zr_aload_n (o := some b) hx hb d_X_count_56 rfl (lv_at hl 0 rfl) ?_
        refine lv_iconst (v := nI 0) hx hb d_X_count_57 (by decide) ?_
        have hsr := And.left hB
        refine zr_callV (ci := 0) (As := [.int (nI 0)]) (rest := []) hx hb hml hC hwk hw hS hl.1 (c_X_countHolding l D B b (nI 0) σ _ hB) mk_X_countHolding mi_X_countHolding ms_X_countHolding ml_X_168 ⟨Nat.le_of_ble_eq_true rfl, Nat.le_of_ble_eq_true rfl⟩ rfl hsr rfl (cat_8 cat_n (Nat.le_of_ble_eq_true rfl)) d_X_count_58 ⟨ha1, ha2⟩ rfl (fun v σ5 H locs hp hgn hw hS => ?_)
        have hg := hg.tr hgn
        have hsb := hgn _ _ hsb
        obtain ⟨r6, rfl, hB⟩ := hp
        refine W.eq (g2 := F0 m 61 ls [.int r6]) rfl ?_
        refine W.widen (k := mc) (n := ms) ha1 ha2 ?_
        exact zr_iret hx hb hr hlocks hB hg hw hS d_X_count_61
      · have hB := hB.2 c2
        by_cases c3 : x1 = nI 3
        · have hB := hB.1 c3
          refine lv_tableIn (tgt := 62) (off := 61) hx hb d_X_count_1 (by rw [c3]; decide) (by rw [c3]; decide) (by rw [c3]; decide) (by decide) ?_
          refine zr_aload_n (o := some b) hx hb d_X_count_62 rfl (lv_at hl 0 rfl) ?_
          obtain ⟨c7, d8, hc1, hc2, hB⟩ := hB
          have hsr := And.left hB
          refine zr_callV (ci := 0) (As := []) (rest := []) hx hb hml hC hwk hw hS hl.1 (c_X_countFollowing l D B b σ c7 d8 _ hB) mk_X_countFollowing mi_X_countFollowing ms_X_countFollowing ml_X_225 ⟨Nat.le_of_ble_eq_true rfl, Nat.le_of_ble_eq_true rfl⟩ rfl hsr rfl (cat_8 cat_n (Nat.le_of_ble_eq_true rfl)) d_X_count_63 ⟨hc1, hc2⟩ rfl (fun v σ9 H locs hp hgn hw hS => ?_)
          have hg := hg.tr hgn
          have hsb := hgn _ _ hsb
          have ha1 := hc1
          have ha2 := hc2
          obtain ⟨r10, rfl, hB⟩ := hp
          refine W.eq (g2 := F0 m 66 ls [.int r10]) rfl ?_
          refine W.widen (k := mc) (n := ms) ha1 ha2 ?_
          exact zr_iret hx hb hr hlocks hB hg hw hS d_X_count_66
        · have hB := hB.2 c3
          by_cases c4 : x1 = nI 4
          · have hB := hB.1 c4
            refine lv_tableIn (tgt := 67) (off := 66) hx hb d_X_count_1 (by rw [c4]; decide) (by rw [c4]; decide) (by rw [c4]; decide) (by decide) ?_
            refine zr_aload_n (o := some b) hx hb d_X_count_67 rfl (lv_at hl 0 rfl) ?_
            refine zr_get (v := va_rf (s_r σ b 1)) hx hb hC hw rfl hsb fl_X_19 rfl d_X_count_68 ?_
            obtain ⟨q11, ho11, hs11, hB⟩ := hB
            refine zr_get (v := .int (s_i σ q11 2)) hx hb hC hw ho11 hs11 fl_X_143 rfl d_X_count_71 ?_
            refine W.widen (k := mc) (n := ms) ha1 ha2 ?_
            exact zr_iret hx hb hr hlocks hB hg hw hS d_X_count_74
          · have hB := hB.2 c4
            by_cases c5 : x1 = nI 5
            · have hB := hB.1 c5
              refine lv_tableIn (tgt := 75) (off := 74) hx hb d_X_count_1 (by rw [c5]; decide) (by rw [c5]; decide) (by rw [c5]; decide) (by decide) ?_
              refine zr_aload_n (o := some b) hx hb d_X_count_75 rfl (lv_at hl 0 rfl) ?_
              refine zr_get (v := .int (s_i σ b 7)) hx hb hC hw rfl hsb fl_X_98 rfl d_X_count_76 ?_
              refine W.widen (k := mc) (n := ms) ha1 ha2 ?_
              exact zr_iret hx hb hr hlocks hB hg hw hS d_X_count_79
            · have hB := hB.2 c5
              refine lv_tableOut (tgt := 80) hx hb d_X_count_1 (sw_out (n := 6) (by decide) (fun k hk => ?_)) (by decide) ?_
              · match k, hk with
                | 0, _ => exact c0
                | 1, _ => exact c1
                | 2, _ => exact c2
                | 3, _ => exact c3
                | 4, _ => exact c4
                | 5, _ => exact c5
                | k + 6, h => exact absurd h (by omega)
              · skip
                refine lv_bipush (v := (-2)) hx hb d_X_count_80 (by decide) ?_
                refine W.widen (k := mc) (n := ms) ha1 ha2 ?_
                exact zr_iret hx hb hr hlocks hB hg hw hS d_X_count_82
