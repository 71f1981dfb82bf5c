/-! The law from its entry. -/
set_option maxHeartbeats 4000000 in
theorem whole_start {p : Program} {e : Env} {s : State} {m : MethodId} {below : List Frame} {meth : Method} {c : Code} (l : Launch) (hflags : l.flags = flags0) {b L : Nat} {xs : Nat → Int32} (hL : L ≤ 2048) (C0 : lw_At p s m meth c b L xs) : W p l e room_1 s m #[Value.ref b] below meth c s.heap [] 0 0 (lw_Z below #[Value.ref b] s) (entryFrame m ([Value.ref b] : List Value).toArray 4) := by
  obtain ⟨hx, hb, hr, hml, hown, hts, hX, hbl, hlocks, hgv⟩ := id C0
  have hz : ∀ w ∈ zT, w.before #[Value.ref b] s = true := fun w hw => hts w (List.mem_filter.mp hw).1
  have hk : ∀ ci, ci < 10 → ∃ (cC : ClassId) (iS : Nat → Nat), u_Kn s (fC ci) (fT ci) (fN ci) cC iS := by
    intro ci hci
    obtain ⟨n, hn⟩ : ∃ n, Cond.instantiable (fC ci) n ∈ zT := by
      have h10 : ci = 0 ∨ ci = 1 ∨ ci = 2 ∨ ci = 3 ∨ ci = 4 ∨ ci = 5 ∨ ci = 6 ∨ ci = 7 ∨ ci = 8 ∨ ci = 9 := by omega
      rcases h10 with rfl | rfl | rfl | rfl | rfl | rfl | rfl | rfl | rfl | rfl
      · exact ⟨_, in_X⟩
      · exact ⟨_, in_S⟩
      · exact ⟨_, in_H⟩
      · exact ⟨_, in_F⟩
      · exact ⟨_, in_L⟩
      · exact ⟨_, in_B⟩
      · exact ⟨_, in_E⟩
      · exact ⟨_, in_P⟩
      · exact ⟨_, in_D⟩
      · exact ⟨_, in_M⟩
    exact u_known hz (cl_ok ci hci).1 (hz _ hn)
  have hch : ∀ ci, ∃ q : ClassId × (Nat → Nat), ci < 10 → u_Kn s (fC ci) (fT ci) (fN ci) q.1 q.2 := by
    intro ci
    by_cases h : ci < 10
    · obtain ⟨cC, iS, h1⟩ := hk ci h
      exact ⟨(cC, iS), fun _ => h1⟩
    · exact ⟨(m.cls, fun _ => 0), fun z => absurd z h⟩
  obtain ⟨g, hg⟩ := Classical.skolem.mp hch
  obtain ⟨D, eD⟩ : ∃ D : va_G, D = (fun ci => (g ci).1, fun ci => (g ci).2) := ⟨_, rfl⟩
  have hK : va_K D classes [] s := by
    refine ⟨fun k q hq => ?_, fun k q h => by simp at h⟩
    have hk10 : k < 10 := (List.getElem?_eq_some_iff.mp hq).1
    rw [fc_ok k hk10] at hq
    cases hq
    rw [eD]
    exact hg k hk10
  have hA : ∀ a : Nat, a < s.heap.size → ¬ zA s.heap.size a := fun a h z => absurd h (Nat.not_lt.mpr z)
  have hs := flat_of_before _ hgv
  have hini : (Cond.initialized "LawWorlds$Codes").before #[Value.ref b] s = true := hz _ mk_C_isSize.2.1
  obtain ⟨tP, eP, TP⟩ := va_Tof (args := #[Value.ref b]) (s := s) (tm := .static "LawWorlds$Codes" "POWERS_OF_THREE" "[I") (ty := .int) (N := 9) (f := fun j => .int (pw3 j)) (A := zA s.heap.size) (by decide) (hs _ (by decide +kernel)) (va_eqt (hs _ (by decide +kernel))) (fun j hj => by
    have h9 : j = 0 ∨ j = 1 ∨ j = 2 ∨ j = 3 ∨ j = 4 ∨ j = 5 ∨ j = 6 ∨ j = 7 ∨ j = 8 := by omega
    rcases h9 with rfl | rfl | rfl | rfl | rfl | rfl | rfl | rfl | rfl <;> exact va_eqt (hs _ (by decide +kernel))) hA
  obtain ⟨tR, eR, TR⟩ := va_Tof (args := #[Value.ref b]) (s := s) (tm := .static "LawWorlds$Codes" "RENAMINGS" "[I") (ty := .int) (N := 18) (f := fun j => .int (rnm j)) (A := zA s.heap.size) (by decide) (hs _ (by decide +kernel)) (va_eqt (hs _ (by decide +kernel))) (fun j hj => by
    have h18 : j = 0 ∨ j = 1 ∨ j = 2 ∨ j = 3 ∨ j = 4 ∨ j = 5 ∨ j = 6 ∨ j = 7 ∨ j = 8 ∨ j = 9 ∨ j = 10 ∨ j = 11 ∨ j = 12 ∨ j = 13 ∨ j = 14 ∨ j = 15 ∨ j = 16 ∨ j = 17 := by omega
    rcases h18 with rfl | rfl | rfl | rfl | rfl | rfl | rfl | rfl | rfl | rfl | rfl | rfl | rfl | rfl | rfl | rfl | rfl | rfl <;> exact va_eqt (hs _ (by decide +kernel))) hA
  have hwk : wk D s.heap.size s := ⟨Nat.le_refl _, hK, fun w hw => va_Nw.of (zN_ok w hw) (hts w (zN_in w hw)), va_AO.of (hts _ ao_Law), va_AO.of (hts _ ao_State), tP, tR, va_Zref (hts _ ls_POWERS_OF_THREE) hini eP hA, TP, va_Zref (hts _ ls_RENAMINGS) hini eR hA, TR⟩
  exact c_law (D := D) s.heap.size rfl (s.heap.size, fun _ => none, fun _ _ => 0, fun _ _ => none, fun _ _ => 0) (P_law_ok hL) hx hb hml hr hlocks ⟨hown, hz, hK⟩ hwk ⟨rfl, fun q sp h => by cases h⟩ hX hbl
