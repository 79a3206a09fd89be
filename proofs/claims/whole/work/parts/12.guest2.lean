set_option maxHeartbeats 4000000 in
set_option maxRecDepth 100000 in
theorem c_G_newTablesFor (l : Launch) {D : va_G} {c : Nat → ClassId} {sz : Nat} {ad : gN → Nat} {k : Nat} {I J : gI} {P : gP} {LG : Option Nat} {LP : Option (Nat × Nat)} {g a : Nat} (hg : g < k) (ha : a < 64) (hPl : ∀ g a q, P g a = some q → q < 24) : Met l yG_newTablesFor wG_newTablesFor { frames := 1, cells := 0, slots := 0, locals := 23 } (gPre D c sz [.ref (ad (6, g, 0)), .int (nI a)] (ad, k, I, J, P, LG, LP)) (va_Qi (fun r u => r = sNew P g a ∧ u = (ad, k, I, J, P, LG, LP)) (gB D c sz) (gA sz)) 0 0 (gA sz) := by
  refine Met.ofW (cc := cG_newTablesFor) (maxL := 4) (ret := (some .int)) (by decide) rfl ?_
  intro p e s m args below meth cd s₁ B hml hv
  obtain ⟨rfl, hK, hH⟩ := hv
  have hx := B.exec
  have hb := B.bytes
  have hr := B.returns
  have hts := atoms_spec (ws := wG_newTablesFor) B.pre
  have hw : ∀ w ∈ gWd, w.before _ s = true := fun w h => hts w (List.mem_cons_of_mem _ h)
  have hown : s.vm.findClass RG = some m.cls := findClass_of_methodNamed B.named
  have hlk := B.notSynchronized
  have hS : va_S (gA sz) s.heap s.heap [] := va_S.rf
  have hH : gW D c sz ad k I J P LG LP s.heap := hH
  have hl := lv_entry ([.ref (ad (6, g, 0)), .int (nI a)]) (n := 4) (Nat.le_of_ble_eq_true rfl)
  rw [lg_entry_eq]
  generalize (lg_sl ([.ref (ad (6, g, 0)), .int (nI a)]) ++ List.replicate (4 - (lg_sl ([.ref (ad (6, g, 0)), .int (nI a)])).length) Slot.unset).toArray = ls at hl ⊢
  have hl : lv_has ls 4 [(0, .ref (ad (6, g, 0))), (1, .int (nI a))] := hl
  have e16 : nI a / 16 = nI (a / 16) := pk_div (d := 16) (by omega) (by decide) (by decide)
  have e4 : nI a / 4 = nI (a / 4) := pk_div (d := 4) (by omega) (by decide) (by decide)
  refine lv_aload_n hx hb dG_newTablesFor_0 rfl (lv_at hl 0 rfl) ?_
  refine lv_iload_n hx hb dG_newTablesFor_1 rfl (lv_at hl 1 rfl) ?_
  refine lv_bipush (v := 16) hx hb dG_newTablesFor_2 (by decide) ?_
  refine lv_idiv hx hb dG_newTablesFor_4 (by decide) ?_
  rw [e16]
  refine lv_bipush (v := 16) hx hb dG_newTablesFor_5 (by decide) ?_
  refine s_ciE (va_runV (As := [.int _, .int _]) (rest := []) ⟨hx, hb, hml, hown, hw⟩ (c_G_needsTable l (t := a / 16) (z := 16) (by assumption) (by first | exact Or.inl rfl | exact Or.inr rfl) (by omega) (hPl)) (cwV 2 hw (gd_V (gwd_3 (List.mem_of_getElem? (i := 17) rfl)) (gwd_3 (List.mem_of_getElem? (i := 18) rfl)) (gwd_9 (List.mem_of_getElem? (i := 16) rfl)) (gwd_0 (List.mem_of_getElem? (i := 4) rfl)) (gwd_3 (List.mem_of_getElem? (i := 19) rfl))) rfl rfl rfl (by decide +kernel) ⟨Nat.le_of_ble_eq_true rfl, Nat.le_of_ble_eq_true rfl⟩) (gPre.V (n := (6, _, 0)) hK hH (by first | exact ⟨rfl, rfl⟩ | exact ⟨by assumption, rfl⟩ | exact ⟨by assumption, by assumption⟩ | exact ⟨by omega, rfl⟩ | exact ⟨by omega, by omega⟩ | exact ⟨by decide, rfl⟩) rfl rfl) rfl rfl hl.1 rfl (lv_room (Nat.le_of_ble_eq_true rfl)) dG_newTablesFor_7 ⟨Nat.zero_le _, Nat.zero_le _⟩) hS (fun H locs hH hS => ?_)
  refine s_ifeq hx hb dG_newTablesFor_10 rfl (fun h_1 => ?_) (fun h_1 => ?_)
  · skip
    refine lv_iconst (v := 1) hx hb dG_newTablesFor_17 (by decide) ?_
    refine lv_istore_n hx hb dG_newTablesFor_18 rfl hl (by decide) rfl (fun ls hl => ?_)
    have hl : lv_has ls 4 [(2, .int _), (0, .ref _), (1, .int _)] := hl
    refine lv_aload_n hx hb dG_newTablesFor_19 rfl (lv_at hl 1 rfl) ?_
    refine lv_iload_n hx hb dG_newTablesFor_20 rfl (lv_at hl 2 rfl) ?_
    refine lv_iconst (v := 4) hx hb dG_newTablesFor_21 (by decide) ?_
    refine lv_idiv hx hb dG_newTablesFor_22 (by decide) ?_
    rw [e4]
    refine lv_iconst (v := 4) hx hb dG_newTablesFor_23 (by decide) ?_
    refine s_ciE (va_runV (As := [.int _, .int _]) (rest := []) ⟨hx, hb, hml, hown, hw⟩ (c_G_needsTable l (t := a / 4) (z := 4) (by assumption) (by first | exact Or.inl rfl | exact Or.inr rfl) (by omega) (hPl)) (cwV 2 hw (gd_V (gwd_3 (List.mem_of_getElem? (i := 17) rfl)) (gwd_3 (List.mem_of_getElem? (i := 18) rfl)) (gwd_9 (List.mem_of_getElem? (i := 16) rfl)) (gwd_0 (List.mem_of_getElem? (i := 4) rfl)) (gwd_3 (List.mem_of_getElem? (i := 19) rfl))) rfl rfl rfl (by decide +kernel) ⟨Nat.le_of_ble_eq_true rfl, Nat.le_of_ble_eq_true rfl⟩) (gPre.V (n := (6, _, 0)) hK hH (by first | exact ⟨rfl, rfl⟩ | exact ⟨by assumption, rfl⟩ | exact ⟨by assumption, by assumption⟩ | exact ⟨by omega, rfl⟩ | exact ⟨by omega, by omega⟩ | exact ⟨by decide, rfl⟩) rfl rfl) rfl rfl hl.1 rfl (lv_room (Nat.le_of_ble_eq_true rfl)) dG_newTablesFor_24 ⟨Nat.zero_le _, Nat.zero_le _⟩) hS (fun H locs hH hS => ?_)
    refine s_ifeq hx hb dG_newTablesFor_27 rfl (fun h_2 => ?_) (fun h_2 => ?_)
    · skip
      refine lv_iconst (v := 1) hx hb dG_newTablesFor_34 (by decide) ?_
      refine lv_istore_n hx hb dG_newTablesFor_35 rfl hl (by decide) rfl (fun ls hl => ?_)
      have hl : lv_has ls 4 [(3, .int _), (2, .int _), (0, .ref _), (1, .int _)] := hl
      refine lv_iload_n hx hb dG_newTablesFor_36 rfl (lv_at hl 1 rfl) ?_
      refine lv_iload_n hx hb dG_newTablesFor_37 rfl (lv_at hl 0 rfl) ?_
      refine lv_iadd hx hb dG_newTablesFor_38 ?_
      exact r_i hx hb hr hlk hK hH hS dG_newTablesFor_39 (⟨by simp [sNew, h_1, h_2] <;> rfl, rfl⟩)
    · skip
      refine lv_iconst (v := 0) hx hb dG_newTablesFor_30 (by decide) ?_
      refine lv_goto hx hb dG_newTablesFor_31 rfl ?_
      refine lv_istore_n hx hb dG_newTablesFor_35 rfl hl (by decide) rfl (fun ls hl => ?_)
      have hl : lv_has ls 4 [(3, .int _), (2, .int _), (0, .ref _), (1, .int _)] := hl
      refine lv_iload_n hx hb dG_newTablesFor_36 rfl (lv_at hl 1 rfl) ?_
      refine lv_iload_n hx hb dG_newTablesFor_37 rfl (lv_at hl 0 rfl) ?_
      refine lv_iadd hx hb dG_newTablesFor_38 ?_
      exact r_i hx hb hr hlk hK hH hS dG_newTablesFor_39 (⟨by simp [sNew, h_1, h_2] <;> rfl, rfl⟩)
  · skip
    refine lv_iconst (v := 0) hx hb dG_newTablesFor_13 (by decide) ?_
    refine lv_goto hx hb dG_newTablesFor_14 rfl ?_
    refine lv_istore_n hx hb dG_newTablesFor_18 rfl hl (by decide) rfl (fun ls hl => ?_)
    have hl : lv_has ls 4 [(2, .int _), (0, .ref _), (1, .int _)] := hl
    refine lv_aload_n hx hb dG_newTablesFor_19 rfl (lv_at hl 1 rfl) ?_
    refine lv_iload_n hx hb dG_newTablesFor_20 rfl (lv_at hl 2 rfl) ?_
    refine lv_iconst (v := 4) hx hb dG_newTablesFor_21 (by decide) ?_
    refine lv_idiv hx hb dG_newTablesFor_22 (by decide) ?_
    rw [e4]
    refine lv_iconst (v := 4) hx hb dG_newTablesFor_23 (by decide) ?_
    refine s_ciE (va_runV (As := [.int _, .int _]) (rest := []) ⟨hx, hb, hml, hown, hw⟩ (c_G_needsTable l (t := a / 4) (z := 4) (by assumption) (by first | exact Or.inl rfl | exact Or.inr rfl) (by omega) (hPl)) (cwV 2 hw (gd_V (gwd_3 (List.mem_of_getElem? (i := 17) rfl)) (gwd_3 (List.mem_of_getElem? (i := 18) rfl)) (gwd_9 (List.mem_of_getElem? (i := 16) rfl)) (gwd_0 (List.mem_of_getElem? (i := 4) rfl)) (gwd_3 (List.mem_of_getElem? (i := 19) rfl))) rfl rfl rfl (by decide +kernel) ⟨Nat.le_of_ble_eq_true rfl, Nat.le_of_ble_eq_true rfl⟩) (gPre.V (n := (6, _, 0)) hK hH (by first | exact ⟨rfl, rfl⟩ | exact ⟨by assumption, rfl⟩ | exact ⟨by assumption, by assumption⟩ | exact ⟨by omega, rfl⟩ | exact ⟨by omega, by omega⟩ | exact ⟨by decide, rfl⟩) rfl rfl) rfl rfl hl.1 rfl (lv_room (Nat.le_of_ble_eq_true rfl)) dG_newTablesFor_24 ⟨Nat.zero_le _, Nat.zero_le _⟩) hS (fun H locs hH hS => ?_)
    refine s_ifeq hx hb dG_newTablesFor_27 rfl (fun h_3 => ?_) (fun h_3 => ?_)
    · skip
      refine lv_iconst (v := 1) hx hb dG_newTablesFor_34 (by decide) ?_
      refine lv_istore_n hx hb dG_newTablesFor_35 rfl hl (by decide) rfl (fun ls hl => ?_)
      have hl : lv_has ls 4 [(3, .int _), (2, .int _), (0, .ref _), (1, .int _)] := hl
      refine lv_iload_n hx hb dG_newTablesFor_36 rfl (lv_at hl 1 rfl) ?_
      refine lv_iload_n hx hb dG_newTablesFor_37 rfl (lv_at hl 0 rfl) ?_
      refine lv_iadd hx hb dG_newTablesFor_38 ?_
      exact r_i hx hb hr hlk hK hH hS dG_newTablesFor_39 (⟨by simp [sNew, h_1, h_3] <;> rfl, rfl⟩)
    · skip
      refine lv_iconst (v := 0) hx hb dG_newTablesFor_30 (by decide) ?_
      refine lv_goto hx hb dG_newTablesFor_31 rfl ?_
      refine lv_istore_n hx hb dG_newTablesFor_35 rfl hl (by decide) rfl (fun ls hl => ?_)
      have hl : lv_has ls 4 [(3, .int _), (2, .int _), (0, .ref _), (1, .int _)] := hl
      refine lv_iload_n hx hb dG_newTablesFor_36 rfl (lv_at hl 1 rfl) ?_
      refine lv_iload_n hx hb dG_newTablesFor_37 rfl (lv_at hl 0 rfl) ?_
      refine lv_iadd hx hb dG_newTablesFor_38 ?_
      exact r_i hx hb hr hlk hK hH hS dG_newTablesFor_39 (⟨by simp [sNew, h_1, h_3] <;> rfl, rfl⟩)
set_option maxHeartbeats 4000000 in
set_option maxRecDepth 100000 in
theorem c_G_pageAtAddress (l : Launch) {D : va_G} {c : Nat → ClassId} {sz : Nat} {ad : gN → Nat} {k : Nat} {I J : gI} {P : gP} {LG : Option Nat} {LP : Option (Nat × Nat)} {g t : Nat} (hg : g < k) (ht : t < 256) (hPl : ∀ g a q, P g a = some q → q < 24) : Met l yG_pageAtAddress wG_pageAtAddress { frames := 0, cells := 0, slots := 0, locals := 0 } (gPre D c sz [.ref (ad (6, g, 0)), .int (nI t)] (ad, k, I, J, P, LG, LP)) (va_Qq (fun r u => r = (P g (t / 4)).map (fun q => ad (2, q, 0)) ∧ u = (ad, k, I, J, P, LG, LP)) (gB D c sz) (gA sz)) 0 0 (gA sz) := by
  refine Met.ofW (cc := cG_pageAtAddress) (maxL := 2) (ret := (some (.object "GuestKeeper$Page"))) (by decide) rfl ?_
  intro p e s m args below meth cd s₁ B hml hv
  obtain ⟨rfl, hK, hH⟩ := hv
  have hx := B.exec
  have hb := B.bytes
  have hr := B.returns
  have hts := atoms_spec (ws := wG_pageAtAddress) B.pre
  have hw : ∀ w ∈ gWd, w.before _ s = true := fun w h => hts w (List.mem_cons_of_mem _ h)
  have hown : s.vm.findClass RG = some m.cls := findClass_of_methodNamed B.named
  have hlk := B.notSynchronized
  have hS : va_S (gA sz) s.heap s.heap [] := va_S.rf
  have hH : gW D c sz ad k I J P LG LP s.heap := hH
  have hl := lv_entry ([.ref (ad (6, g, 0)), .int (nI t)]) (n := 2) (Nat.le_of_ble_eq_true rfl)
  rw [lg_entry_eq]
  generalize (lg_sl ([.ref (ad (6, g, 0)), .int (nI t)]) ++ List.replicate (2 - (lg_sl ([.ref (ad (6, g, 0)), .int (nI t)])).length) Slot.unset).toArray = ls at hl ⊢
  have hl : lv_has ls 2 [(0, .ref (ad (6, g, 0))), (1, .int (nI t))] := hl
  have e4 : nI t / 4 = nI (t / 4) := pk_div (d := 4) (by omega) (by decide) (by decide)
  refine lv_aload_n hx hb dG_pageAtAddress_0 rfl (lv_at hl 0 rfl) ?_
  refine s_get hx hb hw inG hown hK hH 1 (by decide) (hw _ (gwd_2 (List.mem_of_getElem? (i := 15) rfl))) (by first | exact ⟨rfl, rfl⟩ | exact ⟨by assumption, rfl⟩ | exact ⟨by assumption, by assumption⟩ | exact ⟨by omega, rfl⟩ | exact ⟨by omega, by omega⟩ | exact ⟨by decide, rfl⟩) rfl rfl rfl rfl dG_pageAtAddress_1 ?_
  refine lv_iload_n hx hb dG_pageAtAddress_4 rfl (lv_at hl 1 rfl) ?_
  refine lv_iconst (v := 4) hx hb dG_pageAtAddress_5 (by decide) ?_
  refine lv_idiv hx hb dG_pageAtAddress_6 (by decide) ?_
  rw [e4]
  refine s_aaL hx hb hK hH (by first | assumption | decide | omega) _ (by first | rfl | assumption) (by omega) dG_pageAtAddress_7 (fun q_2 h_1 => ?_) (fun h_1 => ?_)
  · have hlt_q_2 : q_2 < 24 := hPl _ _ _ h_1
    exact r_q (some _) hx hb hr (Or.inl ⟨_, rfl⟩) hlk hK hH hS dG_pageAtAddress_8 (⟨by rw [h_1]; rfl, rfl⟩)
  · skip
    exact r_q none hx hb hr (Or.inl ⟨_, rfl⟩) hlk hK hH hS dG_pageAtAddress_8 (⟨by rw [h_1]; rfl, rfl⟩)
set_option maxHeartbeats 4000000 in
set_option maxRecDepth 100000 in
theorem c_G_changeSharingAt (l : Launch) {D : va_G} {c : Nat → ClassId} {sz : Nat} {ad : gN → Nat} {k : Nat} {I J : gI} {P : gP} {LG : Option Nat} {LP : Option (Nat × Nat)} {g a : Nat} {x : Int32} (hg : g < k) (ha : a < 64) (hx1 : x = 0 ∨ x = 1) (hPl : ∀ g a q, P g a = some q → q < 24) : Met l yG_changeSharingAt wG_changeSharingAt { frames := 2, cells := 0, slots := 0, locals := 41 } (gPre D c sz [.ref (ad (6, g, 0)), .int (nI a), .int x] (ad, k, I, J, P, LG, LP)) (va_Qi (fun r u => r = (sChg I P g a x).1 ∧ u = (ad, k, (sChg I P g a x).2, J, P, LG, LP)) (gB D c sz) (gA sz)) 0 0 (gA sz) := by
  refine Met.ofW (cc := cG_changeSharingAt) (maxL := 4) (ret := (some .boolean)) (by decide) rfl ?_
  intro p e s m args below meth cd s₁ B hml hv
  obtain ⟨rfl, hK, hH⟩ := hv
  have hx := B.exec
  have hb := B.bytes
  have hr := B.returns
  have hts := atoms_spec (ws := wG_changeSharingAt) B.pre
  have hw : ∀ w ∈ gWd, w.before _ s = true := fun w h => hts w (List.mem_cons_of_mem _ h)
  have hown : s.vm.findClass RG = some m.cls := findClass_of_methodNamed B.named
  have hlk := B.notSynchronized
  have hS : va_S (gA sz) s.heap s.heap [] := va_S.rf
  have hH : gW D c sz ad k I J P LG LP s.heap := hH
  have hl := lv_entry ([.ref (ad (6, g, 0)), .int (nI a), .int x]) (n := 4) (Nat.le_of_ble_eq_true rfl)
  rw [lg_entry_eq]
  generalize (lg_sl ([.ref (ad (6, g, 0)), .int (nI a), .int x]) ++ List.replicate (4 - (lg_sl ([.ref (ad (6, g, 0)), .int (nI a), .int x])).length) Slot.unset).toArray = ls at hl ⊢
  have hl : lv_has ls 4 [(0, .ref (ad (6, g, 0))), (1, .int (nI a)), (2, .int x)] := hl
  refine lv_aload_n hx hb dG_changeSharingAt_0 rfl (lv_at hl 0 rfl) ?_
  refine s_get hx hb hw inG hown hK hH 1 (by decide) (hw _ (gwd_2 (List.mem_of_getElem? (i := 15) rfl))) (by first | exact ⟨rfl, rfl⟩ | exact ⟨by assumption, rfl⟩ | exact ⟨by assumption, by assumption⟩ | exact ⟨by omega, rfl⟩ | exact ⟨by omega, by omega⟩ | exact ⟨by decide, rfl⟩) rfl rfl rfl rfl dG_changeSharingAt_1 ?_
  refine lv_iload_n hx hb dG_changeSharingAt_4 rfl (lv_at hl 1 rfl) ?_
  refine s_aaL hx hb hK hH (by first | assumption | decide | omega) _ (by first | rfl | assumption) (by first | assumption | decide | omega) dG_changeSharingAt_5 (fun q_2 h_1 => ?_) (fun h_1 => ?_)
  · have hlt_q_2 : q_2 < 24 := hPl _ _ _ h_1
    refine lv_astore_n hx hb dG_changeSharingAt_6 rfl hl (by decide) rfl (fun ls hl => ?_)
    have hl : lv_has ls 4 [(3, .ref _), (0, .ref _), (1, .int _), (2, .int _)] := hl
    refine lv_aload_n hx hb dG_changeSharingAt_7 rfl (lv_at hl 0 rfl) ?_
    refine lv_ifnull hx hb dG_changeSharingAt_8 ?_
    refine lv_aload_n hx hb dG_changeSharingAt_11 rfl (lv_at hl 0 rfl) ?_
    refine s_get hx hb hw inP hown hK hH 1 (by decide) (hw _ (gwd_0 (List.mem_of_getElem? (i := 23) rfl))) (by first | exact ⟨rfl, rfl⟩ | exact ⟨by assumption, rfl⟩ | exact ⟨by assumption, by assumption⟩ | exact ⟨by omega, rfl⟩ | exact ⟨by omega, by omega⟩ | exact ⟨by decide, rfl⟩) rfl rfl rfl rfl dG_changeSharingAt_12 ?_
    refine lv_aload_n hx hb dG_changeSharingAt_15 rfl (lv_at hl 1 rfl) ?_
    refine s_get hx hb hw inG hown hK hH 0 (by decide) (hw _ (gwd_2 (List.mem_of_getElem? (i := 14) rfl))) (by first | exact ⟨rfl, rfl⟩ | exact ⟨by assumption, rfl⟩ | exact ⟨by assumption, by assumption⟩ | exact ⟨by omega, rfl⟩ | exact ⟨by omega, by omega⟩ | exact ⟨by decide, rfl⟩) rfl rfl rfl rfl dG_changeSharingAt_16 ?_
    refine lv_icmp_ne hx hb dG_changeSharingAt_19 rfl (fun h_3 => ?_) (fun h_3 => ?_)
    · skip
      refine lv_iconst (v := 0) hx hb dG_changeSharingAt_30 (by decide) ?_
      exact r_z hx hb hr hlk hK hH hS dG_changeSharingAt_31 (by first | exact Or.inl rfl | exact Or.inr rfl | exact bz_01 _ | assumption) (by simp [sChg, h_1, h_3])
    · skip
      refine lv_aload_n hx hb dG_changeSharingAt_22 rfl (lv_at hl 0 rfl) ?_
      refine s_get hx hb hw inP hown hK hH 4 (by decide) (hw _ (gwd_0 (List.mem_of_getElem? (i := 29) rfl))) (by first | exact ⟨rfl, rfl⟩ | exact ⟨by assumption, rfl⟩ | exact ⟨by assumption, by assumption⟩ | exact ⟨by omega, rfl⟩ | exact ⟨by omega, by omega⟩ | exact ⟨by decide, rfl⟩) rfl rfl rfl rfl dG_changeSharingAt_23 ?_
      refine lv_iload_n hx hb dG_changeSharingAt_26 rfl (lv_at hl 3 rfl) ?_
      refine lv_icmp_ne hx hb dG_changeSharingAt_27 rfl (fun h_4 => ?_) (fun h_4 => ?_)
      · skip
        refine lv_aload_n hx hb dG_changeSharingAt_32 rfl (lv_at hl 0 rfl) ?_
        refine lv_iload_n hx hb dG_changeSharingAt_33 rfl (lv_at hl 3 rfl) ?_
        refine s_cvE (va_runV (As := [.int _]) (rest := []) ⟨hx, hb, hml, hown, hw⟩ (c_P_changeSharing l  (by assumption) (by first | exact Or.inl rfl | exact Or.inr rfl | exact bz_01 _ | assumption)) (cwV 1 hw (gd_V (gwd_5 (List.mem_of_getElem? (i := 1) rfl)) (gwd_2 (List.mem_of_getElem? (i := 43) rfl)) (gwd_2 (List.mem_of_getElem? (i := 44) rfl)) (gwd_0 (List.mem_of_getElem? (i := 2) rfl)) (gwd_2 (List.mem_of_getElem? (i := 45) rfl))) rfl rfl rfl (by decide +kernel) ⟨Nat.le_of_ble_eq_true rfl, Nat.le_of_ble_eq_true rfl⟩) (gPre.V (n := (2, _, 0)) hK hH (by first | exact ⟨rfl, rfl⟩ | exact ⟨by assumption, rfl⟩ | exact ⟨by assumption, by assumption⟩ | exact ⟨by omega, rfl⟩ | exact ⟨by omega, by omega⟩ | exact ⟨by decide, rfl⟩) rfl rfl) rfl rfl hl.1 rfl (lv_room (Nat.le_of_ble_eq_true rfl)) dG_changeSharingAt_34 ⟨Nat.zero_le _, Nat.zero_le _⟩) hS (fun H locs hH hS => ?_)
        refine lv_iconst (v := 1) hx hb dG_changeSharingAt_37 (by decide) ?_
        exact r_z hx hb hr hlk hK hH hS dG_changeSharingAt_38 (by first | exact Or.inl rfl | exact Or.inr rfl | exact bz_01 _ | assumption) (by simp [sChg, h_1, h_3, h_4])
      · skip
        refine lv_iconst (v := 0) hx hb dG_changeSharingAt_30 (by decide) ?_
        exact r_z hx hb hr hlk hK hH hS dG_changeSharingAt_31 (by first | exact Or.inl rfl | exact Or.inr rfl | exact bz_01 _ | assumption) (by simp [sChg, h_1, h_3, h_4])
  · skip
    refine lv_astore_nN hx hb dG_changeSharingAt_6 rfl hl (by decide) rfl (fun ls hl => ?_)
    have hl : lv_has ls 4 [(3, .null), (0, .ref _), (1, .int _), (2, .int _)] := hl
    refine lv_aload_nN hx hb dG_changeSharingAt_7 rfl (lv_at hl 0 rfl) ?_
    refine lv_ifnullN hx hb dG_changeSharingAt_8 rfl ?_
    refine lv_iconst (v := 0) hx hb dG_changeSharingAt_30 (by decide) ?_
    exact r_z hx hb hr hlk hK hH hS dG_changeSharingAt_31 (by first | exact Or.inl rfl | exact Or.inr rfl | exact bz_01 _ | assumption) (by simp [sChg, h_1])
def sRemN (P : gP) (g q n : Nat) : gP := fun g' a => if g' = g ∧ a < n ∧ P g' a = some q then none else P g' a
theorem sRemN_0 {P : gP} {g q : Nat} : sRemN P g q 0 = P := by
  funext g' a
  simp [sRemN]
theorem sRemN_at {P : gP} {g q i : Nat} : sRemN P g q i g i = P g i := by simp [sRemN]
theorem sRemN_lt {P : gP} {g q n : Nat} (h : ∀ g a q, P g a = some q → q < 24) {g' a q' : Nat} (h1 : sRemN P g q n g' a = some q') : q' < 24 := by
  unfold sRemN at h1
  split at h1
  · cases h1
  · exact h _ _ _ h1
theorem sRemN_succ_ne {P : gP} {g q i : Nat} (h : ¬ P g i = some q) : sRemN P g q (i + 1) = sRemN P g q i := by
  funext g' a
  unfold sRemN
  by_cases hg : g' = g
  · subst hg
    by_cases ha : a = i
    · subst ha
      simp [h]
    · have : (a < i + 1) = (a < i) := by apply propext; omega
      simp [this]
  · simp [hg]
theorem sRemN_succ_eq {P : gP} {g q i : Nat} (h : P g i = some q) : sRemN P g q (i + 1) = pu (sRemN P g q i) g i none := by
  funext g' a
  rw [pu_at]
  unfold sRemN
  by_cases hg : g' = g
  · subst hg
    by_cases ha : a = i
    · subst ha
      simp [h]
    · have : (a < i + 1) = (a < i) := by apply propext; omega
      simp [this, ha]
  · simp [hg]
set_option maxHeartbeats 4000000 in
set_option maxRecDepth 100000 in
theorem c_G_removePage (l : Launch) {D : va_G} {c : Nat → ClassId} {sz : Nat} {ad : gN → Nat} {k : Nat} {I J : gI} {P : gP} {LG : Option Nat} {LP : Option (Nat × Nat)} {g q : Nat} (hg : g < k) (hq : q < 24) (hPl : ∀ g a q, P g a = some q → q < 24) : Met l yG_removePage wG_removePage { frames := 0, cells := 0, slots := 0, locals := 0 } (gPre D c sz [.ref (ad (6, g, 0)), .ref (ad (2, q, 0))] (ad, k, I, J, P, LG, LP)) (va_Qv (fun u => u = (ad, k, I, J, sRem P g q, LG, LP)) (gB D c sz) (gA sz)) 0 0 (gA sz) := by
  refine Met.ofW (cc := cG_removePage) (maxL := 3) (ret := none) (by decide) rfl ?_
  intro p e s m args below meth cd s₁ B hml hv
  obtain ⟨rfl, hK, hH⟩ := hv
  have hx := B.exec
  have hb := B.bytes
  have hr := B.returns
  have hts := atoms_spec (ws := wG_removePage) B.pre
  have hw : ∀ w ∈ gWd, w.before _ s = true := fun w h => hts w (List.mem_cons_of_mem _ h)
  have hown : s.vm.findClass RG = some m.cls := findClass_of_methodNamed B.named
  have hlk := B.notSynchronized
  have hS : va_S (gA sz) s.heap s.heap [] := va_S.rf
  have hH : gW D c sz ad k I J P LG LP s.heap := hH
  have hl := lv_entry ([.ref (ad (6, g, 0)), .ref (ad (2, q, 0))]) (n := 3) (Nat.le_of_ble_eq_true rfl)
  rw [lg_entry_eq]
  generalize (lg_sl ([.ref (ad (6, g, 0)), .ref (ad (2, q, 0))]) ++ List.replicate (3 - (lg_sl ([.ref (ad (6, g, 0)), .ref (ad (2, q, 0))])).length) Slot.unset).toArray = ls at hl ⊢
  have hl : lv_has ls 3 [(0, .ref (ad (6, g, 0))), (1, .ref (ad (2, q, 0)))] := hl
  have key : ∀ (n i : Nat), i + n = 64 → ∀ ls : Array Slot, lv_has ls 3 [(2, .int (nI i)), (0, .ref (ad (6, g, 0))), (1, .ref (ad (2, q, 0)))] → ∀ (H : Heap) (locs : List Loc), gW D c sz ad k I J (sRemN P g q i) LG LP H → va_S (gA sz) s.heap H locs → W p l e (headSpec wG_removePage { frames := 0, cells := 0, slots := 0, locals := 0 }).room s m ([.ref (ad (6, g, 0)), .ref (ad (2, q, 0))] : List Value).toArray below meth cd H locs 0 0 (MQ below (va_Qv (fun u => u = (ad, k, I, J, sRem P g q, LG, LP)) (gB D c sz) (gA sz)) ([.ref (ad (6, g, 0)), .ref (ad (2, q, 0))] : List Value).toArray s 0 0 (gA sz)) (F0 m 2 ls []) := by
    intro n
    induction n with
    | zero =>
      intro i hi ls hl H locs hH hS
      refine lv_iload_n hx hb dG_removePage_2 rfl (lv_at hl 0 rfl) ?_
      refine lv_bipush (v := 64) hx hb dG_removePage_3 (by decide) ?_
      refine lv_icmp_ge hx hb dG_removePage_5 rfl (fun h_1 => ?_) (fun h_1 => ?_)
      · skip
        exact r_v hx hb hr hlk hK hH hS dG_removePage_31 (by rw [show i = 64 by omega]; rfl)
      · exact absurd (show (64 : Int32) ≤ nI i from nI_le (a := 64) (by omega) (by omega)) h_1
    | succ n ih =>
      intro i hi ls hl H locs hH hS
      have hPl : ∀ g' a q', sRemN P g q i g' a = some q' → q' < 24 := fun g' a q' h => sRemN_lt hPl h
      refine lv_iload_n hx hb dG_removePage_2 rfl (lv_at hl 0 rfl) ?_
      refine lv_bipush (v := 64) hx hb dG_removePage_3 (by decide) ?_
      refine lv_icmp_ge hx hb dG_removePage_5 rfl (fun h_2 => ?_) (fun h_2 => ?_)
      · exact absurd h_2 (nI_ge (b := 64) (show i < 64 by omega) (by decide))
      · skip
        refine lv_aload_n hx hb dG_removePage_8 rfl (lv_at hl 1 rfl) ?_
        refine s_get hx hb hw inG hown hK hH 1 (by decide) (hw _ (gwd_2 (List.mem_of_getElem? (i := 15) rfl))) (by first | exact ⟨rfl, rfl⟩ | exact ⟨by assumption, rfl⟩ | exact ⟨by assumption, by assumption⟩ | exact ⟨by omega, rfl⟩ | exact ⟨by omega, by omega⟩ | exact ⟨by decide, rfl⟩) rfl rfl rfl rfl dG_removePage_9 ?_
        refine lv_iload_n hx hb dG_removePage_12 rfl (lv_at hl 0 rfl) ?_
        refine s_aaL hx hb hK hH (by first | assumption | decide | omega) _ (by first | rfl | assumption) (by omega) dG_removePage_13 (fun q_4 h_3 => ?_) (fun h_3 => ?_)
        · have hlt_q_4 : q_4 < 24 := hPl _ _ _ h_3
          refine lv_aload_n hx hb dG_removePage_14 rfl (lv_at hl 2 rfl) ?_
          refine lv_acmp_ne (rx := some _) (ry := some _) hx hb dG_removePage_15 rfl (fun h_5 => ?_) (fun h_5 => ?_)
          · rw [sRemN_at] at h_3
            refine lv_iinc (k := 0) (v := nI (i + 1)) hx hb dG_removePage_25 hl rfl (by rw [nI_succ]; rfl) (by decide) rfl (fun ls hl => ?_)
            have hl : lv_has ls 3 [(2, .int _), (0, .ref _), (1, .ref _)] := hl
            refine lv_goto hx hb dG_removePage_28 rfl ?_
            exact ih (i + 1) (by omega) ls (lv_sub hl [0, 1, 2] rfl) H locs (by rw [(sRemN_succ_ne (fun z => by rw [z] at h_3; cases h_3; exact h_5 rfl))]; exact hH) hS
          · have heq := gH.inj hH (n := (2, _, 0)) (n' := (2, q, 0)) ⟨by assumption, rfl⟩ ⟨by assumption, rfl⟩ (Option.some.inj h_5)
            cases heq
            rw [sRemN_at] at h_3
            refine lv_aload_n hx hb dG_removePage_18 rfl (lv_at hl 1 rfl) ?_
            refine s_get hx hb hw inG hown hK hH 1 (by decide) (hw _ (gwd_2 (List.mem_of_getElem? (i := 15) rfl))) (by first | exact ⟨rfl, rfl⟩ | exact ⟨by assumption, rfl⟩ | exact ⟨by assumption, by assumption⟩ | exact ⟨by omega, rfl⟩ | exact ⟨by omega, by omega⟩ | exact ⟨by decide, rfl⟩) rfl rfl rfl rfl dG_removePage_19 ?_
            refine lv_iload_n hx hb dG_removePage_22 rfl (lv_at hl 0 rfl) ?_
            refine lv_null hx hb dG_removePage_23 ?_
            refine s_asN hx hb hK hH hS (by first | assumption | decide | omega) _ (by first | rfl | assumption) (by omega) dG_removePage_24 (fun H locs hH hS => ?_)
            refine lv_iinc (k := 0) (v := nI (i + 1)) hx hb dG_removePage_25 hl rfl (by rw [nI_succ]; rfl) (by decide) rfl (fun ls hl => ?_)
            have hl : lv_has ls 3 [(2, .int _), (0, .ref _), (1, .ref _)] := hl
            refine lv_goto hx hb dG_removePage_28 rfl ?_
            exact ih (i + 1) (by omega) ls (lv_sub hl [0, 1, 2] rfl) H locs (by rw [(sRemN_succ_eq h_3)]; exact hH) hS
        · skip
          refine lv_aload_n hx hb dG_removePage_14 rfl (lv_at hl 2 rfl) ?_
          refine lv_acmp_ne (rx := none) (ry := some _) hx hb dG_removePage_15 rfl (fun h_6 => ?_) (fun h_6 => ?_)
          · skip
            refine lv_iinc (k := 0) (v := nI (i + 1)) hx hb dG_removePage_25 hl rfl (by rw [nI_succ]; rfl) (by decide) rfl (fun ls hl => ?_)
            have hl : lv_has ls 3 [(2, .int _), (0, .ref _), (1, .ref _)] := hl
            refine lv_goto hx hb dG_removePage_28 rfl ?_
            exact ih (i + 1) (by omega) ls (lv_sub hl [0, 1, 2] rfl) H locs (by rw [(sRemN_succ_ne (fun z => by rw [sRemN_at] at h_3; rw [z] at h_3; cases h_3))]; exact hH) hS
          · cases h_6
  refine lv_iconst (v := 0) hx hb dG_removePage_0 (by decide) ?_
  refine lv_istore_n hx hb dG_removePage_1 rfl hl (by decide) rfl (fun ls hl => ?_)
  have hl : lv_has ls 3 [(2, .int _), (0, .ref _), (1, .ref _)] := hl
  exact key 64 0 (by omega) ls (lv_sub hl [0, 1, 2] rfl) s.heap [] (by rw [sRemN_0]; exact hH) hS
