set_option maxHeartbeats 4000000 in
set_option maxRecDepth 100000 in
theorem c_P_wipe (l : Launch) {D : va_G} {c : Nat → ClassId} {sz : Nat} {ad : gN → Nat} {k : Nat} {I J : gI} {P : gP} {LG : Option Nat} {LP : Option (Nat × Nat)} {q : Nat} (hq : q < 24) : Met l yP_wipe wP_wipe { frames := 0, cells := 0, slots := 0, locals := 0 } (gPre D c sz [.ref (ad (2, q, 0))] (ad, k, I, J, P, LG, LP)) (va_Qv (fun u => u = (ad, k, sWipe I q, J, P, LG, LP)) (gB D c sz) (gA sz)) 0 0 (gA sz) := by
  refine Met.ofW (cc := cP_wipe) (maxL := 2) (ret := none) (by decide) rfl ?_
  intro p e s m args below meth cd s₁ B hml hv
  obtain ⟨rfl, hK, hH⟩ := hv
  have hx := B.exec
  have hb := B.bytes
  have hr := B.returns
  have hts := atoms_spec (ws := wP_wipe) B.pre
  have hw : ∀ w ∈ gWd, w.before _ s = true := fun w h => hts w (List.mem_cons_of_mem _ h)
  have hown : s.vm.findClass RP = some m.cls := findClass_of_methodNamed B.named
  have hlk := B.notSynchronized
  have hS : va_S (gA sz) s.heap s.heap [] := va_S.rf
  have hH : gW D c sz ad k I J P LG LP s.heap := hH
  have hl := lv_entry ([.ref (ad (2, q, 0))]) (n := 2) (Nat.le_of_ble_eq_true rfl)
  rw [lg_entry_eq]
  generalize (lg_sl ([.ref (ad (2, q, 0))]) ++ List.replicate (2 - (lg_sl ([.ref (ad (2, q, 0))])).length) Slot.unset).toArray = ls at hl ⊢
  have hl : lv_has ls 2 [(0, .ref (ad (2, q, 0)))] := hl
  refine lv_iconst (v := 0) hx hb dP_wipe_0 (by decide) ?_
  refine lv_istore_n hx hb dP_wipe_1 rfl hl (by decide) rfl (fun ls hl => ?_)
  have hl : lv_has ls 2 [(1, .int _), (0, .ref _)] := hl
  refine lv_iload_n hx hb dP_wipe_2 rfl (lv_at hl 0 rfl) ?_
  refine lv_iconst (v := 4) hx hb dP_wipe_3 (by decide) ?_
  refine lv_icmp_ge hx hb dP_wipe_4 rfl (fun h_1 => ?_) (fun h_1 => ?_)
  · exact absurd h_1 (by decide)
  · skip
    refine lv_aload_n hx hb dP_wipe_7 rfl (lv_at hl 1 rfl) ?_
    refine s_get hx hb hw inP hown hK hH 0 (by decide) (hw _ (gwd_0 (List.mem_of_getElem? (i := 19) rfl))) (by first | exact ⟨rfl, rfl⟩ | exact ⟨by assumption, rfl⟩ | exact ⟨by assumption, by assumption⟩ | exact ⟨by omega, rfl⟩ | exact ⟨by omega, by omega⟩ | exact ⟨by decide, rfl⟩) rfl rfl rfl rfl dP_wipe_8 ?_
    refine lv_iload_n hx hb dP_wipe_11 rfl (lv_at hl 0 rfl) ?_
    refine lv_iconst (v := 0) hx hb dP_wipe_12 (by decide) ?_
    refine s_iast hx hb hK hH hS (by first | exact ⟨rfl, rfl⟩ | exact ⟨by assumption, rfl⟩ | exact ⟨by assumption, by assumption⟩ | exact ⟨by omega, rfl⟩ | exact ⟨by omega, by omega⟩ | exact ⟨by decide, rfl⟩) rfl 0 rfl (by first | assumption | decide | omega) (by decide) rfl dP_wipe_13 (fun H locs hH hS => ?_)
    refine lv_iinc (k := 0) (v := 1) hx hb dP_wipe_14 hl rfl (by decide) (by decide) rfl (fun ls hl => ?_)
    have hl : lv_has ls 2 [(1, .int _), (0, .ref _)] := hl
    refine lv_goto hx hb dP_wipe_17 rfl ?_
    refine lv_iload_n hx hb dP_wipe_2 rfl (lv_at hl 0 rfl) ?_
    refine lv_iconst (v := 4) hx hb dP_wipe_3 (by decide) ?_
    refine lv_icmp_ge hx hb dP_wipe_4 rfl (fun h_2 => ?_) (fun h_2 => ?_)
    · exact absurd h_2 (by decide)
    · skip
      refine lv_aload_n hx hb dP_wipe_7 rfl (lv_at hl 1 rfl) ?_
      refine s_get hx hb hw inP hown hK hH 0 (by decide) (hw _ (gwd_0 (List.mem_of_getElem? (i := 19) rfl))) (by first | exact ⟨rfl, rfl⟩ | exact ⟨by assumption, rfl⟩ | exact ⟨by assumption, by assumption⟩ | exact ⟨by omega, rfl⟩ | exact ⟨by omega, by omega⟩ | exact ⟨by decide, rfl⟩) rfl rfl rfl rfl dP_wipe_8 ?_
      refine lv_iload_n hx hb dP_wipe_11 rfl (lv_at hl 0 rfl) ?_
      refine lv_iconst (v := 0) hx hb dP_wipe_12 (by decide) ?_
      refine s_iast hx hb hK hH hS (by first | exact ⟨rfl, rfl⟩ | exact ⟨by assumption, rfl⟩ | exact ⟨by assumption, by assumption⟩ | exact ⟨by omega, rfl⟩ | exact ⟨by omega, by omega⟩ | exact ⟨by decide, rfl⟩) rfl 1 rfl (by first | assumption | decide | omega) (by decide) rfl dP_wipe_13 (fun H locs hH hS => ?_)
      refine lv_iinc (k := 0) (v := 2) hx hb dP_wipe_14 hl rfl (by decide) (by decide) rfl (fun ls hl => ?_)
      have hl : lv_has ls 2 [(1, .int _), (0, .ref _)] := hl
      refine lv_goto hx hb dP_wipe_17 rfl ?_
      refine lv_iload_n hx hb dP_wipe_2 rfl (lv_at hl 0 rfl) ?_
      refine lv_iconst (v := 4) hx hb dP_wipe_3 (by decide) ?_
      refine lv_icmp_ge hx hb dP_wipe_4 rfl (fun h_3 => ?_) (fun h_3 => ?_)
      · exact absurd h_3 (by decide)
      · skip
        refine lv_aload_n hx hb dP_wipe_7 rfl (lv_at hl 1 rfl) ?_
        refine s_get hx hb hw inP hown hK hH 0 (by decide) (hw _ (gwd_0 (List.mem_of_getElem? (i := 19) rfl))) (by first | exact ⟨rfl, rfl⟩ | exact ⟨by assumption, rfl⟩ | exact ⟨by assumption, by assumption⟩ | exact ⟨by omega, rfl⟩ | exact ⟨by omega, by omega⟩ | exact ⟨by decide, rfl⟩) rfl rfl rfl rfl dP_wipe_8 ?_
        refine lv_iload_n hx hb dP_wipe_11 rfl (lv_at hl 0 rfl) ?_
        refine lv_iconst (v := 0) hx hb dP_wipe_12 (by decide) ?_
        refine s_iast hx hb hK hH hS (by first | exact ⟨rfl, rfl⟩ | exact ⟨by assumption, rfl⟩ | exact ⟨by assumption, by assumption⟩ | exact ⟨by omega, rfl⟩ | exact ⟨by omega, by omega⟩ | exact ⟨by decide, rfl⟩) rfl 2 rfl (by first | assumption | decide | omega) (by decide) rfl dP_wipe_13 (fun H locs hH hS => ?_)
        refine lv_iinc (k := 0) (v := 3) hx hb dP_wipe_14 hl rfl (by decide) (by decide) rfl (fun ls hl => ?_)
        have hl : lv_has ls 2 [(1, .int _), (0, .ref _)] := hl
        refine lv_goto hx hb dP_wipe_17 rfl ?_
        refine lv_iload_n hx hb dP_wipe_2 rfl (lv_at hl 0 rfl) ?_
        refine lv_iconst (v := 4) hx hb dP_wipe_3 (by decide) ?_
        refine lv_icmp_ge hx hb dP_wipe_4 rfl (fun h_4 => ?_) (fun h_4 => ?_)
        · exact absurd h_4 (by decide)
        · skip
          refine lv_aload_n hx hb dP_wipe_7 rfl (lv_at hl 1 rfl) ?_
          refine s_get hx hb hw inP hown hK hH 0 (by decide) (hw _ (gwd_0 (List.mem_of_getElem? (i := 19) rfl))) (by first | exact ⟨rfl, rfl⟩ | exact ⟨by assumption, rfl⟩ | exact ⟨by assumption, by assumption⟩ | exact ⟨by omega, rfl⟩ | exact ⟨by omega, by omega⟩ | exact ⟨by decide, rfl⟩) rfl rfl rfl rfl dP_wipe_8 ?_
          refine lv_iload_n hx hb dP_wipe_11 rfl (lv_at hl 0 rfl) ?_
          refine lv_iconst (v := 0) hx hb dP_wipe_12 (by decide) ?_
          refine s_iast hx hb hK hH hS (by first | exact ⟨rfl, rfl⟩ | exact ⟨by assumption, rfl⟩ | exact ⟨by assumption, by assumption⟩ | exact ⟨by omega, rfl⟩ | exact ⟨by omega, by omega⟩ | exact ⟨by decide, rfl⟩) rfl 3 rfl (by first | assumption | decide | omega) (by decide) rfl dP_wipe_13 (fun H locs hH hS => ?_)
          refine lv_iinc (k := 0) (v := 4) hx hb dP_wipe_14 hl rfl (by decide) (by decide) rfl (fun ls hl => ?_)
          have hl : lv_has ls 2 [(1, .int _), (0, .ref _)] := hl
          refine lv_goto hx hb dP_wipe_17 rfl ?_
          refine lv_iload_n hx hb dP_wipe_2 rfl (lv_at hl 0 rfl) ?_
          refine lv_iconst (v := 4) hx hb dP_wipe_3 (by decide) ?_
          refine lv_icmp_ge hx hb dP_wipe_4 rfl (fun h_5 => ?_) (fun h_5 => ?_)
          · skip
            exact r_v hx hb hr hlk hK hH hS dP_wipe_20 (rfl)
          · exact absurd h_5 (by decide)
set_option maxHeartbeats 4000000 in
set_option maxRecDepth 100000 in
theorem c_P_isOpenToHost (l : Launch) {D : va_G} {c : Nat → ClassId} {sz : Nat} {ad : gN → Nat} {k : Nat} {I J : gI} {P : gP} {LG : Option Nat} {LP : Option (Nat × Nat)} {q : Nat} (hq : q < 24) : Met l yP_isOpenToHost wP_isOpenToHost { frames := 0, cells := 0, slots := 0, locals := 0 } (gPre D c sz [.ref (ad (2, q, 0))] (ad, k, I, J, P, LG, LP)) (va_Qi (fun r u => r = bz (sOpen I q) ∧ u = (ad, k, I, J, P, LG, LP)) (gB D c sz) (gA sz)) 0 0 (gA sz) := by
  refine Met.ofW (cc := cP_isOpenToHost) (maxL := 1) (ret := (some .boolean)) (by decide) rfl ?_
  intro p e s m args below meth cd s₁ B hml hv
  obtain ⟨rfl, hK, hH⟩ := hv
  have hx := B.exec
  have hb := B.bytes
  have hr := B.returns
  have hts := atoms_spec (ws := wP_isOpenToHost) B.pre
  have hw : ∀ w ∈ gWd, w.before _ s = true := fun w h => hts w (List.mem_cons_of_mem _ h)
  have hown : s.vm.findClass RP = some m.cls := findClass_of_methodNamed B.named
  have hlk := B.notSynchronized
  have hS : va_S (gA sz) s.heap s.heap [] := va_S.rf
  have hH : gW D c sz ad k I J P LG LP s.heap := hH
  have hl := lv_entry ([.ref (ad (2, q, 0))]) (n := 1) (Nat.le_of_ble_eq_true rfl)
  rw [lg_entry_eq]
  generalize (lg_sl ([.ref (ad (2, q, 0))]) ++ List.replicate (1 - (lg_sl ([.ref (ad (2, q, 0))])).length) Slot.unset).toArray = ls at hl ⊢
  have hl : lv_has ls 1 [(0, .ref (ad (2, q, 0)))] := hl
  refine lv_aload_n hx hb dP_isOpenToHost_0 rfl (lv_at hl 0 rfl) ?_
  refine s_get hx hb hw inP hown hK hH 1 (by decide) (hw _ (gwd_0 (List.mem_of_getElem? (i := 22) rfl))) (by first | exact ⟨rfl, rfl⟩ | exact ⟨by assumption, rfl⟩ | exact ⟨by assumption, by assumption⟩ | exact ⟨by omega, rfl⟩ | exact ⟨by omega, by omega⟩ | exact ⟨by decide, rfl⟩) rfl rfl rfl rfl dP_isOpenToHost_1 ?_
  refine lv_if_eq hx hb dP_isOpenToHost_4 rfl (fun h_1 => ?_) (fun h_1 => ?_)
  · skip
    refine lv_iconst (v := 1) hx hb dP_isOpenToHost_14 (by decide) ?_
    refine lv_goto hx hb dP_isOpenToHost_15 rfl ?_
    exact r_z hx hb hr hlk hK hH hS dP_isOpenToHost_19 (by first | exact Or.inl rfl | exact Or.inr rfl | exact bz_01 _ | assumption) (⟨by simp [bz, h_1], rfl⟩)
  · skip
    refine lv_aload_n hx hb dP_isOpenToHost_7 rfl (lv_at hl 0 rfl) ?_
    refine s_get hx hb hw inP hown hK hH 4 (by decide) (hw _ (gwd_0 (List.mem_of_getElem? (i := 28) rfl))) (by first | exact ⟨rfl, rfl⟩ | exact ⟨by assumption, rfl⟩ | exact ⟨by assumption, by assumption⟩ | exact ⟨by omega, rfl⟩ | exact ⟨by omega, by omega⟩ | exact ⟨by decide, rfl⟩) rfl rfl rfl rfl dP_isOpenToHost_8 ?_
    refine lv_if_eq hx hb dP_isOpenToHost_11 rfl (fun h_2 => ?_) (fun h_2 => ?_)
    · skip
      refine lv_iconst (v := 0) hx hb dP_isOpenToHost_18 (by decide) ?_
      exact r_z hx hb hr hlk hK hH hS dP_isOpenToHost_19 (by first | exact Or.inl rfl | exact Or.inr rfl | exact bz_01 _ | assumption) (⟨by simp [bz, h_1, h_2], rfl⟩)
    · skip
      refine lv_iconst (v := 1) hx hb dP_isOpenToHost_14 (by decide) ?_
      refine lv_goto hx hb dP_isOpenToHost_15 rfl ?_
      exact r_z hx hb hr hlk hK hH hS dP_isOpenToHost_19 (by first | exact Or.inl rfl | exact Or.inr rfl | exact bz_01 _ | assumption) (⟨by simp [bz, h_1, h_2], rfl⟩)
set_option maxHeartbeats 4000000 in
set_option maxRecDepth 100000 in
theorem c_P_changeSharing (l : Launch) {D : va_G} {c : Nat → ClassId} {sz : Nat} {ad : gN → Nat} {k : Nat} {I J : gI} {P : gP} {LG : Option Nat} {LP : Option (Nat × Nat)} {q : Nat} {x : Int32} (hq : q < 24) (hx1 : x = 0 ∨ x = 1) : Met l yP_changeSharing wP_changeSharing { frames := 1, cells := 0, slots := 0, locals := 20 } (gPre D c sz [.ref (ad (2, q, 0)), .int x] (ad, k, I, J, P, LG, LP)) (va_Qv (fun u => u = (ad, k, sShare I q x, J, P, LG, LP)) (gB D c sz) (gA sz)) 0 0 (gA sz) := by
  refine Met.ofW (cc := cP_changeSharing) (maxL := 2) (ret := none) (by decide) rfl ?_
  intro p e s m args below meth cd s₁ B hml hv
  obtain ⟨rfl, hK, hH⟩ := hv
  have hx := B.exec
  have hb := B.bytes
  have hr := B.returns
  have hts := atoms_spec (ws := wP_changeSharing) B.pre
  have hw : ∀ w ∈ gWd, w.before _ s = true := fun w h => hts w (List.mem_cons_of_mem _ h)
  have hown : s.vm.findClass RP = some m.cls := findClass_of_methodNamed B.named
  have hlk := B.notSynchronized
  have hS : va_S (gA sz) s.heap s.heap [] := va_S.rf
  have hH : gW D c sz ad k I J P LG LP s.heap := hH
  have hl := lv_entry ([.ref (ad (2, q, 0)), .int x]) (n := 2) (Nat.le_of_ble_eq_true rfl)
  rw [lg_entry_eq]
  generalize (lg_sl ([.ref (ad (2, q, 0)), .int x]) ++ List.replicate (2 - (lg_sl ([.ref (ad (2, q, 0)), .int x])).length) Slot.unset).toArray = ls at hl ⊢
  have hl : lv_has ls 2 [(0, .ref (ad (2, q, 0))), (1, .int x)] := hl
  refine lv_aload_n hx hb dP_changeSharing_0 rfl (lv_at hl 0 rfl) ?_
  refine lv_iload_n hx hb dP_changeSharing_1 rfl (lv_at hl 1 rfl) ?_
  refine s_put hx hb hw inP tyP_ok nP hown hK hH hS 4 (by decide) (hw _ (gwd_0 (List.mem_of_getElem? (i := 28) rfl))) (by first | exact ⟨rfl, rfl⟩ | exact ⟨by assumption, rfl⟩ | exact ⟨by assumption, by assumption⟩ | exact ⟨by omega, rfl⟩ | exact ⟨by omega, by omega⟩ | exact ⟨by decide, rfl⟩) rfl rfl rfl rfl rfl (nar01 (by first | exact Or.inl rfl | exact Or.inr rfl | exact bz_01 _ | assumption)) (fit01 (by first | exact Or.inl rfl | exact Or.inr rfl | exact bz_01 _ | assumption)) (Nat.le_of_ble_eq_true rfl) rfl dP_changeSharing_2 (fun H locs hH hS => ?_)
  refine lv_aload_n hx hb dP_changeSharing_5 rfl (lv_at hl 0 rfl) ?_
  refine s_ciE (va_runV (As := []) (rest := []) ⟨hx, hb, hml, hown, hw⟩ (c_P_isOpenToHost l  (by first | assumption | omega | decide)) (cwV 0 hw (gd_V (gwd_2 (List.mem_of_getElem? (i := 46) rfl)) (gwd_1 (List.mem_of_getElem? (i := 23) rfl)) (gwd_1 (List.mem_of_getElem? (i := 24) rfl)) (gwd_0 (List.mem_of_getElem? (i := 2) rfl)) (gwd_1 (List.mem_of_getElem? (i := 25) rfl))) rfl rfl rfl (by decide +kernel) ⟨Nat.le_of_ble_eq_true rfl, Nat.le_of_ble_eq_true rfl⟩) (gPre.V (n := (2, _, 0)) hK hH (by first | exact ⟨rfl, rfl⟩ | exact ⟨by assumption, rfl⟩ | exact ⟨by assumption, by assumption⟩ | exact ⟨by omega, rfl⟩ | exact ⟨by omega, by omega⟩ | exact ⟨by decide, rfl⟩) rfl rfl) rfl rfl hl.1 rfl (lv_room (Nat.le_of_ble_eq_true rfl)) dP_changeSharing_6 ⟨Nat.zero_le _, Nat.zero_le _⟩) hS (fun H locs hH hS => ?_)
  refine s_ifne hx hb dP_changeSharing_9 rfl (fun h_1 => ?_) (fun h_1 => ?_)
  · skip
    exact r_v hx hb hr hlk hK hH hS dP_changeSharing_17 (by simp only [sShare, h_1, if_true, if_false])
  · skip
    refine lv_aload_n hx hb dP_changeSharing_12 rfl (lv_at hl 0 rfl) ?_
    refine lv_iconst (v := 0) hx hb dP_changeSharing_13 (by decide) ?_
    refine s_put hx hb hw inP tyP_ok nP hown hK hH hS 5 (by decide) (hw _ (gwd_0 (List.mem_of_getElem? (i := 31) rfl))) (by first | exact ⟨rfl, rfl⟩ | exact ⟨by assumption, rfl⟩ | exact ⟨by assumption, by assumption⟩ | exact ⟨by omega, rfl⟩ | exact ⟨by omega, by omega⟩ | exact ⟨by decide, rfl⟩) rfl rfl rfl rfl rfl (nar01 (by first | exact Or.inl rfl | exact Or.inr rfl | exact bz_01 _ | assumption)) (fit01 (by first | exact Or.inl rfl | exact Or.inr rfl | exact bz_01 _ | assumption)) (Nat.le_of_ble_eq_true rfl) rfl dP_changeSharing_14 (fun H locs hH hS => ?_)
    exact r_v hx hb hr hlk hK hH hS dP_changeSharing_17 (by simp only [sShare, h_1, if_true, if_false])
set_option maxHeartbeats 4000000 in
set_option maxRecDepth 100000 in
theorem c_P_changeOwner (l : Launch) {D : va_G} {c : Nat → ClassId} {sz : Nat} {ad : gN → Nat} {k : Nat} {I J : gI} {P : gP} {LG : Option Nat} {LP : Option (Nat × Nat)} {q : Nat} {x : Int32} (hq : q < 24) : Met l yP_changeOwner wP_changeOwner { frames := 2, cells := 0, slots := 0, locals := 41 } (gPre D c sz [.ref (ad (2, q, 0)), .int x] (ad, k, I, J, P, LG, LP)) (va_Qv (fun u => u = (ad, k, sOwn I q x, J, P, LG, LP)) (gB D c sz) (gA sz)) 0 0 (gA sz) := by
  refine Met.ofW (cc := cP_changeOwner) (maxL := 2) (ret := none) (by decide) rfl ?_
  intro p e s m args below meth cd s₁ B hml hv
  obtain ⟨rfl, hK, hH⟩ := hv
  have hx := B.exec
  have hb := B.bytes
  have hr := B.returns
  have hts := atoms_spec (ws := wP_changeOwner) B.pre
  have hw : ∀ w ∈ gWd, w.before _ s = true := fun w h => hts w (List.mem_cons_of_mem _ h)
  have hown : s.vm.findClass RP = some m.cls := findClass_of_methodNamed B.named
  have hlk := B.notSynchronized
  have hS : va_S (gA sz) s.heap s.heap [] := va_S.rf
  have hH : gW D c sz ad k I J P LG LP s.heap := hH
  have hl := lv_entry ([.ref (ad (2, q, 0)), .int x]) (n := 2) (Nat.le_of_ble_eq_true rfl)
  rw [lg_entry_eq]
  generalize (lg_sl ([.ref (ad (2, q, 0)), .int x]) ++ List.replicate (2 - (lg_sl ([.ref (ad (2, q, 0)), .int x])).length) Slot.unset).toArray = ls at hl ⊢
  have hl : lv_has ls 2 [(0, .ref (ad (2, q, 0))), (1, .int x)] := hl
  refine lv_aload_n hx hb dP_changeOwner_0 rfl (lv_at hl 0 rfl) ?_
  refine lv_iload_n hx hb dP_changeOwner_1 rfl (lv_at hl 1 rfl) ?_
  refine s_put hx hb hw inP tyP_ok nP hown hK hH hS 1 (by decide) (hw _ (gwd_0 (List.mem_of_getElem? (i := 22) rfl))) (by first | exact ⟨rfl, rfl⟩ | exact ⟨by assumption, rfl⟩ | exact ⟨by assumption, by assumption⟩ | exact ⟨by omega, rfl⟩ | exact ⟨by omega, by omega⟩ | exact ⟨by decide, rfl⟩) rfl rfl rfl rfl rfl rfl rfl (Nat.le_of_ble_eq_true rfl) rfl dP_changeOwner_2 (fun H locs hH hS => ?_)
  refine lv_aload_n hx hb dP_changeOwner_5 rfl (lv_at hl 0 rfl) ?_
  refine lv_iconst (v := 0) hx hb dP_changeOwner_6 (by decide) ?_
  refine s_put hx hb hw inP tyP_ok nP hown hK hH hS 3 (by decide) (hw _ (gwd_0 (List.mem_of_getElem? (i := 27) rfl))) (by first | exact ⟨rfl, rfl⟩ | exact ⟨by assumption, rfl⟩ | exact ⟨by assumption, by assumption⟩ | exact ⟨by omega, rfl⟩ | exact ⟨by omega, by omega⟩ | exact ⟨by decide, rfl⟩) rfl rfl rfl rfl rfl rfl rfl (Nat.le_of_ble_eq_true rfl) rfl dP_changeOwner_7 (fun H locs hH hS => ?_)
  refine lv_aload_n hx hb dP_changeOwner_10 rfl (lv_at hl 0 rfl) ?_
  refine lv_iconst (v := 0) hx hb dP_changeOwner_11 (by decide) ?_
  refine s_cvE (va_runV (As := [.int _]) (rest := []) ⟨hx, hb, hml, hown, hw⟩ (c_P_changeSharing l  (by assumption) (by first | exact Or.inl rfl | exact Or.inr rfl | exact bz_01 _ | assumption)) (cwV 1 hw (gd_V (gwd_2 (List.mem_of_getElem? (i := 42) rfl)) (gwd_2 (List.mem_of_getElem? (i := 43) rfl)) (gwd_2 (List.mem_of_getElem? (i := 44) rfl)) (gwd_0 (List.mem_of_getElem? (i := 2) rfl)) (gwd_2 (List.mem_of_getElem? (i := 45) rfl))) rfl rfl rfl (by decide +kernel) ⟨Nat.le_of_ble_eq_true rfl, Nat.le_of_ble_eq_true rfl⟩) (gPre.V (n := (2, _, 0)) hK hH (by first | exact ⟨rfl, rfl⟩ | exact ⟨by assumption, rfl⟩ | exact ⟨by assumption, by assumption⟩ | exact ⟨by omega, rfl⟩ | exact ⟨by omega, by omega⟩ | exact ⟨by decide, rfl⟩) rfl rfl) rfl rfl hl.1 rfl (lv_room (Nat.le_of_ble_eq_true rfl)) dP_changeOwner_12 ⟨Nat.zero_le _, Nat.zero_le _⟩) hS (fun H locs hH hS => ?_)
  exact r_v hx hb hr hlk hK hH hS dP_changeOwner_15 (rfl)
set_option maxHeartbeats 4000000 in
set_option maxRecDepth 100000 in
theorem c_P_becomeKeepers (l : Launch) {D : va_G} {c : Nat → ClassId} {sz : Nat} {ad : gN → Nat} {k : Nat} {I J : gI} {P : gP} {LG : Option Nat} {LP : Option (Nat × Nat)} {q : Nat} {x : Int32} (hq : q < 24) : Met l yP_becomeKeepers wP_becomeKeepers { frames := 3, cells := 0, slots := 0, locals := 62 } (gPre D c sz [.ref (ad (2, q, 0)), .int x] (ad, k, I, J, P, LG, LP)) (va_Qv (fun u => u = (ad, k, sKeep I q x, J, P, LG, LP)) (gB D c sz) (gA sz)) 0 0 (gA sz) := by
  refine Met.ofW (cc := cP_becomeKeepers) (maxL := 2) (ret := none) (by decide) rfl ?_
  intro p e s m args below meth cd s₁ B hml hv
  obtain ⟨rfl, hK, hH⟩ := hv
  have hx := B.exec
  have hb := B.bytes
  have hr := B.returns
  have hts := atoms_spec (ws := wP_becomeKeepers) B.pre
  have hw : ∀ w ∈ gWd, w.before _ s = true := fun w h => hts w (List.mem_cons_of_mem _ h)
  have hown : s.vm.findClass RP = some m.cls := findClass_of_methodNamed B.named
  have hlk := B.notSynchronized
  have hS : va_S (gA sz) s.heap s.heap [] := va_S.rf
  have hH : gW D c sz ad k I J P LG LP s.heap := hH
  have hl := lv_entry ([.ref (ad (2, q, 0)), .int x]) (n := 2) (Nat.le_of_ble_eq_true rfl)
  rw [lg_entry_eq]
  generalize (lg_sl ([.ref (ad (2, q, 0)), .int x]) ++ List.replicate (2 - (lg_sl ([.ref (ad (2, q, 0)), .int x])).length) Slot.unset).toArray = ls at hl ⊢
  have hl : lv_has ls 2 [(0, .ref (ad (2, q, 0))), (1, .int x)] := hl
  refine lv_aload_n hx hb dP_becomeKeepers_0 rfl (lv_at hl 0 rfl) ?_
  refine s_cvE (va_runV (As := []) (rest := []) ⟨hx, hb, hml, hown, hw⟩ (c_P_wipe l  (by first | assumption | omega | decide)) (cwV 0 hw (gd_V (gwd_2 (List.mem_of_getElem? (i := 34) rfl)) (gwd_2 (List.mem_of_getElem? (i := 35) rfl)) (gwd_2 (List.mem_of_getElem? (i := 36) rfl)) (gwd_0 (List.mem_of_getElem? (i := 2) rfl)) (gwd_2 (List.mem_of_getElem? (i := 37) rfl))) rfl rfl rfl (by decide +kernel) ⟨Nat.le_of_ble_eq_true rfl, Nat.le_of_ble_eq_true rfl⟩) (gPre.V (n := (2, _, 0)) hK hH (by first | exact ⟨rfl, rfl⟩ | exact ⟨by assumption, rfl⟩ | exact ⟨by assumption, by assumption⟩ | exact ⟨by omega, rfl⟩ | exact ⟨by omega, by omega⟩ | exact ⟨by decide, rfl⟩) rfl rfl) rfl rfl hl.1 rfl (lv_room (Nat.le_of_ble_eq_true rfl)) dP_becomeKeepers_1 ⟨Nat.zero_le _, Nat.zero_le _⟩) hS (fun H locs hH hS => ?_)
  refine lv_aload_n hx hb dP_becomeKeepers_4 rfl (lv_at hl 0 rfl) ?_
  refine lv_bipush (v := 7) hx hb dP_becomeKeepers_5 (by decide) ?_
  refine s_cvE (va_runV (As := [.int _]) (rest := []) ⟨hx, hb, hml, hown, hw⟩ (c_P_changeOwner l  (by first | assumption | omega | decide)) (cwV 1 hw (gd_V (gwd_2 (List.mem_of_getElem? (i := 38) rfl)) (gwd_2 (List.mem_of_getElem? (i := 39) rfl)) (gwd_2 (List.mem_of_getElem? (i := 40) rfl)) (gwd_0 (List.mem_of_getElem? (i := 2) rfl)) (gwd_2 (List.mem_of_getElem? (i := 41) rfl))) rfl rfl rfl (by decide +kernel) ⟨Nat.le_of_ble_eq_true rfl, Nat.le_of_ble_eq_true rfl⟩) (gPre.V (n := (2, _, 0)) hK hH (by first | exact ⟨rfl, rfl⟩ | exact ⟨by assumption, rfl⟩ | exact ⟨by assumption, by assumption⟩ | exact ⟨by omega, rfl⟩ | exact ⟨by omega, by omega⟩ | exact ⟨by decide, rfl⟩) rfl rfl) rfl rfl hl.1 rfl (lv_room (Nat.le_of_ble_eq_true rfl)) dP_becomeKeepers_7 ⟨Nat.zero_le _, Nat.zero_le _⟩) hS (fun H locs hH hS => ?_)
  refine lv_aload_n hx hb dP_becomeKeepers_10 rfl (lv_at hl 0 rfl) ?_
  refine lv_iload_n hx hb dP_becomeKeepers_11 rfl (lv_at hl 1 rfl) ?_
  refine s_put hx hb hw inP tyP_ok nP hown hK hH hS 3 (by decide) (hw _ (gwd_0 (List.mem_of_getElem? (i := 27) rfl))) (by first | exact ⟨rfl, rfl⟩ | exact ⟨by assumption, rfl⟩ | exact ⟨by assumption, by assumption⟩ | exact ⟨by omega, rfl⟩ | exact ⟨by omega, by omega⟩ | exact ⟨by decide, rfl⟩) rfl rfl rfl rfl rfl rfl rfl (Nat.le_of_ble_eq_true rfl) rfl dP_becomeKeepers_12 (fun H locs hH hS => ?_)
  exact r_v hx hb hr hlk hK hH hS dP_becomeKeepers_15 (rfl)
set_option maxHeartbeats 4000000 in
set_option maxRecDepth 100000 in
theorem c_P_loseGuest (l : Launch) {D : va_G} {c : Nat → ClassId} {sz : Nat} {ad : gN → Nat} {k : Nat} {I J : gI} {P : gP} {LG : Option Nat} {LP : Option (Nat × Nat)} {q : Nat} {x : Int32} (hq : q < 24) : Met l yP_loseGuest wP_loseGuest { frames := 3, cells := 0, slots := 0, locals := 62 } (gPre D c sz [.ref (ad (2, q, 0)), .int x] (ad, k, I, J, P, LG, LP)) (va_Qv (fun u => u = (ad, k, sLose I q x, J, P, LG, LP)) (gB D c sz) (gA sz)) 0 0 (gA sz) := by
  refine Met.ofW (cc := cP_loseGuest) (maxL := 2) (ret := none) (by decide) rfl ?_
  intro p e s m args below meth cd s₁ B hml hv
  obtain ⟨rfl, hK, hH⟩ := hv
  have hx := B.exec
  have hb := B.bytes
  have hr := B.returns
  have hts := atoms_spec (ws := wP_loseGuest) B.pre
  have hw : ∀ w ∈ gWd, w.before _ s = true := fun w h => hts w (List.mem_cons_of_mem _ h)
  have hown : s.vm.findClass RP = some m.cls := findClass_of_methodNamed B.named
  have hlk := B.notSynchronized
  have hS : va_S (gA sz) s.heap s.heap [] := va_S.rf
  have hH : gW D c sz ad k I J P LG LP s.heap := hH
  have hl := lv_entry ([.ref (ad (2, q, 0)), .int x]) (n := 2) (Nat.le_of_ble_eq_true rfl)
  rw [lg_entry_eq]
  generalize (lg_sl ([.ref (ad (2, q, 0)), .int x]) ++ List.replicate (2 - (lg_sl ([.ref (ad (2, q, 0)), .int x])).length) Slot.unset).toArray = ls at hl ⊢
  have hl : lv_has ls 2 [(0, .ref (ad (2, q, 0))), (1, .int x)] := hl
  refine lv_aload_n hx hb dP_loseGuest_0 rfl (lv_at hl 0 rfl) ?_
  refine s_get hx hb hw inP hown hK hH 1 (by decide) (hw _ (gwd_0 (List.mem_of_getElem? (i := 22) rfl))) (by first | exact ⟨rfl, rfl⟩ | exact ⟨by assumption, rfl⟩ | exact ⟨by assumption, by assumption⟩ | exact ⟨by omega, rfl⟩ | exact ⟨by omega, by omega⟩ | exact ⟨by decide, rfl⟩) rfl rfl rfl rfl dP_loseGuest_1 ?_
  refine lv_iload_n hx hb dP_loseGuest_4 rfl (lv_at hl 1 rfl) ?_
  refine lv_icmp_eq hx hb dP_loseGuest_5 rfl (fun h_1 => ?_) (fun h_1 => ?_)
  · skip
    refine lv_aload_n hx hb dP_loseGuest_16 rfl (lv_at hl 0 rfl) ?_
    refine lv_bipush (v := 8) hx hb dP_loseGuest_17 (by decide) ?_
    refine s_cvE (va_runV (As := [.int _]) (rest := []) ⟨hx, hb, hml, hown, hw⟩ (c_P_changeOwner l  (by first | assumption | omega | decide)) (cwV 1 hw (gd_V (gwd_2 (List.mem_of_getElem? (i := 38) rfl)) (gwd_2 (List.mem_of_getElem? (i := 39) rfl)) (gwd_2 (List.mem_of_getElem? (i := 40) rfl)) (gwd_0 (List.mem_of_getElem? (i := 2) rfl)) (gwd_2 (List.mem_of_getElem? (i := 41) rfl))) rfl rfl rfl (by decide +kernel) ⟨Nat.le_of_ble_eq_true rfl, Nat.le_of_ble_eq_true rfl⟩) (gPre.V (n := (2, _, 0)) hK hH (by first | exact ⟨rfl, rfl⟩ | exact ⟨by assumption, rfl⟩ | exact ⟨by assumption, by assumption⟩ | exact ⟨by omega, rfl⟩ | exact ⟨by omega, by omega⟩ | exact ⟨by decide, rfl⟩) rfl rfl) rfl rfl hl.1 rfl (lv_room (Nat.le_of_ble_eq_true rfl)) dP_loseGuest_19 ⟨Nat.zero_le _, Nat.zero_le _⟩) hS (fun H locs hH hS => ?_)
    refine lv_aload_n hx hb dP_loseGuest_22 rfl (lv_at hl 0 rfl) ?_
    refine s_get hx hb hw inP hown hK hH 2 (by decide) (hw _ (gwd_0 (List.mem_of_getElem? (i := 25) rfl))) (by first | exact ⟨rfl, rfl⟩ | exact ⟨by assumption, rfl⟩ | exact ⟨by assumption, by assumption⟩ | exact ⟨by omega, rfl⟩ | exact ⟨by omega, by omega⟩ | exact ⟨by decide, rfl⟩) rfl rfl rfl rfl dP_loseGuest_23 ?_
    refine lv_iload_n hx hb dP_loseGuest_26 rfl (lv_at hl 1 rfl) ?_
    refine lv_icmp_ne hx hb dP_loseGuest_27 rfl (fun h_2 => ?_) (fun h_2 => ?_)
    · skip
      exact r_v hx hb hr hlk hK hH hS dP_loseGuest_35 (by simp_all [sLose, sLose1, h_1, h_2])
    · skip
      refine lv_aload_n hx hb dP_loseGuest_30 rfl (lv_at hl 0 rfl) ?_
      refine lv_iconst (v := 0) hx hb dP_loseGuest_31 (by decide) ?_
      refine s_put hx hb hw inP tyP_ok nP hown hK hH hS 2 (by decide) (hw _ (gwd_0 (List.mem_of_getElem? (i := 25) rfl))) (by first | exact ⟨rfl, rfl⟩ | exact ⟨by assumption, rfl⟩ | exact ⟨by assumption, by assumption⟩ | exact ⟨by omega, rfl⟩ | exact ⟨by omega, by omega⟩ | exact ⟨by decide, rfl⟩) rfl rfl rfl rfl rfl rfl rfl (Nat.le_of_ble_eq_true rfl) rfl dP_loseGuest_32 (fun H locs hH hS => ?_)
      exact r_v hx hb hr hlk hK hH hS dP_loseGuest_35 (by simp_all [sLose, sLose1, h_1, h_2])
  · skip
    refine lv_aload_n hx hb dP_loseGuest_8 rfl (lv_at hl 0 rfl) ?_
    refine s_get hx hb hw inP hown hK hH 3 (by decide) (hw _ (gwd_0 (List.mem_of_getElem? (i := 27) rfl))) (by first | exact ⟨rfl, rfl⟩ | exact ⟨by assumption, rfl⟩ | exact ⟨by assumption, by assumption⟩ | exact ⟨by omega, rfl⟩ | exact ⟨by omega, by omega⟩ | exact ⟨by decide, rfl⟩) rfl rfl rfl rfl dP_loseGuest_9 ?_
    refine lv_iload_n hx hb dP_loseGuest_12 rfl (lv_at hl 1 rfl) ?_
    refine lv_icmp_ne hx hb dP_loseGuest_13 rfl (fun h_3 => ?_) (fun h_3 => ?_)
    · skip
      refine lv_aload_n hx hb dP_loseGuest_22 rfl (lv_at hl 0 rfl) ?_
      refine s_get hx hb hw inP hown hK hH 2 (by decide) (hw _ (gwd_0 (List.mem_of_getElem? (i := 25) rfl))) (by first | exact ⟨rfl, rfl⟩ | exact ⟨by assumption, rfl⟩ | exact ⟨by assumption, by assumption⟩ | exact ⟨by omega, rfl⟩ | exact ⟨by omega, by omega⟩ | exact ⟨by decide, rfl⟩) rfl rfl rfl rfl dP_loseGuest_23 ?_
      refine lv_iload_n hx hb dP_loseGuest_26 rfl (lv_at hl 1 rfl) ?_
      refine lv_icmp_ne hx hb dP_loseGuest_27 rfl (fun h_4 => ?_) (fun h_4 => ?_)
      · skip
        exact r_v hx hb hr hlk hK hH hS dP_loseGuest_35 (by simp_all [sLose, sLose1, h_1, h_3, h_4])
      · skip
        refine lv_aload_n hx hb dP_loseGuest_30 rfl (lv_at hl 0 rfl) ?_
        refine lv_iconst (v := 0) hx hb dP_loseGuest_31 (by decide) ?_
        refine s_put hx hb hw inP tyP_ok nP hown hK hH hS 2 (by decide) (hw _ (gwd_0 (List.mem_of_getElem? (i := 25) rfl))) (by first | exact ⟨rfl, rfl⟩ | exact ⟨by assumption, rfl⟩ | exact ⟨by assumption, by assumption⟩ | exact ⟨by omega, rfl⟩ | exact ⟨by omega, by omega⟩ | exact ⟨by decide, rfl⟩) rfl rfl rfl rfl rfl rfl rfl (Nat.le_of_ble_eq_true rfl) rfl dP_loseGuest_32 (fun H locs hH hS => ?_)
        exact r_v hx hb hr hlk hK hH hS dP_loseGuest_35 (by simp_all [sLose, sLose1, h_1, h_3, h_4])
    · skip
      refine lv_aload_n hx hb dP_loseGuest_16 rfl (lv_at hl 0 rfl) ?_
      refine lv_bipush (v := 8) hx hb dP_loseGuest_17 (by decide) ?_
      refine s_cvE (va_runV (As := [.int _]) (rest := []) ⟨hx, hb, hml, hown, hw⟩ (c_P_changeOwner l  (by first | assumption | omega | decide)) (cwV 1 hw (gd_V (gwd_2 (List.mem_of_getElem? (i := 38) rfl)) (gwd_2 (List.mem_of_getElem? (i := 39) rfl)) (gwd_2 (List.mem_of_getElem? (i := 40) rfl)) (gwd_0 (List.mem_of_getElem? (i := 2) rfl)) (gwd_2 (List.mem_of_getElem? (i := 41) rfl))) rfl rfl rfl (by decide +kernel) ⟨Nat.le_of_ble_eq_true rfl, Nat.le_of_ble_eq_true rfl⟩) (gPre.V (n := (2, _, 0)) hK hH (by first | exact ⟨rfl, rfl⟩ | exact ⟨by assumption, rfl⟩ | exact ⟨by assumption, by assumption⟩ | exact ⟨by omega, rfl⟩ | exact ⟨by omega, by omega⟩ | exact ⟨by decide, rfl⟩) rfl rfl) rfl rfl hl.1 rfl (lv_room (Nat.le_of_ble_eq_true rfl)) dP_loseGuest_19 ⟨Nat.zero_le _, Nat.zero_le _⟩) hS (fun H locs hH hS => ?_)
      refine lv_aload_n hx hb dP_loseGuest_22 rfl (lv_at hl 0 rfl) ?_
      refine s_get hx hb hw inP hown hK hH 2 (by decide) (hw _ (gwd_0 (List.mem_of_getElem? (i := 25) rfl))) (by first | exact ⟨rfl, rfl⟩ | exact ⟨by assumption, rfl⟩ | exact ⟨by assumption, by assumption⟩ | exact ⟨by omega, rfl⟩ | exact ⟨by omega, by omega⟩ | exact ⟨by decide, rfl⟩) rfl rfl rfl rfl dP_loseGuest_23 ?_
      refine lv_iload_n hx hb dP_loseGuest_26 rfl (lv_at hl 1 rfl) ?_
      refine lv_icmp_ne hx hb dP_loseGuest_27 rfl (fun h_5 => ?_) (fun h_5 => ?_)
      · skip
        exact r_v hx hb hr hlk hK hH hS dP_loseGuest_35 (by simp_all [sLose, sLose1, h_1, h_3, h_5])
      · skip
        refine lv_aload_n hx hb dP_loseGuest_30 rfl (lv_at hl 0 rfl) ?_
        refine lv_iconst (v := 0) hx hb dP_loseGuest_31 (by decide) ?_
        refine s_put hx hb hw inP tyP_ok nP hown hK hH hS 2 (by decide) (hw _ (gwd_0 (List.mem_of_getElem? (i := 25) rfl))) (by first | exact ⟨rfl, rfl⟩ | exact ⟨by assumption, rfl⟩ | exact ⟨by assumption, by assumption⟩ | exact ⟨by omega, rfl⟩ | exact ⟨by omega, by omega⟩ | exact ⟨by decide, rfl⟩) rfl rfl rfl rfl rfl rfl rfl (Nat.le_of_ble_eq_true rfl) rfl dP_loseGuest_32 (fun H locs hH hS => ?_)
        exact r_v hx hb hr hlk hK hH hS dP_loseGuest_35 (by simp_all [sLose, sLose1, h_1, h_3, h_5])
